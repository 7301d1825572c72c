theorem pAppL {D : va_G} {w1 w2 : va_W} {H : Heap} (h : va_P D vwCl (w1 ++ w2) H) : va_P D vwCl w1 H := fun k q hk => h k q (by rw [List.getElem?_append_left (List.getElem?_eq_some_iff.mp hk).1]; exact hk)
theorem pAppR {D : va_G} {w1 w2 : va_W} {H : Heap} (h : va_P D vwCl (w1 ++ w2) H) : va_P D vwCl w2 H := fun k q hk => h (w1.length + k) q (by rw [List.getElem?_append_right (Nat.le_add_right _ _), Nat.add_sub_cancel_left]; exact hk)
theorem dAppL {A : Nat → Prop} {w1 w2 : va_W} (h : va_D A (w1 ++ w2)) : va_D A w1 := by
  have e : ∀ (k : Nat) (q : Nat × va_E), w1[k]? = some q → (w1 ++ w2)[k]? = some q := fun k q hk => by rw [List.getElem?_append_left (List.getElem?_eq_some_iff.mp hk).1]; exact hk
  exact ⟨fun i j x y hi hj hxy => h.1 i j x y (e i x hi) (e j y hj) hxy, fun k q hk => h.2 k q (e k q hk)⟩
theorem dAppR {A : Nat → Prop} {w1 w2 : va_W} (h : va_D A (w1 ++ w2)) : va_D A w2 := by
  have e : ∀ (k : Nat) (q : Nat × va_E), w2[k]? = some q → (w1 ++ w2)[w1.length + k]? = some q := fun k q hk => by rw [List.getElem?_append_right (Nat.le_add_right _ _), Nat.add_sub_cancel_left]; exact hk
  exact ⟨fun i j x y hi hj hxy => by have := h.1 _ _ x y (e i x hi) (e j y hj) hxy; omega, fun k q hk => h.2 _ q (e k q hk)⟩
/-- the two parts of a world have no cell in common -/
theorem dApart {A : Nat → Prop} {w1 w2 : va_W} (h : va_D A (w1 ++ w2)) (i j : Nat) (x y : Nat × va_E) (hi : w1[i]? = some x) (hj : w2[j]? = some y) : x.1 ≠ y.1 := by
  intro e
  have h1 := (List.getElem?_eq_some_iff.mp hi).1
  have := h.1 i (w1.length + j) x y (by rw [List.getElem?_append_left h1]; exact hi) (by rw [List.getElem?_append_right (Nat.le_add_right _ _), Nat.add_sub_cancel_left]; exact hj) e
  omega
theorem Wd.left {D : va_G} {A : Nat → Prop} {H0 : Heap} {w1 w2 : va_W} {H : Heap} {locs : List Loc} (h : Wd D A H0 (w1 ++ w2) H locs) : Wd D A H0 w1 H locs := ⟨pAppL h.1, dAppL h.2.1, h.2.2⟩
theorem Wd.right {D : va_G} {A : Nat → Prop} {H0 : Heap} {w1 w2 : va_W} {H : Heap} {locs : List Loc} (h : Wd D A H0 (w1 ++ w2) H locs) : Wd D A H0 w2 H locs := ⟨pAppR h.1, dAppR h.2.1, h.2.2⟩
theorem Wd.rejoinL {D : va_G} {A : Nat → Prop} {H0 : Heap} {w1 w2 w1' : va_W} {H H1 : Heap} {locs locs1 : List Loc} (h : Wd D A H0 (w1 ++ w2) H locs) (hA : ∀ q : Nat, H0.size ≤ q → A q) (hk : ∀ q : Nat, q < H.size → ¬ va_A w1 H.size q → H1[q]? = H[q]?) (hP1 : va_P D vwCl w1' H1) (hD1 : va_D (va_A w1 H.size) w1') (hS1 : va_S A H0 H1 locs1) : Wd D A H0 (w1' ++ w2) H1 locs1 := by
  have ap : ∀ (k : Nat) (q : Nat × va_E), w2[k]? = some q → q.1 < H.size ∧ ¬ va_A w1 H.size q.1 := fun k q hq => by
    have hl := (h.right.1 k q hq).lt
    refine ⟨hl, fun hz => ?_⟩
    rcases hz with ⟨i, e, hi⟩ | hz
    · exact dApart h.2.1 i k (q.1, e) q hi hq rfl
    · omega
  refine ⟨va_P.app hP1 (fun k q hq => ?_), va_D.app (hD1.weaken (fun k q _ hz => h.left.free hA q.1 hz)) h.right.2.1 (fun i j x y hx hy hxy => ?_), hS1⟩
  · obtain ⟨g1, g2⟩ := ap k q hq
    exact (h.right.1 k q hq).kept (hk q.1 g1 g2)
  · exact (ap j y hy).2 (by rw [← hxy]; exact hD1.2 i x hx)
theorem Wd.rejoinR {D : va_G} {A : Nat → Prop} {H0 : Heap} {w1 w2 w2' : va_W} {H H1 : Heap} {locs locs1 : List Loc} (h : Wd D A H0 (w1 ++ w2) H locs) (hA : ∀ q : Nat, H0.size ≤ q → A q) (hk : ∀ q : Nat, q < H.size → ¬ va_A w2 H.size q → H1[q]? = H[q]?) (hP1 : va_P D vwCl w2' H1) (hD1 : va_D (va_A w2 H.size) w2') (hS1 : va_S A H0 H1 locs1) : Wd D A H0 (w1 ++ w2') H1 locs1 := by
  have ap : ∀ (k : Nat) (q : Nat × va_E), w1[k]? = some q → q.1 < H.size ∧ ¬ va_A w2 H.size q.1 := fun k q hq => by
    have hl := (h.left.1 k q hq).lt
    refine ⟨hl, fun hz => ?_⟩
    rcases hz with ⟨i, e, hi⟩ | hz
    · exact dApart h.2.1 k i q (q.1, e) hq hi rfl
    · omega
  refine ⟨va_P.app (fun k q hq => ?_) hP1, va_D.app h.left.2.1 (hD1.weaken (fun k q _ hz => h.right.free hA q.1 hz)) (fun i j x y hx hy hxy => ?_), hS1⟩
  · obtain ⟨g1, g2⟩ := ap k q hq
    exact (h.left.1 k q hq).kept (hk q.1 g1 g2)
  · exact (ap i x hx).2 (by rw [hxy]; exact hD1.2 j y hy)
section OwnFramed
variable {p : Program} {l : Launch} {e : Env} {R : Room} {s : State} {m : MethodId} {args : Array Value} {below : List Frame} {meth : Method} {c : Code} {H : Heap} {locs : List Loc} {cells slots : Nat} {Q : State → Prop} {pc : Nat} {ls : Array Slot}
variable {y : MethodName} {bytes cc : ByteArray} {maxL nL n index mc ms : Nat} {ret : Option FieldType} {wsy Ts : List Cond} {rm : Room} {own C : String} {b : Addr} {As rest st0 : List Value} {D : va_G} {tys : List (ClassId × FieldType)} {A : Nat → Prop} {H0 : Heap} {w1 w2 : va_W} {ci : Nat} {T : u_T} {N : Nat} {fs : List Value} {px : String → Prop}
theorem kVL_Mi {S : Type} {post : Int32 → S → Prop} {wf : S → va_W} (X : CallFix p m c cc nL s args Ts own) (hM : Mi l y wsy rm (.ref b :: As) D tys w1 H.size post wf) (cw : CallW R s args own C index y bytes maxL ret wsy rm 0 0 n) (hK : va_K D vwCl tys s) (hW : Wd D A H0 (w1 ++ w2) H locs) (hA : ∀ q : Nat, H0.size ≤ q → A q) (q0 : Nat) (he : w1[q0]? = some (b, .inr (ci, fs))) (hc : vwCl[ci]? = some (C, T, N)) (hn : As.length = n) (hsz : ls.size = nL) (hst : st0 = As.reverse ++ .ref b :: rest) (hrm : (rest.map fun v => v.category).sum ≤ 8) (hdg : decode cc pc = .ok (.invokevirtual index, 3)) (hf : cells + 0 ≤ R.cells ∧ slots + 0 ≤ R.slots)
    (kk : ∀ (r : Int32) (u : S) (H1 : Heap) (locs1 : List Loc), post r u → Wd D A H0 (wf u ++ w2) H1 locs1 → W p l e R s m args below meth c H1 locs1 cells slots Q (F0 m (pc + 3) ls (.int r :: rest))) : W p l e R s m args below meth c H locs cells slots Q (F0 m pc ls st0) := by
  have hW1 := hW.left
  have hF := hW1.free hA
  refine va_calli (va_runV (As := As) (rest := rest) X hM cw ⟨pre_W_blind, va_recv hK hW1.1 hc he, fun U hU hWm => ⟨rfl, by rw [hU], by rw [hU]; exact hW1.1, va_K.moved hWm.alike hK, hW1.2.1.weaken (fun _ _ _ _ => trivial)⟩⟩ rfl hn hsz hst (lv_room hrm) hdg hf) hW.2.2 (fun q _ h => hF q h) hF (fun r u t H1 locs1 ht hvm hp hB hz1 hk1 hS1 => ?_)
  obtain ⟨hP1, hK1, hD1⟩ := hB
  exact kk r u H1 locs1 hp (hW.rejoinL hA hk1 (by rw [← ht]; exact hP1) hD1 hS1)
theorem kVR_Mi {S : Type} {post : Int32 → S → Prop} {wf : S → va_W} (X : CallFix p m c cc nL s args Ts own) (hM : Mi l y wsy rm (.ref b :: As) D tys w2 H.size post wf) (cw : CallW R s args own C index y bytes maxL ret wsy rm 0 0 n) (hK : va_K D vwCl tys s) (hW : Wd D A H0 (w1 ++ w2) H locs) (hA : ∀ q : Nat, H0.size ≤ q → A q) (q0 : Nat) (he : w2[q0]? = some (b, .inr (ci, fs))) (hc : vwCl[ci]? = some (C, T, N)) (hn : As.length = n) (hsz : ls.size = nL) (hst : st0 = As.reverse ++ .ref b :: rest) (hrm : (rest.map fun v => v.category).sum ≤ 8) (hdg : decode cc pc = .ok (.invokevirtual index, 3)) (hf : cells + 0 ≤ R.cells ∧ slots + 0 ≤ R.slots)
    (kk : ∀ (r : Int32) (u : S) (H1 : Heap) (locs1 : List Loc), post r u → Wd D A H0 (w1 ++ wf u) H1 locs1 → W p l e R s m args below meth c H1 locs1 cells slots Q (F0 m (pc + 3) ls (.int r :: rest))) : W p l e R s m args below meth c H locs cells slots Q (F0 m pc ls st0) := by
  have hW1 := hW.right
  have hF := hW1.free hA
  refine va_calli (va_runV (As := As) (rest := rest) X hM cw ⟨pre_W_blind, va_recv hK hW1.1 hc he, fun U hU hWm => ⟨rfl, by rw [hU], by rw [hU]; exact hW1.1, va_K.moved hWm.alike hK, hW1.2.1.weaken (fun _ _ _ _ => trivial)⟩⟩ rfl hn hsz hst (lv_room hrm) hdg hf) hW.2.2 (fun q _ h => hF q h) hF (fun r u t H1 locs1 ht hvm hp hB hz1 hk1 hS1 => ?_)
  obtain ⟨hP1, hK1, hD1⟩ := hB
  exact kk r u H1 locs1 hp (hW.rejoinR hA hk1 (by rw [← ht]; exact hP1) hD1 hS1)
theorem kVL_Ml {S : Type} {post : Int64 → S → Prop} {wf : S → va_W} (X : CallFix p m c cc nL s args Ts own) (hM : Ml l y wsy rm (.ref b :: As) D tys w1 H.size post wf) (cw : CallW R s args own C index y bytes maxL ret wsy rm 0 0 n) (hK : va_K D vwCl tys s) (hW : Wd D A H0 (w1 ++ w2) H locs) (hA : ∀ q : Nat, H0.size ≤ q → A q) (q0 : Nat) (he : w1[q0]? = some (b, .inr (ci, fs))) (hc : vwCl[ci]? = some (C, T, N)) (hn : As.length = n) (hsz : ls.size = nL) (hst : st0 = As.reverse ++ .ref b :: rest) (hrm : (rest.map fun v => v.category).sum ≤ 8) (hdg : decode cc pc = .ok (.invokevirtual index, 3)) (hf : cells + 0 ≤ R.cells ∧ slots + 0 ≤ R.slots)
    (kk : ∀ (r : Int64) (u : S) (H1 : Heap) (locs1 : List Loc), post r u → Wd D A H0 (wf u ++ w2) H1 locs1 → W p l e R s m args below meth c H1 locs1 cells slots Q (F0 m (pc + 3) ls (.long r :: rest))) : W p l e R s m args below meth c H locs cells slots Q (F0 m pc ls st0) := by
  have hW1 := hW.left
  have hF := hW1.free hA
  refine va_calll (va_runV (As := As) (rest := rest) X hM cw ⟨pre_W_blind, va_recv hK hW1.1 hc he, fun U hU hWm => ⟨rfl, by rw [hU], by rw [hU]; exact hW1.1, va_K.moved hWm.alike hK, hW1.2.1.weaken (fun _ _ _ _ => trivial)⟩⟩ rfl hn hsz hst (lv_room hrm) hdg hf) hW.2.2 (fun q _ h => hF q h) hF (fun r u t H1 locs1 ht hvm hp hB hz1 hk1 hS1 => ?_)
  obtain ⟨hP1, hK1, hD1⟩ := hB
  exact kk r u H1 locs1 hp (hW.rejoinL hA hk1 (by rw [← ht]; exact hP1) hD1 hS1)
theorem kVR_Ml {S : Type} {post : Int64 → S → Prop} {wf : S → va_W} (X : CallFix p m c cc nL s args Ts own) (hM : Ml l y wsy rm (.ref b :: As) D tys w2 H.size post wf) (cw : CallW R s args own C index y bytes maxL ret wsy rm 0 0 n) (hK : va_K D vwCl tys s) (hW : Wd D A H0 (w1 ++ w2) H locs) (hA : ∀ q : Nat, H0.size ≤ q → A q) (q0 : Nat) (he : w2[q0]? = some (b, .inr (ci, fs))) (hc : vwCl[ci]? = some (C, T, N)) (hn : As.length = n) (hsz : ls.size = nL) (hst : st0 = As.reverse ++ .ref b :: rest) (hrm : (rest.map fun v => v.category).sum ≤ 8) (hdg : decode cc pc = .ok (.invokevirtual index, 3)) (hf : cells + 0 ≤ R.cells ∧ slots + 0 ≤ R.slots)
    (kk : ∀ (r : Int64) (u : S) (H1 : Heap) (locs1 : List Loc), post r u → Wd D A H0 (w1 ++ wf u) H1 locs1 → W p l e R s m args below meth c H1 locs1 cells slots Q (F0 m (pc + 3) ls (.long r :: rest))) : W p l e R s m args below meth c H locs cells slots Q (F0 m pc ls st0) := by
  have hW1 := hW.right
  have hF := hW1.free hA
  refine va_calll (va_runV (As := As) (rest := rest) X hM cw ⟨pre_W_blind, va_recv hK hW1.1 hc he, fun U hU hWm => ⟨rfl, by rw [hU], by rw [hU]; exact hW1.1, va_K.moved hWm.alike hK, hW1.2.1.weaken (fun _ _ _ _ => trivial)⟩⟩ rfl hn hsz hst (lv_room hrm) hdg hf) hW.2.2 (fun q _ h => hF q h) hF (fun r u t H1 locs1 ht hvm hp hB hz1 hk1 hS1 => ?_)
  obtain ⟨hP1, hK1, hD1⟩ := hB
  exact kk r u H1 locs1 hp (hW.rejoinR hA hk1 (by rw [← ht]; exact hP1) hD1 hS1)
theorem kVL_Mf {S : Type} {post : UInt32 → S → Prop} {wf : S → va_W} (X : CallFix p m c cc nL s args Ts own) (hM : Mf l y wsy rm (.ref b :: As) D tys w1 H.size post wf) (cw : CallW R s args own C index y bytes maxL ret wsy rm 0 0 n) (hK : va_K D vwCl tys s) (hW : Wd D A H0 (w1 ++ w2) H locs) (hA : ∀ q : Nat, H0.size ≤ q → A q) (q0 : Nat) (he : w1[q0]? = some (b, .inr (ci, fs))) (hc : vwCl[ci]? = some (C, T, N)) (hn : As.length = n) (hsz : ls.size = nL) (hst : st0 = As.reverse ++ .ref b :: rest) (hrm : (rest.map fun v => v.category).sum ≤ 8) (hdg : decode cc pc = .ok (.invokevirtual index, 3)) (hf : cells + 0 ≤ R.cells ∧ slots + 0 ≤ R.slots)
    (kk : ∀ (r : UInt32) (u : S) (H1 : Heap) (locs1 : List Loc), post r u → Wd D A H0 (wf u ++ w2) H1 locs1 → W p l e R s m args below meth c H1 locs1 cells slots Q (F0 m (pc + 3) ls (.float r :: rest))) : W p l e R s m args below meth c H locs cells slots Q (F0 m pc ls st0) := by
  have hW1 := hW.left
  have hF := hW1.free hA
  refine va_callf (va_runV (As := As) (rest := rest) X hM cw ⟨pre_W_blind, va_recv hK hW1.1 hc he, fun U hU hWm => ⟨rfl, by rw [hU], by rw [hU]; exact hW1.1, va_K.moved hWm.alike hK, hW1.2.1.weaken (fun _ _ _ _ => trivial)⟩⟩ rfl hn hsz hst (lv_room hrm) hdg hf) hW.2.2 (fun q _ h => hF q h) hF (fun r u t H1 locs1 ht hvm hp hB hz1 hk1 hS1 => ?_)
  obtain ⟨hP1, hK1, hD1⟩ := hB
  exact kk r u H1 locs1 hp (hW.rejoinL hA hk1 (by rw [← ht]; exact hP1) hD1 hS1)
theorem kVR_Mf {S : Type} {post : UInt32 → S → Prop} {wf : S → va_W} (X : CallFix p m c cc nL s args Ts own) (hM : Mf l y wsy rm (.ref b :: As) D tys w2 H.size post wf) (cw : CallW R s args own C index y bytes maxL ret wsy rm 0 0 n) (hK : va_K D vwCl tys s) (hW : Wd D A H0 (w1 ++ w2) H locs) (hA : ∀ q : Nat, H0.size ≤ q → A q) (q0 : Nat) (he : w2[q0]? = some (b, .inr (ci, fs))) (hc : vwCl[ci]? = some (C, T, N)) (hn : As.length = n) (hsz : ls.size = nL) (hst : st0 = As.reverse ++ .ref b :: rest) (hrm : (rest.map fun v => v.category).sum ≤ 8) (hdg : decode cc pc = .ok (.invokevirtual index, 3)) (hf : cells + 0 ≤ R.cells ∧ slots + 0 ≤ R.slots)
    (kk : ∀ (r : UInt32) (u : S) (H1 : Heap) (locs1 : List Loc), post r u → Wd D A H0 (w1 ++ wf u) H1 locs1 → W p l e R s m args below meth c H1 locs1 cells slots Q (F0 m (pc + 3) ls (.float r :: rest))) : W p l e R s m args below meth c H locs cells slots Q (F0 m pc ls st0) := by
  have hW1 := hW.right
  have hF := hW1.free hA
  refine va_callf (va_runV (As := As) (rest := rest) X hM cw ⟨pre_W_blind, va_recv hK hW1.1 hc he, fun U hU hWm => ⟨rfl, by rw [hU], by rw [hU]; exact hW1.1, va_K.moved hWm.alike hK, hW1.2.1.weaken (fun _ _ _ _ => trivial)⟩⟩ rfl hn hsz hst (lv_room hrm) hdg hf) hW.2.2 (fun q _ h => hF q h) hF (fun r u t H1 locs1 ht hvm hp hB hz1 hk1 hS1 => ?_)
  obtain ⟨hP1, hK1, hD1⟩ := hB
  exact kk r u H1 locs1 hp (hW.rejoinR hA hk1 (by rw [← ht]; exact hP1) hD1 hS1)
theorem kVL_Md {S : Type} {post : UInt64 → S → Prop} {wf : S → va_W} (X : CallFix p m c cc nL s args Ts own) (hM : Md l y wsy rm (.ref b :: As) D tys w1 H.size post wf) (cw : CallW R s args own C index y bytes maxL ret wsy rm 0 0 n) (hK : va_K D vwCl tys s) (hW : Wd D A H0 (w1 ++ w2) H locs) (hA : ∀ q : Nat, H0.size ≤ q → A q) (q0 : Nat) (he : w1[q0]? = some (b, .inr (ci, fs))) (hc : vwCl[ci]? = some (C, T, N)) (hn : As.length = n) (hsz : ls.size = nL) (hst : st0 = As.reverse ++ .ref b :: rest) (hrm : (rest.map fun v => v.category).sum ≤ 8) (hdg : decode cc pc = .ok (.invokevirtual index, 3)) (hf : cells + 0 ≤ R.cells ∧ slots + 0 ≤ R.slots)
    (kk : ∀ (r : UInt64) (u : S) (H1 : Heap) (locs1 : List Loc), post r u → Wd D A H0 (wf u ++ w2) H1 locs1 → W p l e R s m args below meth c H1 locs1 cells slots Q (F0 m (pc + 3) ls (.double r :: rest))) : W p l e R s m args below meth c H locs cells slots Q (F0 m pc ls st0) := by
  have hW1 := hW.left
  have hF := hW1.free hA
  refine va_calld (va_runV (As := As) (rest := rest) X hM cw ⟨pre_W_blind, va_recv hK hW1.1 hc he, fun U hU hWm => ⟨rfl, by rw [hU], by rw [hU]; exact hW1.1, va_K.moved hWm.alike hK, hW1.2.1.weaken (fun _ _ _ _ => trivial)⟩⟩ rfl hn hsz hst (lv_room hrm) hdg hf) hW.2.2 (fun q _ h => hF q h) hF (fun r u t H1 locs1 ht hvm hp hB hz1 hk1 hS1 => ?_)
  obtain ⟨hP1, hK1, hD1⟩ := hB
  exact kk r u H1 locs1 hp (hW.rejoinL hA hk1 (by rw [← ht]; exact hP1) hD1 hS1)
theorem kVR_Md {S : Type} {post : UInt64 → S → Prop} {wf : S → va_W} (X : CallFix p m c cc nL s args Ts own) (hM : Md l y wsy rm (.ref b :: As) D tys w2 H.size post wf) (cw : CallW R s args own C index y bytes maxL ret wsy rm 0 0 n) (hK : va_K D vwCl tys s) (hW : Wd D A H0 (w1 ++ w2) H locs) (hA : ∀ q : Nat, H0.size ≤ q → A q) (q0 : Nat) (he : w2[q0]? = some (b, .inr (ci, fs))) (hc : vwCl[ci]? = some (C, T, N)) (hn : As.length = n) (hsz : ls.size = nL) (hst : st0 = As.reverse ++ .ref b :: rest) (hrm : (rest.map fun v => v.category).sum ≤ 8) (hdg : decode cc pc = .ok (.invokevirtual index, 3)) (hf : cells + 0 ≤ R.cells ∧ slots + 0 ≤ R.slots)
    (kk : ∀ (r : UInt64) (u : S) (H1 : Heap) (locs1 : List Loc), post r u → Wd D A H0 (w1 ++ wf u) H1 locs1 → W p l e R s m args below meth c H1 locs1 cells slots Q (F0 m (pc + 3) ls (.double r :: rest))) : W p l e R s m args below meth c H locs cells slots Q (F0 m pc ls st0) := by
  have hW1 := hW.right
  have hF := hW1.free hA
  refine va_calld (va_runV (As := As) (rest := rest) X hM cw ⟨pre_W_blind, va_recv hK hW1.1 hc he, fun U hU hWm => ⟨rfl, by rw [hU], by rw [hU]; exact hW1.1, va_K.moved hWm.alike hK, hW1.2.1.weaken (fun _ _ _ _ => trivial)⟩⟩ rfl hn hsz hst (lv_room hrm) hdg hf) hW.2.2 (fun q _ h => hF q h) hF (fun r u t H1 locs1 ht hvm hp hB hz1 hk1 hS1 => ?_)
  obtain ⟨hP1, hK1, hD1⟩ := hB
  exact kk r u H1 locs1 hp (hW.rejoinR hA hk1 (by rw [← ht]; exact hP1) hD1 hS1)
theorem kVL_Xi {S : Type} {post : Int32 → S → Prop} {wf : S → va_W} (X : CallFix p m c cc nL s args Ts own) (hM : Xi l y wsy rm (.ref b :: As) D tys w1 H.size post wf px mc ms) (cw : CallW R s args own C index y bytes maxL ret wsy rm mc ms n) (hK : va_K D vwCl tys s) (hW : Wd D A s.heap (w1 ++ w2) H locs) (hA : ∀ q : Nat, s.heap.size ≤ q → A q) (hz : ZX A s s.heap) (hs : SX s) (q0 : Nat) (he : w1[q0]? = some (b, .inr (ci, fs))) (hc : vwCl[ci]? = some (C, T, N)) (hn : As.length = n) (hsz : ls.size = nL) (hst : st0 = As.reverse ++ .ref b :: rest) (hrm : (rest.map fun v => v.category).sum ≤ 8) (hdg : decode cc pc = .ok (.invokevirtual index, 3)) (hf : cells + mc ≤ R.cells ∧ slots + ms ≤ R.slots)
    (kx : ∀ (E : String) (ce : Cell) (q : Nat) (H1 : Heap) (locs1 : List Loc), px E → Wd D A s.heap (w1 ++ w2) H1 locs1 → H1[q]? = some ce → ce.vm = .none → s.vm.findClass E = some ce.cls → vx_W p l e R s m args below meth c H1 locs1 (cells + mc) (slots + ms) Q (F0 m pc ls rest) q)
    (kk : ∀ (r : Int32) (u : S) (H1 : Heap) (locs1 : List Loc), post r u → Wd D A s.heap (wf u ++ w2) H1 locs1 → W p l e R s m args below meth c H1 locs1 (cells + mc) (slots + ms) Q (F0 m (pc + 3) ls (.int r :: rest))) : W p l e R s m args below meth c H locs cells slots Q (F0 m pc ls st0) := by
  have hW1 := hW.left
  have hF := hW1.free hA
  refine vx_calli (vx_runV (As := As) (rest := rest) X hM cw ⟨preX_W_blind, va_recv hK hW1.1 hc he, fun U hU hWm => ⟨rfl, ⟨by rw [hU], by rw [hU]; exact hW1.1, va_K.moved hWm.alike hK, hW1.2.1.weaken (fun _ _ _ _ => trivial)⟩, by rw [hU]; exact ((hz.kept hW.2.2.2.1).moved hWm.alike).narrow hF, hs.warm hWm⟩⟩ rfl hn hsz hst (lv_room hrm) hdg hf) hW.2.2 (fun q _ h => hF q h) hF (fun q _ h => hF q h) (fun E ce q u t H1 locs1 ht hal _ hB hz1 hk1 hS1 hce hcv hcl => ?_) (fun r u t H1 locs1 ht hvm hp hB hz1 hk1 hS1 => ?_)
  · obtain ⟨hp, hP1, hK1, hD1⟩ := hB
    exact kx E ce q H1 locs1 hp (hW.rejoinL hA hk1 (by rw [← ht]; exact hP1) hD1 hS1) hce hcv hcl
  · obtain ⟨hP1, hK1, hD1⟩ := hB
    exact kk r u H1 locs1 hp (hW.rejoinL hA hk1 (by rw [← ht]; exact hP1) hD1 hS1)
end OwnFramed
/-- of the three exceptions none is another -/
def NCX (U : State) : Prop := va_Nc "java/lang/IllegalArgumentException" "java/lang/IndexOutOfBoundsException" U ∧ va_Nc "java/lang/IllegalStateException" "java/lang/IndexOutOfBoundsException" U ∧ va_Nc "java/lang/IllegalStateException" "java/lang/IllegalArgumentException" U
theorem NCX.moved {u U : State} (hvm : u.vm.Alike U.vm) (h : NCX u) : NCX U := ⟨h.1.moved hvm, h.2.1.moved hvm, h.2.2.moved hvm⟩
def hWW (cI cJ : ClassId) (a : Nat → Nat) (o : Nat) (σ : CS) (f : Nat → Int64) : va_W := cW cI cJ a σ ++ [(o, .inl (cJ, 1, .inr (.inl f)))]
def preL (D : va_G) (tys : List (ClassId × FieldType)) (w : va_W) (sz : Nat) : State → Prop := fun U => preX_W D tys w sz U ∧ NCX U
theorem preL_blind {D : va_G} {tys : List (ClassId × FieldType)} {ws : va_W} {sz : Nat} {av : List Value} : FrameBlind (va_Pc av (preL D tys ws sz)) := fun a U g mk q => by
  obtain ⟨q0, q1, q2⟩ := q
  exact ⟨q0, (preX_W_blind (av := av) a U g mk ⟨q0, q1⟩).2, NCX.moved (u := U) (U := U.calling g mk a) (Vm.Alike.refl U.vm) q2⟩
def Hi {S : Type} (l : Launch) (y : MethodName) (ws : List Cond) (rm : Room) (av : List Value) (D : va_G) (tys : List (ClassId × FieldType)) (w : va_W) (sz : Nat) (post : Int32 → S → Prop) (wf : S → va_W) (mc ms : Nat) : Prop := Met l y ws rm (va_Pc av (preL D tys w sz)) (va_Qi post (fun u => post_W D tys (va_A w sz) (wf u)) (va_A w sz)) mc ms (va_A w sz)
theorem my_ofWH {l : Launch} {y : MethodName} {ws ws' : List Cond} {rm : Room} {Pc : Array Value → State → Prop} {Qc : Array Value → State → Outcome → State → Prop} {mc ms : Nat} {free : Addr → Prop} {cc : ByteArray} {maxL : Nat} {ret : Option FieldType} {hh : List (Nat × Nat × Nat × Nat)}
    (hy : plainName y.cls = true) (hw : ws = Cond.codeWith y cc maxL ret hh :: ws')
    (body : ∀ p e s m args below meth c s₁, BodyLoose p l y (headSpec ws rm) cc maxL ret e s m args below meth c s₁ → c.maxLocals = maxL → c.exceptionTable.toList = tableOf hh → Pc args s →
      W p l e (headSpec ws rm).room s m args below meth c s.heap [] 0 0 (MQ below Qc args s mc ms free) (entryFrame m args maxL)) : Met l y ws rm Pc Qc mc ms free := by
  refine MetFree.of_bodyS (code := cc) (maxLocals := maxL) (ret := ret) hy ?_ ?_
  · intro args s m h hn
    obtain ⟨m9, meth, c, hn9, h1, h2, h3, h4, -, h5, h6, -⟩ := Cond.codeWith_spec (atoms_spec (ws := ws) h _ (by rw [hw]; exact List.mem_cons_self))
    cases hn.symm.trans hn9
    exact ⟨meth, c, h1, h2, h3, h4, h5, h6⟩
  · intro p e s m args below meth c s₁ B hml hP _
    have hh0 : s₁.heap = s.heap := by rw [B.state]; rfl
    have hcw : (Cond.codeWith y cc maxL ret hh).before args s = true := atoms_spec (ws := ws) B.pre _ (by rw [hw]; exact List.mem_cons_self)
    obtain ⟨t, a1, o, b1, b2, b3⟩ := body p e s m args below meth c s₁ B hml (vx_table (x := y) B hcw) hP s₁ hh0 (Stand.of_body B)
    exact ⟨t, o, a1, b1, b2, b3⟩
theorem s_H {S : Type} {l : Launch} {y : MethodName} {ws ws' : List Cond} {rm : Room} {cc : ByteArray} {maxL mc ms : Nat} {av : List Value} {D : va_G} {tys : List (ClassId × FieldType)} {w : va_W} {sz : Nat} {post : Int32 → S → Prop} {wf : S → va_W} {hh : List (Nat × Nat × Nat × Nat)} (hy : plainName y.cls = true) (hw : ws = Cond.codeWith y cc maxL (some .int) hh :: ws') (hav : (lg_sl av).length ≤ maxL)
    (body : ∀ (p : Program) (e : Env) (s : State) (m : MethodId) (args : Array Value) (below : List Frame) (meth : Method) (c : Code) (A : Nat → Prop) (Q : State → Prop), p.tables.exec = Jvm.exec → c.code = cc → c.maxLocals = maxL → (∀ w ∈ ws, w.before args s = true) → s.vm.findClass y.cls = some m.cls → c.exceptionTable.toList = tableOf hh → va_K D vwCl tys s → (∀ q : Nat, s.heap.size ≤ q → A q) → ZX A s s.heap → SX s → NCX s → (∀ (v : Int32) (u : S) (H : Heap) (locs : List Loc) (pc : Nat) (ls : Array Slot) (cells slots : Nat), cells ≤ mc → slots ≤ ms → post v u → Wd D A s.heap (wf u) H locs → decode cc pc = .ok (.ireturn, 1) → W p l e rm s m args below meth c H locs cells slots Q (F0 m pc ls [.int v])) → ∀ (H : Heap) (locs : List Loc) (ls : Array Slot), Wd D A s.heap w H locs → lv_has ls maxL (lv_args 0 av) → W p l e rm s m args below meth c H locs 0 0 Q (F0 m 0 ls [])) : Hi l y ws rm av D tys w sz post wf mc ms := by
  refine my_ofWH (cc := cc) (maxL := maxL) (ret := some .int) hy hw ?_
  intro p e s m args below meth c s₁ B hml htab hv
  obtain ⟨rfl, ⟨⟨hsz, hP, hK, hD0⟩, hz, hs⟩, hnc⟩ := hv
  have hx := B.exec
  have hb := B.bytes
  have hr := B.returns
  have hts := atoms_spec (ws := ws) B.pre
  have hown : s.vm.findClass y.cls = some m.cls := findClass_of_methodNamed B.named
  have hlocks := B.notSynchronized
  subst hsz
  have hl := lv_entry av (n := maxL) hav
  rw [lg_entry_eq]
  refine body p e s m _ below meth c (va_A w s.heap.size) _ hx hb hml hts hown htab hK (fun q h => Or.inr h) hz hs hnc ?_ s.heap [] _ ⟨hP, hD0.self, va_S.rf⟩ hl
  intro v u H locs pc ls cells slots h1 h2 hp hW hdg
  refine W.widen (k := mc) (n := ms) h1 h2 ?_
  exact W.iret hx hb hr (fun t ht hWm => ⟨⟨v, u, rfl, hp, by rw [ht]; exact hW.1, va_K.moved hWm.alike hK, hW.2.1⟩, hW.2.2.F ht⟩) hW.2.2.2.2 hdg
def wp_L_price (σ : CS) (f : Nat → Int64) (p1 : Int32) (p2 : Int32) (post : Int32 → CS → (Nat → Int64) → Prop) : Prop := wp_X4_price σ p1 p2 (fun r σ1 => post 0 σ1 (vp_updL f ((0 : Int32)).toNatClampNeg (r).toInt64)) (fun E => (E = "java/lang/IndexOutOfBoundsException" ∧ post 1 σ f) ∨ (E = "java/lang/IllegalArgumentException" ∧ post 2 σ f))
abbrev rm_L_price : Room := { frames := 10, cells := 2, slots := 12, locals := 185 }
theorem in_L_price_X4 : ∀ w ∈ wsX40, w ∈ wsL_price := fun w h => List.mem_cons_of_mem _ (List.mem_append_left _ (List.mem_append_left _ (List.mem_append_left _ (List.mem_append_left _ (List.mem_append_right _ (h))))))
set_option maxHeartbeats 4000000 in
set_option maxRecDepth 100000 in
theorem ok_L_price (l : Launch) (hst : l.stackTraces = false) (D : va_G) (cI cJ : ClassId) (a : Nat → Nat) (o sz : Nat) (σ : CS) (f : Nat → Int64) (p1 : Int32) (p2 : Int32) (post : Int32 → CS → (Nat → Int64) → Prop) (hw : wp_L_price σ f p1 p2 post) : Hi l yL_price wsL_price rm_L_price [.ref (a 0), .int p1, .int p2, .ref o] D (tysIJ cI cJ) (hWW cI cJ a o σ f) sz (fun k (u : CS × (Nat → Int64)) => post k u.1 u.2) (fun u => hWW cI cJ a o u.1 u.2) 2 12 := by
  refine s_H (by decide) rfl (Nat.le_of_ble_eq_true rfl) ?_
  intro p e s m args below meth c A Q hx hb hml hts hown htab hK hA hz hs hnc hret H locs ls hW hl
  have hown : s.vm.findClass RL = some m.cls := hown
  have hl : lv_has ls 5 [(0, .ref (a 0)), (1, .int p1), (2, .int p2), (3, .ref o)] := hl
  refine lv_aload_n hx hb dL_price_0 rfl (lv_at hl 3 rfl) ?_
  refine lv_iconst (v := 0) hx hb dL_price_1 (by decide) ?_
  refine lv_aload_n hx hb dL_price_2 rfl (lv_at hl 0 rfl) ?_
  refine lv_iload_n hx hb dL_price_3 rfl (lv_at hl 1 rfl) ?_
  refine lv_iload_n hx hb dL_price_4 rfl (lv_at hl 2 rfl) ?_
  refine kVL_Xi (w1 := cW cI cJ a σ) (w2 := [(o, .inl (cJ, 1, .inr (.inl f)))]) (As := [.int p1, .int p2]) (rest := [.int 0, .ref o]) ⟨hx, hb, hml, hown, hts⟩ (ok_X4_price l hst D cI cJ a _ _ _ _ _ _ hw) (cwV 2 hts gL_price_X4_price rfl rfl rfl (by decide +kernel) ⟨(Nat.le_of_ble_eq_true rfl), (Nat.le_of_ble_eq_true rfl)⟩) hK hW hA hz hs 0 rfl rfl rfl hl.1 rfl (Nat.le_of_ble_eq_true rfl) dL_price_5 ⟨(Nat.le_of_ble_eq_true rfl), (Nat.le_of_ble_eq_true rfl)⟩ (fun E ce q H locs hE hW hce hcv hcl => ?_) (fun r σ1 H locs hw hW => ?_)
  · obtain ⟨⟨s0, h0⟩, ⟨s1, h1⟩, ⟨s2, h2⟩, ⟨s3, h3⟩, ⟨s4, h4⟩, ⟨s5, h5⟩, ⟨s6, h6⟩, n0, n1, n2, n3, n4, n5⟩ := hs
    rcases hE with ⟨rfl, hp⟩ | ⟨rfl, hp⟩
    · refine vx_catch (name := "java/lang/IndexOutOfBoundsException") hown [] ⟨0, 10, 13, 13⟩ [⟨0, 10, 17, 15⟩] (htab.trans rfl) (fun z hz => absurd hz List.not_mem_nil) (by decide) (by decide) (hts _ (List.mem_of_getElem? (i := 1) rfl)) (va_Nw.use rfl n0) hce hcv hcl ?_
      refine lv_astore (lv' := [(4, .ref q), (0, .ref (a 0)), (1, .int p1), (2, .int p2), (3, .ref o)]) hx hb dL_price_13 hl (by decide) rfl (fun ls hl => ?_)
      refine lv_iconst (v := 1) hx hb dL_price_15 (by decide) ?_
      exact hret 1 (σ, f) _ _ _ _ _ _ (Nat.le_of_ble_eq_true rfl) (Nat.le_of_ble_eq_true rfl) hp hW dL_price_16
    · refine vx_catch (name := "java/lang/IllegalArgumentException") hown [⟨0, 10, 13, 13⟩] ⟨0, 10, 17, 15⟩ [] (htab.trans rfl) (fun z hz => by obtain rfl := List.mem_singleton.mp hz; exact Or.inr ⟨by decide, "java/lang/IndexOutOfBoundsException", hts _ (List.mem_of_getElem? (i := 1) rfl), hnc.1⟩) (by decide) (by decide) (hts _ (List.mem_of_getElem? (i := 2) rfl)) (va_Nw.use rfl n1) hce hcv hcl ?_
      refine lv_astore (lv' := [(4, .ref q), (0, .ref (a 0)), (1, .int p1), (2, .int p2), (3, .ref o)]) hx hb dL_price_17 hl (by decide) rfl (fun ls hl => ?_)
      refine lv_iconst (v := 2) hx hb dL_price_19 (by decide) ?_
      exact hret 2 (σ, f) _ _ _ _ _ _ (Nat.le_of_ble_eq_true rfl) (Nat.le_of_ble_eq_true rfl) hp hW dL_price_20
  · refine lv_i2l hx hb dL_price_8 rfl ?_
    refine va_last hx hb hK hW.1 hW.2.1 hW.2.2 11 1 rfl rfl (by unfold vp_in; decide) dL_price_9 (fun H locs h1 h2 h3 => ?_)
    have hW : Wd D A s.heap (hWW cI cJ a o σ1 (vp_updL f ((0 : Int32)).toNatClampNeg (r).toInt64)) H locs := And.intro h1 (And.intro h2 h3)
    refine lv_goto (tgt := 21) hx hb dL_price_10 (by decide) ?_
    refine lv_iconst (v := 0) hx hb dL_price_21 (by decide) ?_
    exact hret 0 (σ1, _) _ _ _ _ _ _ (Nat.le_of_ble_eq_true rfl) (Nat.le_of_ble_eq_true rfl) hw hW dL_price_22
def wp_L_pay (σ : CS) (f : Nat → Int64) (p1 : Int32) (p2 : Int32) (post : Int32 → CS → (Nat → Int64) → Prop) : Prop := wp_X4_pay σ p1 p2 (fun r σ1 => post 0 σ1 (vp_updL f ((0 : Int32)).toNatClampNeg (r).toInt64)) (fun E => (E = "java/lang/IndexOutOfBoundsException" ∧ post 1 σ f) ∨ (E = "java/lang/IllegalArgumentException" ∧ post 2 σ f) ∨ (E = "java/lang/IllegalStateException" ∧ post 3 σ f))
abbrev rm_L_pay : Room := { frames := 10, cells := 3, slots := 18, locals := 184 }
theorem in_L_pay_X4 : ∀ w ∈ wsX40, w ∈ wsL_pay := fun w h => List.mem_cons_of_mem _ (List.mem_append_left _ (List.mem_append_left _ (List.mem_append_left _ (List.mem_append_left _ (List.mem_append_left _ (List.mem_append_right _ (h)))))))
set_option maxHeartbeats 4000000 in
set_option maxRecDepth 100000 in
theorem ok_L_pay (l : Launch) (hst : l.stackTraces = false) (D : va_G) (cI cJ : ClassId) (a : Nat → Nat) (o sz : Nat) (σ : CS) (f : Nat → Int64) (p1 : Int32) (p2 : Int32) (post : Int32 → CS → (Nat → Int64) → Prop) (hw : wp_L_pay σ f p1 p2 post) : Hi l yL_pay wsL_pay rm_L_pay [.ref (a 0), .int p1, .int p2, .ref o] D (tysIJ cI cJ) (hWW cI cJ a o σ f) sz (fun k (u : CS × (Nat → Int64)) => post k u.1 u.2) (fun u => hWW cI cJ a o u.1 u.2) 3 18 := by
  refine s_H (by decide) rfl (Nat.le_of_ble_eq_true rfl) ?_
  intro p e s m args below meth c A Q hx hb hml hts hown htab hK hA hz hs hnc hret H locs ls hW hl
  have hown : s.vm.findClass RL = some m.cls := hown
  have hl : lv_has ls 5 [(0, .ref (a 0)), (1, .int p1), (2, .int p2), (3, .ref o)] := hl
  refine lv_aload_n hx hb dL_pay_0 rfl (lv_at hl 3 rfl) ?_
  refine lv_iconst (v := 0) hx hb dL_pay_1 (by decide) ?_
  refine lv_aload_n hx hb dL_pay_2 rfl (lv_at hl 0 rfl) ?_
  refine lv_iload_n hx hb dL_pay_3 rfl (lv_at hl 1 rfl) ?_
  refine lv_iload_n hx hb dL_pay_4 rfl (lv_at hl 2 rfl) ?_
  refine kVL_Xi (w1 := cW cI cJ a σ) (w2 := [(o, .inl (cJ, 1, .inr (.inl f)))]) (As := [.int p1, .int p2]) (rest := [.int 0, .ref o]) ⟨hx, hb, hml, hown, hts⟩ (ok_X4_pay l hst D cI cJ a _ _ _ _ _ _ hw) (cwV 2 hts gL_pay_X4_pay rfl rfl rfl (by decide +kernel) ⟨(Nat.le_of_ble_eq_true rfl), (Nat.le_of_ble_eq_true rfl)⟩) hK hW hA hz hs 0 rfl rfl rfl hl.1 rfl (Nat.le_of_ble_eq_true rfl) dL_pay_5 ⟨(Nat.le_of_ble_eq_true rfl), (Nat.le_of_ble_eq_true rfl)⟩ (fun E ce q H locs hE hW hce hcv hcl => ?_) (fun r σ1 H locs hw hW => ?_)
  · obtain ⟨⟨s0, h0⟩, ⟨s1, h1⟩, ⟨s2, h2⟩, ⟨s3, h3⟩, ⟨s4, h4⟩, ⟨s5, h5⟩, ⟨s6, h6⟩, n0, n1, n2, n3, n4, n5⟩ := hs
    rcases hE with ⟨rfl, hp⟩ | ⟨rfl, hp⟩ | ⟨rfl, hp⟩
    · refine vx_catch (name := "java/lang/IndexOutOfBoundsException") hown [] ⟨0, 10, 13, 13⟩ [⟨0, 10, 17, 15⟩, ⟨0, 10, 21, 20⟩] (htab.trans rfl) (fun z hz => absurd hz List.not_mem_nil) (by decide) (by decide) (hts _ (List.mem_of_getElem? (i := 1) rfl)) (va_Nw.use rfl n0) hce hcv hcl ?_
      refine lv_astore (lv' := [(4, .ref q), (0, .ref (a 0)), (1, .int p1), (2, .int p2), (3, .ref o)]) hx hb dL_pay_13 hl (by decide) rfl (fun ls hl => ?_)
      refine lv_iconst (v := 1) hx hb dL_pay_15 (by decide) ?_
      exact hret 1 (σ, f) _ _ _ _ _ _ (Nat.le_of_ble_eq_true rfl) (Nat.le_of_ble_eq_true rfl) hp hW dL_pay_16
    · refine vx_catch (name := "java/lang/IllegalArgumentException") hown [⟨0, 10, 13, 13⟩] ⟨0, 10, 17, 15⟩ [⟨0, 10, 21, 20⟩] (htab.trans rfl) (fun z hz => by obtain rfl := List.mem_singleton.mp hz; exact Or.inr ⟨by decide, "java/lang/IndexOutOfBoundsException", hts _ (List.mem_of_getElem? (i := 1) rfl), hnc.1⟩) (by decide) (by decide) (hts _ (List.mem_of_getElem? (i := 2) rfl)) (va_Nw.use rfl n1) hce hcv hcl ?_
      refine lv_astore (lv' := [(4, .ref q), (0, .ref (a 0)), (1, .int p1), (2, .int p2), (3, .ref o)]) hx hb dL_pay_17 hl (by decide) rfl (fun ls hl => ?_)
      refine lv_iconst (v := 2) hx hb dL_pay_19 (by decide) ?_
      exact hret 2 (σ, f) _ _ _ _ _ _ (Nat.le_of_ble_eq_true rfl) (Nat.le_of_ble_eq_true rfl) hp hW dL_pay_20
    · refine vx_catch (name := "java/lang/IllegalStateException") hown [⟨0, 10, 13, 13⟩, ⟨0, 10, 17, 15⟩] ⟨0, 10, 21, 20⟩ [] (htab.trans rfl) (fun z hz => by rcases List.mem_cons.mp hz with rfl | hz; exact Or.inr ⟨by decide, "java/lang/IndexOutOfBoundsException", hts _ (List.mem_of_getElem? (i := 1) rfl), hnc.2.1⟩; obtain rfl := List.mem_singleton.mp hz; exact Or.inr ⟨by decide, "java/lang/IllegalArgumentException", hts _ (List.mem_of_getElem? (i := 2) rfl), hnc.2.2⟩) (by decide) (by decide) (hts _ (List.mem_of_getElem? (i := 3) rfl)) (va_Nw.use rfl n2) hce hcv hcl ?_
      refine lv_astore (lv' := [(4, .ref q), (0, .ref (a 0)), (1, .int p1), (2, .int p2), (3, .ref o)]) hx hb dL_pay_21 hl (by decide) rfl (fun ls hl => ?_)
      refine lv_iconst (v := 3) hx hb dL_pay_23 (by decide) ?_
      exact hret 3 (σ, f) _ _ _ _ _ _ (Nat.le_of_ble_eq_true rfl) (Nat.le_of_ble_eq_true rfl) hp hW dL_pay_24
  · refine lv_i2l hx hb dL_pay_8 rfl ?_
    refine va_last hx hb hK hW.1 hW.2.1 hW.2.2 11 1 rfl rfl (by unfold vp_in; decide) dL_pay_9 (fun H locs h1 h2 h3 => ?_)
    have hW : Wd D A s.heap (hWW cI cJ a o σ1 (vp_updL f ((0 : Int32)).toNatClampNeg (r).toInt64)) H locs := And.intro h1 (And.intro h2 h3)
    refine lv_goto (tgt := 25) hx hb dL_pay_10 (by decide) ?_
    refine lv_iconst (v := 0) hx hb dL_pay_25 (by decide) ?_
    exact hret 0 (σ1, _) _ _ _ _ _ _ (Nat.le_of_ble_eq_true rfl) (Nat.le_of_ble_eq_true rfl) hw hW dL_pay_26
def wp_L_set (σ : CS) (f : Nat → Int64) (p1 : Int32) (p2 : Int32) (post : Int32 → CS → (Nat → Int64) → Prop) : Prop := wp_X4_set σ p1 p2 (fun r σ1 => post 0 σ1 (vp_updL f ((0 : Int32)).toNatClampNeg (r).toInt64)) (fun E => (E = "java/lang/IndexOutOfBoundsException" ∧ post 1 σ f) ∨ (E = "java/lang/IllegalArgumentException" ∧ post 2 σ f))
abbrev rm_L_set : Room := { frames := 10, cells := 2, slots := 12, locals := 185 }
theorem in_L_set_X4 : ∀ w ∈ wsX40, w ∈ wsL_set := fun w h => List.mem_cons_of_mem _ (List.mem_append_left _ (List.mem_append_left _ (List.mem_append_left _ (List.mem_append_left _ (List.mem_append_right _ (h))))))
set_option maxHeartbeats 4000000 in
set_option maxRecDepth 100000 in
theorem ok_L_set (l : Launch) (hst : l.stackTraces = false) (D : va_G) (cI cJ : ClassId) (a : Nat → Nat) (o sz : Nat) (σ : CS) (f : Nat → Int64) (p1 : Int32) (p2 : Int32) (post : Int32 → CS → (Nat → Int64) → Prop) (hw : wp_L_set σ f p1 p2 post) : Hi l yL_set wsL_set rm_L_set [.ref (a 0), .int p1, .int p2, .ref o] D (tysIJ cI cJ) (hWW cI cJ a o σ f) sz (fun k (u : CS × (Nat → Int64)) => post k u.1 u.2) (fun u => hWW cI cJ a o u.1 u.2) 2 12 := by
  refine s_H (by decide) rfl (Nat.le_of_ble_eq_true rfl) ?_
  intro p e s m args below meth c A Q hx hb hml hts hown htab hK hA hz hs hnc hret H locs ls hW hl
  have hown : s.vm.findClass RL = some m.cls := hown
  have hl : lv_has ls 5 [(0, .ref (a 0)), (1, .int p1), (2, .int p2), (3, .ref o)] := hl
  refine lv_aload_n hx hb dL_set_0 rfl (lv_at hl 3 rfl) ?_
  refine lv_iconst (v := 0) hx hb dL_set_1 (by decide) ?_
  refine lv_aload_n hx hb dL_set_2 rfl (lv_at hl 0 rfl) ?_
  refine lv_iload_n hx hb dL_set_3 rfl (lv_at hl 1 rfl) ?_
  refine lv_iload_n hx hb dL_set_4 rfl (lv_at hl 2 rfl) ?_
  refine kVL_Xi (w1 := cW cI cJ a σ) (w2 := [(o, .inl (cJ, 1, .inr (.inl f)))]) (As := [.int p1, .int p2]) (rest := [.int 0, .ref o]) ⟨hx, hb, hml, hown, hts⟩ (ok_X4_set l hst D cI cJ a _ _ _ _ _ _ hw) (cwV 2 hts gL_set_X4_set rfl rfl rfl (by decide +kernel) ⟨(Nat.le_of_ble_eq_true rfl), (Nat.le_of_ble_eq_true rfl)⟩) hK hW hA hz hs 0 rfl rfl rfl hl.1 rfl (Nat.le_of_ble_eq_true rfl) dL_set_5 ⟨(Nat.le_of_ble_eq_true rfl), (Nat.le_of_ble_eq_true rfl)⟩ (fun E ce q H locs hE hW hce hcv hcl => ?_) (fun r σ1 H locs hw hW => ?_)
  · obtain ⟨⟨s0, h0⟩, ⟨s1, h1⟩, ⟨s2, h2⟩, ⟨s3, h3⟩, ⟨s4, h4⟩, ⟨s5, h5⟩, ⟨s6, h6⟩, n0, n1, n2, n3, n4, n5⟩ := hs
    rcases hE with ⟨rfl, hp⟩ | ⟨rfl, hp⟩
    · refine vx_catch (name := "java/lang/IndexOutOfBoundsException") hown [] ⟨0, 10, 13, 13⟩ [⟨0, 10, 17, 15⟩] (htab.trans rfl) (fun z hz => absurd hz List.not_mem_nil) (by decide) (by decide) (hts _ (List.mem_of_getElem? (i := 1) rfl)) (va_Nw.use rfl n0) hce hcv hcl ?_
      refine lv_astore (lv' := [(4, .ref q), (0, .ref (a 0)), (1, .int p1), (2, .int p2), (3, .ref o)]) hx hb dL_set_13 hl (by decide) rfl (fun ls hl => ?_)
      refine lv_iconst (v := 1) hx hb dL_set_15 (by decide) ?_
      exact hret 1 (σ, f) _ _ _ _ _ _ (Nat.le_of_ble_eq_true rfl) (Nat.le_of_ble_eq_true rfl) hp hW dL_set_16
    · refine vx_catch (name := "java/lang/IllegalArgumentException") hown [⟨0, 10, 13, 13⟩] ⟨0, 10, 17, 15⟩ [] (htab.trans rfl) (fun z hz => by obtain rfl := List.mem_singleton.mp hz; exact Or.inr ⟨by decide, "java/lang/IndexOutOfBoundsException", hts _ (List.mem_of_getElem? (i := 1) rfl), hnc.1⟩) (by decide) (by decide) (hts _ (List.mem_of_getElem? (i := 2) rfl)) (va_Nw.use rfl n1) hce hcv hcl ?_
      refine lv_astore (lv' := [(4, .ref q), (0, .ref (a 0)), (1, .int p1), (2, .int p2), (3, .ref o)]) hx hb dL_set_17 hl (by decide) rfl (fun ls hl => ?_)
      refine lv_iconst (v := 2) hx hb dL_set_19 (by decide) ?_
      exact hret 2 (σ, f) _ _ _ _ _ _ (Nat.le_of_ble_eq_true rfl) (Nat.le_of_ble_eq_true rfl) hp hW dL_set_20
  · refine lv_i2l hx hb dL_set_8 rfl ?_
    refine va_last hx hb hK hW.1 hW.2.1 hW.2.2 11 1 rfl rfl (by unfold vp_in; decide) dL_set_9 (fun H locs h1 h2 h3 => ?_)
    have hW : Wd D A s.heap (hWW cI cJ a o σ1 (vp_updL f ((0 : Int32)).toNatClampNeg (r).toInt64)) H locs := And.intro h1 (And.intro h2 h3)
    refine lv_goto (tgt := 21) hx hb dL_set_10 (by decide) ?_
    refine lv_iconst (v := 0) hx hb dL_set_21 (by decide) ?_
    exact hret 0 (σ1, _) _ _ _ _ _ _ (Nat.le_of_ble_eq_true rfl) (Nat.le_of_ble_eq_true rfl) hw hW dL_set_22
def wp_L_bid (σ : CS) (f : Nat → Int64) (p1 : Int32) (p2 : Int32) (p3 : Int32) (post : Int32 → CS → (Nat → Int64) → Prop) : Prop := wp_X4_bid σ p1 p2 p3 (fun r σ1 => post 0 σ1 (vp_updL f ((0 : Int32)).toNatClampNeg (r).toInt64)) (fun E => (E = "java/lang/IndexOutOfBoundsException" ∧ post 1 σ f) ∨ (E = "java/lang/IllegalArgumentException" ∧ post 2 σ f) ∨ (E = "java/lang/IllegalStateException" ∧ post 3 σ f))
abbrev rm_L_bid : Room := { frames := 10, cells := 4, slots := 24, locals := 185 }
theorem in_L_bid_X4 : ∀ w ∈ wsX40, w ∈ wsL_bid := fun w h => List.mem_cons_of_mem _ (List.mem_append_left _ (List.mem_append_left _ (List.mem_append_left _ (List.mem_append_left _ (List.mem_append_left _ (List.mem_append_right _ (h)))))))
set_option maxHeartbeats 4000000 in
set_option maxRecDepth 100000 in
theorem ok_L_bid (l : Launch) (hst : l.stackTraces = false) (D : va_G) (cI cJ : ClassId) (a : Nat → Nat) (o sz : Nat) (σ : CS) (f : Nat → Int64) (p1 : Int32) (p2 : Int32) (p3 : Int32) (post : Int32 → CS → (Nat → Int64) → Prop) (hw : wp_L_bid σ f p1 p2 p3 post) : Hi l yL_bid wsL_bid rm_L_bid [.ref (a 0), .int p1, .int p2, .int p3, .ref o] D (tysIJ cI cJ) (hWW cI cJ a o σ f) sz (fun k (u : CS × (Nat → Int64)) => post k u.1 u.2) (fun u => hWW cI cJ a o u.1 u.2) 4 24 := by
  refine s_H (by decide) rfl (Nat.le_of_ble_eq_true rfl) ?_
  intro p e s m args below meth c A Q hx hb hml hts hown htab hK hA hz hs hnc hret H locs ls hW hl
  have hown : s.vm.findClass RL = some m.cls := hown
  have hl : lv_has ls 6 [(0, .ref (a 0)), (1, .int p1), (2, .int p2), (3, .int p3), (4, .ref o)] := hl
  refine lv_aload hx hb dL_bid_0 (lv_at hl 4 rfl) ?_
  refine lv_iconst (v := 0) hx hb dL_bid_2 (by decide) ?_
  refine lv_aload_n hx hb dL_bid_3 rfl (lv_at hl 0 rfl) ?_
  refine lv_iload_n hx hb dL_bid_4 rfl (lv_at hl 1 rfl) ?_
  refine lv_iload_n hx hb dL_bid_5 rfl (lv_at hl 2 rfl) ?_
  refine lv_iload_n hx hb dL_bid_6 rfl (lv_at hl 3 rfl) ?_
  refine kVL_Xi (w1 := cW cI cJ a σ) (w2 := [(o, .inl (cJ, 1, .inr (.inl f)))]) (As := [.int p1, .int p2, .int p3]) (rest := [.int 0, .ref o]) ⟨hx, hb, hml, hown, hts⟩ (ok_X4_bid l hst D cI cJ a _ _ _ _ _ _ _ hw) (cwV 3 hts gL_bid_X4_bid rfl rfl rfl (by decide +kernel) ⟨(Nat.le_of_ble_eq_true rfl), (Nat.le_of_ble_eq_true rfl)⟩) hK hW hA hz hs 0 rfl rfl rfl hl.1 rfl (Nat.le_of_ble_eq_true rfl) dL_bid_7 ⟨(Nat.le_of_ble_eq_true rfl), (Nat.le_of_ble_eq_true rfl)⟩ (fun E ce q H locs hE hW hce hcv hcl => ?_) (fun r σ1 H locs hw hW => ?_)
  · obtain ⟨⟨s0, h0⟩, ⟨s1, h1⟩, ⟨s2, h2⟩, ⟨s3, h3⟩, ⟨s4, h4⟩, ⟨s5, h5⟩, ⟨s6, h6⟩, n0, n1, n2, n3, n4, n5⟩ := hs
    rcases hE with ⟨rfl, hp⟩ | ⟨rfl, hp⟩ | ⟨rfl, hp⟩
    · refine vx_catch (name := "java/lang/IndexOutOfBoundsException") hown [] ⟨0, 12, 15, 13⟩ [⟨0, 12, 19, 15⟩, ⟨0, 12, 23, 20⟩] (htab.trans rfl) (fun z hz => absurd hz List.not_mem_nil) (by decide) (by decide) (hts _ (List.mem_of_getElem? (i := 1) rfl)) (va_Nw.use rfl n0) hce hcv hcl ?_
      refine lv_astore (lv' := [(5, .ref q), (0, .ref (a 0)), (1, .int p1), (2, .int p2), (3, .int p3), (4, .ref o)]) hx hb dL_bid_15 hl (by decide) rfl (fun ls hl => ?_)
      refine lv_iconst (v := 1) hx hb dL_bid_17 (by decide) ?_
      exact hret 1 (σ, f) _ _ _ _ _ _ (Nat.le_of_ble_eq_true rfl) (Nat.le_of_ble_eq_true rfl) hp hW dL_bid_18
    · refine vx_catch (name := "java/lang/IllegalArgumentException") hown [⟨0, 12, 15, 13⟩] ⟨0, 12, 19, 15⟩ [⟨0, 12, 23, 20⟩] (htab.trans rfl) (fun z hz => by obtain rfl := List.mem_singleton.mp hz; exact Or.inr ⟨by decide, "java/lang/IndexOutOfBoundsException", hts _ (List.mem_of_getElem? (i := 1) rfl), hnc.1⟩) (by decide) (by decide) (hts _ (List.mem_of_getElem? (i := 2) rfl)) (va_Nw.use rfl n1) hce hcv hcl ?_
      refine lv_astore (lv' := [(5, .ref q), (0, .ref (a 0)), (1, .int p1), (2, .int p2), (3, .int p3), (4, .ref o)]) hx hb dL_bid_19 hl (by decide) rfl (fun ls hl => ?_)
      refine lv_iconst (v := 2) hx hb dL_bid_21 (by decide) ?_
      exact hret 2 (σ, f) _ _ _ _ _ _ (Nat.le_of_ble_eq_true rfl) (Nat.le_of_ble_eq_true rfl) hp hW dL_bid_22
    · refine vx_catch (name := "java/lang/IllegalStateException") hown [⟨0, 12, 15, 13⟩, ⟨0, 12, 19, 15⟩] ⟨0, 12, 23, 20⟩ [] (htab.trans rfl) (fun z hz => by rcases List.mem_cons.mp hz with rfl | hz; exact Or.inr ⟨by decide, "java/lang/IndexOutOfBoundsException", hts _ (List.mem_of_getElem? (i := 1) rfl), hnc.2.1⟩; obtain rfl := List.mem_singleton.mp hz; exact Or.inr ⟨by decide, "java/lang/IllegalArgumentException", hts _ (List.mem_of_getElem? (i := 2) rfl), hnc.2.2⟩) (by decide) (by decide) (hts _ (List.mem_of_getElem? (i := 3) rfl)) (va_Nw.use rfl n2) hce hcv hcl ?_
      refine lv_astore (lv' := [(5, .ref q), (0, .ref (a 0)), (1, .int p1), (2, .int p2), (3, .int p3), (4, .ref o)]) hx hb dL_bid_23 hl (by decide) rfl (fun ls hl => ?_)
      refine lv_iconst (v := 3) hx hb dL_bid_25 (by decide) ?_
      exact hret 3 (σ, f) _ _ _ _ _ _ (Nat.le_of_ble_eq_true rfl) (Nat.le_of_ble_eq_true rfl) hp hW dL_bid_26
  · refine lv_i2l hx hb dL_bid_10 rfl ?_
    refine va_last hx hb hK hW.1 hW.2.1 hW.2.2 11 1 rfl rfl (by unfold vp_in; decide) dL_bid_11 (fun H locs h1 h2 h3 => ?_)
    have hW : Wd D A s.heap (hWW cI cJ a o σ1 (vp_updL f ((0 : Int32)).toNatClampNeg (r).toInt64)) H locs := And.intro h1 (And.intro h2 h3)
    refine lv_goto (tgt := 27) hx hb dL_bid_12 (by decide) ?_
    refine lv_iconst (v := 0) hx hb dL_bid_27 (by decide) ?_
    exact hret 0 (σ1, _) _ _ _ _ _ _ (Nat.le_of_ble_eq_true rfl) (Nat.le_of_ble_eq_true rfl) hw hW dL_bid_28
def wp_L_withdraw (σ : CS) (f : Nat → Int64) (p1 : Int32) (p2 : Int32) (post : Int32 → CS → (Nat → Int64) → Prop) : Prop := wp_X4_withdraw σ p1 p2 (fun r σ1 => post 0 σ1 (vp_updL f ((0 : Int32)).toNatClampNeg (r).toInt64)) (fun E => (E = "java/lang/IndexOutOfBoundsException" ∧ post 1 σ f) ∨ (E = "java/lang/IllegalStateException" ∧ post 2 σ f))
abbrev rm_L_withdraw : Room := { frames := 10, cells := 3, slots := 18, locals := 183 }
theorem in_L_withdraw_X4 : ∀ w ∈ wsX40, w ∈ wsL_withdraw := fun w h => List.mem_cons_of_mem _ (List.mem_append_left _ (List.mem_append_left _ (List.mem_append_left _ (List.mem_append_left _ (List.mem_append_right _ (h))))))
set_option maxHeartbeats 4000000 in
set_option maxRecDepth 100000 in
theorem ok_L_withdraw (l : Launch) (hst : l.stackTraces = false) (D : va_G) (cI cJ : ClassId) (a : Nat → Nat) (o sz : Nat) (σ : CS) (f : Nat → Int64) (p1 : Int32) (p2 : Int32) (post : Int32 → CS → (Nat → Int64) → Prop) (hw : wp_L_withdraw σ f p1 p2 post) : Hi l yL_withdraw wsL_withdraw rm_L_withdraw [.ref (a 0), .int p1, .int p2, .ref o] D (tysIJ cI cJ) (hWW cI cJ a o σ f) sz (fun k (u : CS × (Nat → Int64)) => post k u.1 u.2) (fun u => hWW cI cJ a o u.1 u.2) 3 18 := by
  refine s_H (by decide) rfl (Nat.le_of_ble_eq_true rfl) ?_
  intro p e s m args below meth c A Q hx hb hml hts hown htab hK hA hz hs hnc hret H locs ls hW hl
  have hown : s.vm.findClass RL = some m.cls := hown
  have hl : lv_has ls 5 [(0, .ref (a 0)), (1, .int p1), (2, .int p2), (3, .ref o)] := hl
  refine lv_aload_n hx hb dL_withdraw_0 rfl (lv_at hl 3 rfl) ?_
  refine lv_iconst (v := 0) hx hb dL_withdraw_1 (by decide) ?_
  refine lv_aload_n hx hb dL_withdraw_2 rfl (lv_at hl 0 rfl) ?_
  refine lv_iload_n hx hb dL_withdraw_3 rfl (lv_at hl 1 rfl) ?_
  refine lv_iload_n hx hb dL_withdraw_4 rfl (lv_at hl 2 rfl) ?_
  refine kVL_Xi (w1 := cW cI cJ a σ) (w2 := [(o, .inl (cJ, 1, .inr (.inl f)))]) (As := [.int p1, .int p2]) (rest := [.int 0, .ref o]) ⟨hx, hb, hml, hown, hts⟩ (ok_X4_withdraw l hst D cI cJ a _ _ _ _ _ _ hw) (cwV 2 hts gL_withdraw_X4_withdraw rfl rfl rfl (by decide +kernel) ⟨(Nat.le_of_ble_eq_true rfl), (Nat.le_of_ble_eq_true rfl)⟩) hK hW hA hz hs 0 rfl rfl rfl hl.1 rfl (Nat.le_of_ble_eq_true rfl) dL_withdraw_5 ⟨(Nat.le_of_ble_eq_true rfl), (Nat.le_of_ble_eq_true rfl)⟩ (fun E ce q H locs hE hW hce hcv hcl => ?_) (fun r σ1 H locs hw hW => ?_)
  · obtain ⟨⟨s0, h0⟩, ⟨s1, h1⟩, ⟨s2, h2⟩, ⟨s3, h3⟩, ⟨s4, h4⟩, ⟨s5, h5⟩, ⟨s6, h6⟩, n0, n1, n2, n3, n4, n5⟩ := hs
    rcases hE with ⟨rfl, hp⟩ | ⟨rfl, hp⟩
    · refine vx_catch (name := "java/lang/IndexOutOfBoundsException") hown [] ⟨0, 10, 13, 13⟩ [⟨0, 10, 17, 20⟩] (htab.trans rfl) (fun z hz => absurd hz List.not_mem_nil) (by decide) (by decide) (hts _ (List.mem_of_getElem? (i := 1) rfl)) (va_Nw.use rfl n0) hce hcv hcl ?_
      refine lv_astore (lv' := [(4, .ref q), (0, .ref (a 0)), (1, .int p1), (2, .int p2), (3, .ref o)]) hx hb dL_withdraw_13 hl (by decide) rfl (fun ls hl => ?_)
      refine lv_iconst (v := 1) hx hb dL_withdraw_15 (by decide) ?_
      exact hret 1 (σ, f) _ _ _ _ _ _ (Nat.le_of_ble_eq_true rfl) (Nat.le_of_ble_eq_true rfl) hp hW dL_withdraw_16
    · refine vx_catch (name := "java/lang/IllegalStateException") hown [⟨0, 10, 13, 13⟩] ⟨0, 10, 17, 20⟩ [] (htab.trans rfl) (fun z hz => by obtain rfl := List.mem_singleton.mp hz; exact Or.inr ⟨by decide, "java/lang/IndexOutOfBoundsException", hts _ (List.mem_of_getElem? (i := 1) rfl), hnc.2.1⟩) (by decide) (by decide) (hts _ (List.mem_of_getElem? (i := 2) rfl)) (va_Nw.use rfl n2) hce hcv hcl ?_
      refine lv_astore (lv' := [(4, .ref q), (0, .ref (a 0)), (1, .int p1), (2, .int p2), (3, .ref o)]) hx hb dL_withdraw_17 hl (by decide) rfl (fun ls hl => ?_)
      refine lv_iconst (v := 2) hx hb dL_withdraw_19 (by decide) ?_
      exact hret 2 (σ, f) _ _ _ _ _ _ (Nat.le_of_ble_eq_true rfl) (Nat.le_of_ble_eq_true rfl) hp hW dL_withdraw_20
  · refine lv_i2l hx hb dL_withdraw_8 rfl ?_
    refine va_last hx hb hK hW.1 hW.2.1 hW.2.2 11 1 rfl rfl (by unfold vp_in; decide) dL_withdraw_9 (fun H locs h1 h2 h3 => ?_)
    have hW : Wd D A s.heap (hWW cI cJ a o σ1 (vp_updL f ((0 : Int32)).toNatClampNeg (r).toInt64)) H locs := And.intro h1 (And.intro h2 h3)
    refine lv_goto (tgt := 21) hx hb dL_withdraw_10 (by decide) ?_
    refine lv_iconst (v := 0) hx hb dL_withdraw_21 (by decide) ?_
    exact hret 0 (σ1, _) _ _ _ _ _ _ (Nat.le_of_ble_eq_true rfl) (Nat.le_of_ble_eq_true rfl) hw hW dL_withdraw_22
def wp_L_pause (σ : CS) (f : Nat → Int64) (p1 : Int32) (post : Int32 → CS → (Nat → Int64) → Prop) : Prop := wp_X4_pause σ p1 (fun r σ1 => post 0 σ1 (vp_updL f ((0 : Int32)).toNatClampNeg (r).toInt64)) (fun E => (E = "java/lang/IllegalArgumentException" ∧ post 1 σ f))
abbrev rm_L_pause : Room := { frames := 10, cells := 1, slots := 6, locals := 183 }
theorem in_L_pause_X4 : ∀ w ∈ wsX40, w ∈ wsL_pause := fun w h => List.mem_cons_of_mem _ (List.mem_append_left _ (List.mem_append_left _ (List.mem_append_left _ (List.mem_append_right _ (h)))))
set_option maxHeartbeats 4000000 in
set_option maxRecDepth 100000 in
theorem ok_L_pause (l : Launch) (hst : l.stackTraces = false) (D : va_G) (cI cJ : ClassId) (a : Nat → Nat) (o sz : Nat) (σ : CS) (f : Nat → Int64) (p1 : Int32) (post : Int32 → CS → (Nat → Int64) → Prop) (hw : wp_L_pause σ f p1 post) : Hi l yL_pause wsL_pause rm_L_pause [.ref (a 0), .int p1, .ref o] D (tysIJ cI cJ) (hWW cI cJ a o σ f) sz (fun k (u : CS × (Nat → Int64)) => post k u.1 u.2) (fun u => hWW cI cJ a o u.1 u.2) 1 6 := by
  refine s_H (by decide) rfl (Nat.le_of_ble_eq_true rfl) ?_
  intro p e s m args below meth c A Q hx hb hml hts hown htab hK hA hz hs hnc hret H locs ls hW hl
  have hown : s.vm.findClass RL = some m.cls := hown
  have hl : lv_has ls 4 [(0, .ref (a 0)), (1, .int p1), (2, .ref o)] := hl
  refine lv_aload_n hx hb dL_pause_0 rfl (lv_at hl 2 rfl) ?_
  refine lv_iconst (v := 0) hx hb dL_pause_1 (by decide) ?_
  refine lv_aload_n hx hb dL_pause_2 rfl (lv_at hl 0 rfl) ?_
  refine lv_iload_n hx hb dL_pause_3 rfl (lv_at hl 1 rfl) ?_
  refine kVL_Xi (w1 := cW cI cJ a σ) (w2 := [(o, .inl (cJ, 1, .inr (.inl f)))]) (As := [.int p1]) (rest := [.int 0, .ref o]) ⟨hx, hb, hml, hown, hts⟩ (ok_X4_pause l hst D cI cJ a _ _ _ _ _ hw) (cwV 1 hts gL_pause_X4_pause rfl rfl rfl (by decide +kernel) ⟨(Nat.le_of_ble_eq_true rfl), (Nat.le_of_ble_eq_true rfl)⟩) hK hW hA hz hs 0 rfl rfl rfl hl.1 rfl (Nat.le_of_ble_eq_true rfl) dL_pause_4 ⟨(Nat.le_of_ble_eq_true rfl), (Nat.le_of_ble_eq_true rfl)⟩ (fun E ce q H locs hE hW hce hcv hcl => ?_) (fun r σ1 H locs hw hW => ?_)
  · obtain ⟨⟨s0, h0⟩, ⟨s1, h1⟩, ⟨s2, h2⟩, ⟨s3, h3⟩, ⟨s4, h4⟩, ⟨s5, h5⟩, ⟨s6, h6⟩, n0, n1, n2, n3, n4, n5⟩ := hs
    obtain ⟨rfl, hp⟩ := hE
    refine vx_catch (name := "java/lang/IllegalArgumentException") hown [] ⟨0, 9, 12, 15⟩ [] (htab.trans rfl) (fun z hz => absurd hz List.not_mem_nil) (by decide) (by decide) (hts _ (List.mem_of_getElem? (i := 1) rfl)) (va_Nw.use rfl n1) hce hcv hcl ?_
    refine lv_astore_n (lv' := [(3, .ref q), (0, .ref (a 0)), (1, .int p1), (2, .ref o)]) hx hb dL_pause_12 rfl hl (by decide) rfl (fun ls hl => ?_)
    refine lv_iconst (v := 1) hx hb dL_pause_13 (by decide) ?_
    exact hret 1 (σ, f) _ _ _ _ _ _ (Nat.le_of_ble_eq_true rfl) (Nat.le_of_ble_eq_true rfl) hp hW dL_pause_14
  · refine lv_i2l hx hb dL_pause_7 rfl ?_
    refine va_last hx hb hK hW.1 hW.2.1 hW.2.2 11 1 rfl rfl (by unfold vp_in; decide) dL_pause_8 (fun H locs h1 h2 h3 => ?_)
    have hW : Wd D A s.heap (hWW cI cJ a o σ1 (vp_updL f ((0 : Int32)).toNatClampNeg (r).toInt64)) H locs := And.intro h1 (And.intro h2 h3)
    refine lv_goto (tgt := 15) hx hb dL_pause_9 (by decide) ?_
    refine lv_iconst (v := 0) hx hb dL_pause_15 (by decide) ?_
    exact hret 0 (σ1, _) _ _ _ _ _ _ (Nat.le_of_ble_eq_true rfl) (Nat.le_of_ble_eq_true rfl) hw hW dL_pause_16
def wp_L_open (σ : CS) (f : Nat → Int64)  (post : Int32 → CS → (Nat → Int64) → Prop) : Prop := wp_X4_open σ (fun r σ1 => post 0 σ1 (vp_updL f ((0 : Int32)).toNatClampNeg (r).toInt64)) (fun E => (E = "java/lang/IllegalStateException" ∧ post 1 σ f))
abbrev rm_L_open : Room := { frames := 10, cells := 1, slots := 6, locals := 180 }
theorem in_L_open_X4 : ∀ w ∈ wsX40, w ∈ wsL_open := fun w h => List.mem_cons_of_mem _ (List.mem_append_left _ (List.mem_append_left _ (List.mem_append_left _ (List.mem_append_left _ (List.mem_append_right _ (h))))))
set_option maxHeartbeats 4000000 in
set_option maxRecDepth 100000 in
theorem ok_L_open (l : Launch) (hst : l.stackTraces = false) (D : va_G) (cI cJ : ClassId) (a : Nat → Nat) (o sz : Nat) (σ : CS) (f : Nat → Int64)  (post : Int32 → CS → (Nat → Int64) → Prop) (hw : wp_L_open σ f post) : Hi l yL_open wsL_open rm_L_open [.ref (a 0), .ref o] D (tysIJ cI cJ) (hWW cI cJ a o σ f) sz (fun k (u : CS × (Nat → Int64)) => post k u.1 u.2) (fun u => hWW cI cJ a o u.1 u.2) 1 6 := by
  refine s_H (by decide) rfl (Nat.le_of_ble_eq_true rfl) ?_
  intro p e s m args below meth c A Q hx hb hml hts hown htab hK hA hz hs hnc hret H locs ls hW hl
  have hown : s.vm.findClass RL = some m.cls := hown
  have hl : lv_has ls 3 [(0, .ref (a 0)), (1, .ref o)] := hl
  refine lv_aload_n hx hb dL_open_0 rfl (lv_at hl 1 rfl) ?_
  refine lv_iconst (v := 0) hx hb dL_open_1 (by decide) ?_
  refine lv_aload_n hx hb dL_open_2 rfl (lv_at hl 0 rfl) ?_
  refine kVL_Xi (w1 := cW cI cJ a σ) (w2 := [(o, .inl (cJ, 1, .inr (.inl f)))]) (As := []) (rest := [.int 0, .ref o]) ⟨hx, hb, hml, hown, hts⟩ (ok_X4_open l hst D cI cJ a _ _ _ _ hw) (cwV 0 hts gL_open_X4_open rfl rfl rfl (by decide +kernel) ⟨(Nat.le_of_ble_eq_true rfl), (Nat.le_of_ble_eq_true rfl)⟩) hK hW hA hz hs 0 rfl rfl rfl hl.1 rfl (Nat.le_of_ble_eq_true rfl) dL_open_3 ⟨(Nat.le_of_ble_eq_true rfl), (Nat.le_of_ble_eq_true rfl)⟩ (fun E ce q H locs hE hW hce hcv hcl => ?_) (fun r σ1 H locs hw hW => ?_)
  · obtain ⟨⟨s0, h0⟩, ⟨s1, h1⟩, ⟨s2, h2⟩, ⟨s3, h3⟩, ⟨s4, h4⟩, ⟨s5, h5⟩, ⟨s6, h6⟩, n0, n1, n2, n3, n4, n5⟩ := hs
    obtain ⟨rfl, hp⟩ := hE
    refine vx_catch (name := "java/lang/IllegalStateException") hown [] ⟨0, 8, 11, 20⟩ [] (htab.trans rfl) (fun z hz => absurd hz List.not_mem_nil) (by decide) (by decide) (hts _ (List.mem_of_getElem? (i := 1) rfl)) (va_Nw.use rfl n2) hce hcv hcl ?_
    refine lv_astore_n (lv' := [(2, .ref q), (0, .ref (a 0)), (1, .ref o)]) hx hb dL_open_11 rfl hl (by decide) rfl (fun ls hl => ?_)
    refine lv_iconst (v := 1) hx hb dL_open_12 (by decide) ?_
    exact hret 1 (σ, f) _ _ _ _ _ _ (Nat.le_of_ble_eq_true rfl) (Nat.le_of_ble_eq_true rfl) hp hW dL_open_13
  · refine lv_i2l hx hb dL_open_6 rfl ?_
    refine va_last hx hb hK hW.1 hW.2.1 hW.2.2 11 1 rfl rfl (by unfold vp_in; decide) dL_open_7 (fun H locs h1 h2 h3 => ?_)
    have hW : Wd D A s.heap (hWW cI cJ a o σ1 (vp_updL f ((0 : Int32)).toNatClampNeg (r).toInt64)) H locs := And.intro h1 (And.intro h2 h3)
    refine lv_goto (tgt := 14) hx hb dL_open_8 (by decide) ?_
    refine lv_iconst (v := 0) hx hb dL_open_14 (by decide) ?_
    exact hret 0 (σ1, _) _ _ _ _ _ _ (Nat.le_of_ble_eq_true rfl) (Nat.le_of_ble_eq_true rfl) hw hW dL_open_15
def wp_L_fish (σ : CS) (f : Nat → Int64) (p1 : Int32) (post : Int32 → CS → (Nat → Int64) → Prop) : Prop := wp_X4_fish σ p1 (fun r σ1 => post 0 σ1 (vp_updL f ((0 : Int32)).toNatClampNeg (r).toInt64)) (fun E => (E = "java/lang/IndexOutOfBoundsException" ∧ post 1 σ f) ∨ (E = "java/lang/IllegalStateException" ∧ post 2 σ f))
abbrev rm_L_fish : Room := { frames := 10, cells := 2, slots := 12, locals := 182 }
theorem in_L_fish_X4 : ∀ w ∈ wsX40, w ∈ wsL_fish := fun w h => List.mem_cons_of_mem _ (List.mem_append_left _ (List.mem_append_left _ (List.mem_append_left _ (List.mem_append_left _ (List.mem_append_right _ (h))))))
set_option maxHeartbeats 4000000 in
set_option maxRecDepth 100000 in
theorem ok_L_fish (l : Launch) (hst : l.stackTraces = false) (D : va_G) (cI cJ : ClassId) (a : Nat → Nat) (o sz : Nat) (σ : CS) (f : Nat → Int64) (p1 : Int32) (post : Int32 → CS → (Nat → Int64) → Prop) (hw : wp_L_fish σ f p1 post) : Hi l yL_fish wsL_fish rm_L_fish [.ref (a 0), .int p1, .ref o] D (tysIJ cI cJ) (hWW cI cJ a o σ f) sz (fun k (u : CS × (Nat → Int64)) => post k u.1 u.2) (fun u => hWW cI cJ a o u.1 u.2) 2 12 := by
  refine s_H (by decide) rfl (Nat.le_of_ble_eq_true rfl) ?_
  intro p e s m args below meth c A Q hx hb hml hts hown htab hK hA hz hs hnc hret H locs ls hW hl
  have hown : s.vm.findClass RL = some m.cls := hown
  have hl : lv_has ls 4 [(0, .ref (a 0)), (1, .int p1), (2, .ref o)] := hl
  refine lv_aload_n hx hb dL_fish_0 rfl (lv_at hl 2 rfl) ?_
  refine lv_iconst (v := 0) hx hb dL_fish_1 (by decide) ?_
  refine lv_aload_n hx hb dL_fish_2 rfl (lv_at hl 0 rfl) ?_
  refine lv_iload_n hx hb dL_fish_3 rfl (lv_at hl 1 rfl) ?_
  refine kVL_Xi (w1 := cW cI cJ a σ) (w2 := [(o, .inl (cJ, 1, .inr (.inl f)))]) (As := [.int p1]) (rest := [.int 0, .ref o]) ⟨hx, hb, hml, hown, hts⟩ (ok_X4_fish l hst D cI cJ a _ _ _ _ _ hw) (cwV 1 hts gL_fish_X4_fish rfl rfl rfl (by decide +kernel) ⟨(Nat.le_of_ble_eq_true rfl), (Nat.le_of_ble_eq_true rfl)⟩) hK hW hA hz hs 0 rfl rfl rfl hl.1 rfl (Nat.le_of_ble_eq_true rfl) dL_fish_4 ⟨(Nat.le_of_ble_eq_true rfl), (Nat.le_of_ble_eq_true rfl)⟩ (fun E ce q H locs hE hW hce hcv hcl => ?_) (fun r σ1 H locs hw hW => ?_)
  · obtain ⟨⟨s0, h0⟩, ⟨s1, h1⟩, ⟨s2, h2⟩, ⟨s3, h3⟩, ⟨s4, h4⟩, ⟨s5, h5⟩, ⟨s6, h6⟩, n0, n1, n2, n3, n4, n5⟩ := hs
    rcases hE with ⟨rfl, hp⟩ | ⟨rfl, hp⟩
    · refine vx_catch (name := "java/lang/IndexOutOfBoundsException") hown [] ⟨0, 9, 12, 13⟩ [⟨0, 9, 15, 20⟩] (htab.trans rfl) (fun z hz => absurd hz List.not_mem_nil) (by decide) (by decide) (hts _ (List.mem_of_getElem? (i := 1) rfl)) (va_Nw.use rfl n0) hce hcv hcl ?_
      refine lv_astore_n (lv' := [(3, .ref q), (0, .ref (a 0)), (1, .int p1), (2, .ref o)]) hx hb dL_fish_12 rfl hl (by decide) rfl (fun ls hl => ?_)
      refine lv_iconst (v := 1) hx hb dL_fish_13 (by decide) ?_
      exact hret 1 (σ, f) _ _ _ _ _ _ (Nat.le_of_ble_eq_true rfl) (Nat.le_of_ble_eq_true rfl) hp hW dL_fish_14
    · refine vx_catch (name := "java/lang/IllegalStateException") hown [⟨0, 9, 12, 13⟩] ⟨0, 9, 15, 20⟩ [] (htab.trans rfl) (fun z hz => by obtain rfl := List.mem_singleton.mp hz; exact Or.inr ⟨by decide, "java/lang/IndexOutOfBoundsException", hts _ (List.mem_of_getElem? (i := 1) rfl), hnc.2.1⟩) (by decide) (by decide) (hts _ (List.mem_of_getElem? (i := 2) rfl)) (va_Nw.use rfl n2) hce hcv hcl ?_
      refine lv_astore_n (lv' := [(3, .ref q), (0, .ref (a 0)), (1, .int p1), (2, .ref o)]) hx hb dL_fish_15 rfl hl (by decide) rfl (fun ls hl => ?_)
      refine lv_iconst (v := 2) hx hb dL_fish_16 (by decide) ?_
      exact hret 2 (σ, f) _ _ _ _ _ _ (Nat.le_of_ble_eq_true rfl) (Nat.le_of_ble_eq_true rfl) hp hW dL_fish_17
  · refine lv_i2l hx hb dL_fish_7 rfl ?_
    refine va_last hx hb hK hW.1 hW.2.1 hW.2.2 11 1 rfl rfl (by unfold vp_in; decide) dL_fish_8 (fun H locs h1 h2 h3 => ?_)
    have hW : Wd D A s.heap (hWW cI cJ a o σ1 (vp_updL f ((0 : Int32)).toNatClampNeg (r).toInt64)) H locs := And.intro h1 (And.intro h2 h3)
    refine lv_goto (tgt := 18) hx hb dL_fish_9 (by decide) ?_
    refine lv_iconst (v := 0) hx hb dL_fish_18 (by decide) ?_
    exact hret 0 (σ1, _) _ _ _ _ _ _ (Nat.le_of_ble_eq_true rfl) (Nat.le_of_ble_eq_true rfl) hw hW dL_fish_19
def wp_L_append (σ : CS) (f : Nat → Int64) (p1 : Int32) (post : Int32 → CS → (Nat → Int64) → Prop) : Prop := wp_X4_append σ p1 (fun r σ1 => post 0 σ1 (vp_updL f ((0 : Int32)).toNatClampNeg (r).toInt64)) (fun E => (E = "java/lang/IllegalArgumentException" ∧ post 1 σ f) ∨ (E = "java/lang/IllegalStateException" ∧ post 2 σ f))
abbrev rm_L_append : Room := { frames := 10, cells := 2, slots := 12, locals := 183 }
theorem in_L_append_X4 : ∀ w ∈ wsX40, w ∈ wsL_append := fun w h => List.mem_cons_of_mem _ (List.mem_append_left _ (List.mem_append_left _ (List.mem_append_left _ (List.mem_append_right _ (h)))))
set_option maxHeartbeats 4000000 in
set_option maxRecDepth 100000 in
theorem ok_L_append (l : Launch) (hst : l.stackTraces = false) (D : va_G) (cI cJ : ClassId) (a : Nat → Nat) (o sz : Nat) (σ : CS) (f : Nat → Int64) (p1 : Int32) (post : Int32 → CS → (Nat → Int64) → Prop) (hw : wp_L_append σ f p1 post) : Hi l yL_append wsL_append rm_L_append [.ref (a 0), .int p1, .ref o] D (tysIJ cI cJ) (hWW cI cJ a o σ f) sz (fun k (u : CS × (Nat → Int64)) => post k u.1 u.2) (fun u => hWW cI cJ a o u.1 u.2) 2 12 := by
  refine s_H (by decide) rfl (Nat.le_of_ble_eq_true rfl) ?_
  intro p e s m args below meth c A Q hx hb hml hts hown htab hK hA hz hs hnc hret H locs ls hW hl
  have hown : s.vm.findClass RL = some m.cls := hown
  have hl : lv_has ls 4 [(0, .ref (a 0)), (1, .int p1), (2, .ref o)] := hl
  refine lv_aload_n hx hb dL_append_0 rfl (lv_at hl 2 rfl) ?_
  refine lv_iconst (v := 0) hx hb dL_append_1 (by decide) ?_
  refine lv_aload_n hx hb dL_append_2 rfl (lv_at hl 0 rfl) ?_
  refine lv_iload_n hx hb dL_append_3 rfl (lv_at hl 1 rfl) ?_
  refine kVL_Xi (w1 := cW cI cJ a σ) (w2 := [(o, .inl (cJ, 1, .inr (.inl f)))]) (As := [.int p1]) (rest := [.int 0, .ref o]) ⟨hx, hb, hml, hown, hts⟩ (ok_X4_append l hst D cI cJ a _ _ _ _ _ hw) (cwV 1 hts gL_append_X4_append rfl rfl rfl (by decide +kernel) ⟨(Nat.le_of_ble_eq_true rfl), (Nat.le_of_ble_eq_true rfl)⟩) hK hW hA hz hs 0 rfl rfl rfl hl.1 rfl (Nat.le_of_ble_eq_true rfl) dL_append_4 ⟨(Nat.le_of_ble_eq_true rfl), (Nat.le_of_ble_eq_true rfl)⟩ (fun E ce q H locs hE hW hce hcv hcl => ?_) (fun r σ1 H locs hw hW => ?_)
  · obtain ⟨⟨s0, h0⟩, ⟨s1, h1⟩, ⟨s2, h2⟩, ⟨s3, h3⟩, ⟨s4, h4⟩, ⟨s5, h5⟩, ⟨s6, h6⟩, n0, n1, n2, n3, n4, n5⟩ := hs
    rcases hE with ⟨rfl, hp⟩ | ⟨rfl, hp⟩
    · refine vx_catch (name := "java/lang/IllegalArgumentException") hown [] ⟨0, 9, 12, 15⟩ [⟨0, 9, 15, 20⟩] (htab.trans rfl) (fun z hz => absurd hz List.not_mem_nil) (by decide) (by decide) (hts _ (List.mem_of_getElem? (i := 1) rfl)) (va_Nw.use rfl n1) hce hcv hcl ?_
      refine lv_astore_n (lv' := [(3, .ref q), (0, .ref (a 0)), (1, .int p1), (2, .ref o)]) hx hb dL_append_12 rfl hl (by decide) rfl (fun ls hl => ?_)
      refine lv_iconst (v := 1) hx hb dL_append_13 (by decide) ?_
      exact hret 1 (σ, f) _ _ _ _ _ _ (Nat.le_of_ble_eq_true rfl) (Nat.le_of_ble_eq_true rfl) hp hW dL_append_14
    · refine vx_catch (name := "java/lang/IllegalStateException") hown [⟨0, 9, 12, 15⟩] ⟨0, 9, 15, 20⟩ [] (htab.trans rfl) (fun z hz => by obtain rfl := List.mem_singleton.mp hz; exact Or.inr ⟨by decide, "java/lang/IllegalArgumentException", hts _ (List.mem_of_getElem? (i := 1) rfl), hnc.2.2⟩) (by decide) (by decide) (hts _ (List.mem_of_getElem? (i := 2) rfl)) (va_Nw.use rfl n2) hce hcv hcl ?_
      refine lv_astore_n (lv' := [(3, .ref q), (0, .ref (a 0)), (1, .int p1), (2, .ref o)]) hx hb dL_append_15 rfl hl (by decide) rfl (fun ls hl => ?_)
      refine lv_iconst (v := 2) hx hb dL_append_16 (by decide) ?_
      exact hret 2 (σ, f) _ _ _ _ _ _ (Nat.le_of_ble_eq_true rfl) (Nat.le_of_ble_eq_true rfl) hp hW dL_append_17
  · refine lv_i2l hx hb dL_append_7 rfl ?_
    refine va_last hx hb hK hW.1 hW.2.1 hW.2.2 11 1 rfl rfl (by unfold vp_in; decide) dL_append_8 (fun H locs h1 h2 h3 => ?_)
    have hW : Wd D A s.heap (hWW cI cJ a o σ1 (vp_updL f ((0 : Int32)).toNatClampNeg (r).toInt64)) H locs := And.intro h1 (And.intro h2 h3)
    refine lv_goto (tgt := 18) hx hb dL_append_9 (by decide) ?_
    refine lv_iconst (v := 0) hx hb dL_append_18 (by decide) ?_
    exact hret 0 (σ1, _) _ _ _ _ _ _ (Nat.le_of_ble_eq_true rfl) (Nat.le_of_ble_eq_true rfl) hw hW dL_append_19
def wp_L_run (σ : CS) (f : Nat → Int64)  (post : Int32 → CS → (Nat → Int64) → Prop) : Prop := wp_X4_run σ (fun r σ1 => post 0 σ1 (vp_updL f ((0 : Int32)).toNatClampNeg (r).toInt64)) (fun E => (E = "java/lang/IllegalArgumentException" ∧ post 1 σ f))
abbrev rm_L_run : Room := { frames := 9, cells := 1, slots := 6, locals := 180 }
theorem in_L_run_X4 : ∀ w ∈ wsX40, w ∈ wsL_run := fun w h => List.mem_cons_of_mem _ (List.mem_append_left _ (List.mem_append_left _ (List.mem_append_left _ (List.mem_append_left _ (List.mem_append_left _ (List.mem_append_right _ (h)))))))
set_option maxHeartbeats 4000000 in
set_option maxRecDepth 100000 in
theorem ok_L_run (l : Launch) (hst : l.stackTraces = false) (D : va_G) (cI cJ : ClassId) (a : Nat → Nat) (o sz : Nat) (σ : CS) (f : Nat → Int64)  (post : Int32 → CS → (Nat → Int64) → Prop) (hw : wp_L_run σ f post) : Hi l yL_run wsL_run rm_L_run [.ref (a 0), .ref o] D (tysIJ cI cJ) (hWW cI cJ a o σ f) sz (fun k (u : CS × (Nat → Int64)) => post k u.1 u.2) (fun u => hWW cI cJ a o u.1 u.2) 1 6 := by
  refine s_H (by decide) rfl (Nat.le_of_ble_eq_true rfl) ?_
  intro p e s m args below meth c A Q hx hb hml hts hown htab hK hA hz hs hnc hret H locs ls hW hl
  have hown : s.vm.findClass RL = some m.cls := hown
  have hl : lv_has ls 3 [(0, .ref (a 0)), (1, .ref o)] := hl
  refine lv_aload_n hx hb dL_run_0 rfl (lv_at hl 1 rfl) ?_
  refine lv_iconst (v := 0) hx hb dL_run_1 (by decide) ?_
  refine lv_aload_n hx hb dL_run_2 rfl (lv_at hl 0 rfl) ?_
  refine kVL_Xi (w1 := cW cI cJ a σ) (w2 := [(o, .inl (cJ, 1, .inr (.inl f)))]) (As := []) (rest := [.int 0, .ref o]) ⟨hx, hb, hml, hown, hts⟩ (ok_X4_run l hst D cI cJ a _ _ _ _ hw) (cwV 0 hts gL_run_X4_run rfl rfl rfl (by decide +kernel) ⟨(Nat.le_of_ble_eq_true rfl), (Nat.le_of_ble_eq_true rfl)⟩) hK hW hA hz hs 0 rfl rfl rfl hl.1 rfl (Nat.le_of_ble_eq_true rfl) dL_run_3 ⟨(Nat.le_of_ble_eq_true rfl), (Nat.le_of_ble_eq_true rfl)⟩ (fun E ce q H locs hE hW hce hcv hcl => ?_) (fun r σ1 H locs hw hW => ?_)
  · obtain ⟨⟨s0, h0⟩, ⟨s1, h1⟩, ⟨s2, h2⟩, ⟨s3, h3⟩, ⟨s4, h4⟩, ⟨s5, h5⟩, ⟨s6, h6⟩, n0, n1, n2, n3, n4, n5⟩ := hs
    obtain ⟨rfl, hp⟩ := hE
    refine vx_catch (name := "java/lang/IllegalArgumentException") hown [] ⟨0, 8, 11, 15⟩ [] (htab.trans rfl) (fun z hz => absurd hz List.not_mem_nil) (by decide) (by decide) (hts _ (List.mem_of_getElem? (i := 1) rfl)) (va_Nw.use rfl n1) hce hcv hcl ?_
    refine lv_astore_n (lv' := [(2, .ref q), (0, .ref (a 0)), (1, .ref o)]) hx hb dL_run_11 rfl hl (by decide) rfl (fun ls hl => ?_)
    refine lv_iconst (v := 1) hx hb dL_run_12 (by decide) ?_
    exact hret 1 (σ, f) _ _ _ _ _ _ (Nat.le_of_ble_eq_true rfl) (Nat.le_of_ble_eq_true rfl) hp hW dL_run_13
  · refine lv_i2l hx hb dL_run_6 rfl ?_
    refine va_last hx hb hK hW.1 hW.2.1 hW.2.2 11 1 rfl rfl (by unfold vp_in; decide) dL_run_7 (fun H locs h1 h2 h3 => ?_)
    have hW : Wd D A s.heap (hWW cI cJ a o σ1 (vp_updL f ((0 : Int32)).toNatClampNeg (r).toInt64)) H locs := And.intro h1 (And.intro h2 h3)
    refine lv_goto (tgt := 14) hx hb dL_run_8 (by decide) ?_
    refine lv_iconst (v := 0) hx hb dL_run_14 (by decide) ?_
    exact hret 0 (σ1, _) _ _ _ _ _ _ (Nat.le_of_ble_eq_true rfl) (Nat.le_of_ble_eq_true rfl) hw hW dL_run_15
def wp_L_goBack (σ : CS) (f : Nat → Int64)  (post : Int32 → CS → (Nat → Int64) → Prop) : Prop := wp_X4_goBack σ (fun r σ1 => post 0 σ1 (vp_updL f ((0 : Int32)).toNatClampNeg (r).toInt64)) (fun E => (E = "java/lang/IllegalStateException" ∧ post 1 σ f))
abbrev rm_L_goBack : Room := { frames := 10, cells := 1, slots := 6, locals := 180 }
theorem in_L_goBack_X4 : ∀ w ∈ wsX40, w ∈ wsL_goBack := fun w h => List.mem_cons_of_mem _ (List.mem_append_left _ (List.mem_append_left _ (List.mem_append_left _ (List.mem_append_right _ (h)))))
set_option maxHeartbeats 4000000 in
set_option maxRecDepth 100000 in
theorem ok_L_goBack (l : Launch) (hst : l.stackTraces = false) (D : va_G) (cI cJ : ClassId) (a : Nat → Nat) (o sz : Nat) (σ : CS) (f : Nat → Int64)  (post : Int32 → CS → (Nat → Int64) → Prop) (hw : wp_L_goBack σ f post) : Hi l yL_goBack wsL_goBack rm_L_goBack [.ref (a 0), .ref o] D (tysIJ cI cJ) (hWW cI cJ a o σ f) sz (fun k (u : CS × (Nat → Int64)) => post k u.1 u.2) (fun u => hWW cI cJ a o u.1 u.2) 1 6 := by
  refine s_H (by decide) rfl (Nat.le_of_ble_eq_true rfl) ?_
  intro p e s m args below meth c A Q hx hb hml hts hown htab hK hA hz hs hnc hret H locs ls hW hl
  have hown : s.vm.findClass RL = some m.cls := hown
  have hl : lv_has ls 3 [(0, .ref (a 0)), (1, .ref o)] := hl
  refine lv_aload_n hx hb dL_goBack_0 rfl (lv_at hl 1 rfl) ?_
  refine lv_iconst (v := 0) hx hb dL_goBack_1 (by decide) ?_
  refine lv_aload_n hx hb dL_goBack_2 rfl (lv_at hl 0 rfl) ?_
  refine kVL_Xi (w1 := cW cI cJ a σ) (w2 := [(o, .inl (cJ, 1, .inr (.inl f)))]) (As := []) (rest := [.int 0, .ref o]) ⟨hx, hb, hml, hown, hts⟩ (ok_X4_goBack l hst D cI cJ a _ _ _ _ hw) (cwV 0 hts gL_goBack_X4_goBack rfl rfl rfl (by decide +kernel) ⟨(Nat.le_of_ble_eq_true rfl), (Nat.le_of_ble_eq_true rfl)⟩) hK hW hA hz hs 0 rfl rfl rfl hl.1 rfl (Nat.le_of_ble_eq_true rfl) dL_goBack_3 ⟨(Nat.le_of_ble_eq_true rfl), (Nat.le_of_ble_eq_true rfl)⟩ (fun E ce q H locs hE hW hce hcv hcl => ?_) (fun r σ1 H locs hw hW => ?_)
  · obtain ⟨⟨s0, h0⟩, ⟨s1, h1⟩, ⟨s2, h2⟩, ⟨s3, h3⟩, ⟨s4, h4⟩, ⟨s5, h5⟩, ⟨s6, h6⟩, n0, n1, n2, n3, n4, n5⟩ := hs
    obtain ⟨rfl, hp⟩ := hE
    refine vx_catch (name := "java/lang/IllegalStateException") hown [] ⟨0, 8, 11, 20⟩ [] (htab.trans rfl) (fun z hz => absurd hz List.not_mem_nil) (by decide) (by decide) (hts _ (List.mem_of_getElem? (i := 1) rfl)) (va_Nw.use rfl n2) hce hcv hcl ?_
    refine lv_astore_n (lv' := [(2, .ref q), (0, .ref (a 0)), (1, .ref o)]) hx hb dL_goBack_11 rfl hl (by decide) rfl (fun ls hl => ?_)
    refine lv_iconst (v := 1) hx hb dL_goBack_12 (by decide) ?_
    exact hret 1 (σ, f) _ _ _ _ _ _ (Nat.le_of_ble_eq_true rfl) (Nat.le_of_ble_eq_true rfl) hp hW dL_goBack_13
  · refine lv_i2l hx hb dL_goBack_6 rfl ?_
    refine va_last hx hb hK hW.1 hW.2.1 hW.2.2 11 1 rfl rfl (by unfold vp_in; decide) dL_goBack_7 (fun H locs h1 h2 h3 => ?_)
    have hW : Wd D A s.heap (hWW cI cJ a o σ1 (vp_updL f ((0 : Int32)).toNatClampNeg (r).toInt64)) H locs := And.intro h1 (And.intro h2 h3)
    refine lv_goto (tgt := 14) hx hb dL_goBack_8 (by decide) ?_
    refine lv_iconst (v := 0) hx hb dL_goBack_14 (by decide) ?_
    exact hret 0 (σ1, _) _ _ _ _ _ _ (Nat.le_of_ble_eq_true rfl) (Nat.le_of_ble_eq_true rfl) hw hW dL_goBack_15
def wp_L_undo (σ : CS) (f : Nat → Int64)  (post : Int32 → CS → (Nat → Int64) → Prop) : Prop := wp_X4_undo σ (fun r σ1 => post 0 σ1 (vp_updL f ((0 : Int32)).toNatClampNeg (r).toInt64)) (fun E => (E = "java/lang/IllegalStateException" ∧ post 1 σ f))
abbrev rm_L_undo : Room := { frames := 10, cells := 1, slots := 6, locals := 180 }
theorem in_L_undo_X4 : ∀ w ∈ wsX40, w ∈ wsL_undo := fun w h => List.mem_cons_of_mem _ (List.mem_append_left _ (List.mem_append_left _ (List.mem_append_left _ (List.mem_append_right _ (h)))))
set_option maxHeartbeats 4000000 in
set_option maxRecDepth 100000 in
theorem ok_L_undo (l : Launch) (hst : l.stackTraces = false) (D : va_G) (cI cJ : ClassId) (a : Nat → Nat) (o sz : Nat) (σ : CS) (f : Nat → Int64)  (post : Int32 → CS → (Nat → Int64) → Prop) (hw : wp_L_undo σ f post) : Hi l yL_undo wsL_undo rm_L_undo [.ref (a 0), .ref o] D (tysIJ cI cJ) (hWW cI cJ a o σ f) sz (fun k (u : CS × (Nat → Int64)) => post k u.1 u.2) (fun u => hWW cI cJ a o u.1 u.2) 1 6 := by
  refine s_H (by decide) rfl (Nat.le_of_ble_eq_true rfl) ?_
  intro p e s m args below meth c A Q hx hb hml hts hown htab hK hA hz hs hnc hret H locs ls hW hl
  have hown : s.vm.findClass RL = some m.cls := hown
  have hl : lv_has ls 3 [(0, .ref (a 0)), (1, .ref o)] := hl
  refine lv_aload_n hx hb dL_undo_0 rfl (lv_at hl 1 rfl) ?_
  refine lv_iconst (v := 0) hx hb dL_undo_1 (by decide) ?_
  refine lv_aload_n hx hb dL_undo_2 rfl (lv_at hl 0 rfl) ?_
  refine kVL_Xi (w1 := cW cI cJ a σ) (w2 := [(o, .inl (cJ, 1, .inr (.inl f)))]) (As := []) (rest := [.int 0, .ref o]) ⟨hx, hb, hml, hown, hts⟩ (ok_X4_undo l hst D cI cJ a _ _ _ _ hw) (cwV 0 hts gL_undo_X4_undo rfl rfl rfl (by decide +kernel) ⟨(Nat.le_of_ble_eq_true rfl), (Nat.le_of_ble_eq_true rfl)⟩) hK hW hA hz hs 0 rfl rfl rfl hl.1 rfl (Nat.le_of_ble_eq_true rfl) dL_undo_3 ⟨(Nat.le_of_ble_eq_true rfl), (Nat.le_of_ble_eq_true rfl)⟩ (fun E ce q H locs hE hW hce hcv hcl => ?_) (fun r σ1 H locs hw hW => ?_)
  · obtain ⟨⟨s0, h0⟩, ⟨s1, h1⟩, ⟨s2, h2⟩, ⟨s3, h3⟩, ⟨s4, h4⟩, ⟨s5, h5⟩, ⟨s6, h6⟩, n0, n1, n2, n3, n4, n5⟩ := hs
    obtain ⟨rfl, hp⟩ := hE
    refine vx_catch (name := "java/lang/IllegalStateException") hown [] ⟨0, 8, 11, 20⟩ [] (htab.trans rfl) (fun z hz => absurd hz List.not_mem_nil) (by decide) (by decide) (hts _ (List.mem_of_getElem? (i := 1) rfl)) (va_Nw.use rfl n2) hce hcv hcl ?_
    refine lv_astore_n (lv' := [(2, .ref q), (0, .ref (a 0)), (1, .ref o)]) hx hb dL_undo_11 rfl hl (by decide) rfl (fun ls hl => ?_)
    refine lv_iconst (v := 1) hx hb dL_undo_12 (by decide) ?_
    exact hret 1 (σ, f) _ _ _ _ _ _ (Nat.le_of_ble_eq_true rfl) (Nat.le_of_ble_eq_true rfl) hp hW dL_undo_13
  · refine lv_i2l hx hb dL_undo_6 rfl ?_
    refine va_last hx hb hK hW.1 hW.2.1 hW.2.2 11 1 rfl rfl (by unfold vp_in; decide) dL_undo_7 (fun H locs h1 h2 h3 => ?_)
    have hW : Wd D A s.heap (hWW cI cJ a o σ1 (vp_updL f ((0 : Int32)).toNatClampNeg (r).toInt64)) H locs := And.intro h1 (And.intro h2 h3)
    refine lv_goto (tgt := 14) hx hb dL_undo_8 (by decide) ?_
    refine lv_iconst (v := 0) hx hb dL_undo_14 (by decide) ?_
    exact hret 0 (σ1, _) _ _ _ _ _ _ (Nat.le_of_ble_eq_true rfl) (Nat.le_of_ble_eq_true rfl) hw hW dL_undo_15
def wp_L_spot (σ : CS) (f : Nat → Int64) (p1 : Int32) (p2 : Int32) (post : Int32 → CS → (Nat → Int64) → Prop) : Prop := wp_X4_spot σ p1 p2 (fun r => post 0 σ (vp_updL f ((0 : Int32)).toNatClampNeg (r).toInt64)) (fun E => (E = "java/lang/IndexOutOfBoundsException" ∧ post 1 σ f) ∨ (E = "java/lang/IllegalArgumentException" ∧ post 2 σ f))
abbrev rm_L_spot : Room := { frames := 10, cells := 2, slots := 12, locals := 183 }
theorem in_L_spot_X4 : ∀ w ∈ wsX40, w ∈ wsL_spot := fun w h => List.mem_cons_of_mem _ (List.mem_append_left _ (List.mem_append_left _ (List.mem_append_left _ (List.mem_append_right _ (h)))))
set_option maxHeartbeats 4000000 in
set_option maxRecDepth 100000 in
theorem ok_L_spot (l : Launch) (hst : l.stackTraces = false) (D : va_G) (cI cJ : ClassId) (a : Nat → Nat) (o sz : Nat) (σ : CS) (f : Nat → Int64) (p1 : Int32) (p2 : Int32) (post : Int32 → CS → (Nat → Int64) → Prop) (hw : wp_L_spot σ f p1 p2 post) : Hi l yL_spot wsL_spot rm_L_spot [.ref (a 0), .int p1, .int p2, .ref o] D (tysIJ cI cJ) (hWW cI cJ a o σ f) sz (fun k (u : CS × (Nat → Int64)) => post k u.1 u.2) (fun u => hWW cI cJ a o u.1 u.2) 2 12 := by
  refine s_H (by decide) rfl (Nat.le_of_ble_eq_true rfl) ?_
  intro p e s m args below meth c A Q hx hb hml hts hown htab hK hA hz hs hnc hret H locs ls hW hl
  have hown : s.vm.findClass RL = some m.cls := hown
  have hl : lv_has ls 5 [(0, .ref (a 0)), (1, .int p1), (2, .int p2), (3, .ref o)] := hl
  refine lv_aload_n hx hb dL_spot_0 rfl (lv_at hl 3 rfl) ?_
  refine lv_iconst (v := 0) hx hb dL_spot_1 (by decide) ?_
  refine lv_aload_n hx hb dL_spot_2 rfl (lv_at hl 0 rfl) ?_
  refine lv_iload_n hx hb dL_spot_3 rfl (lv_at hl 1 rfl) ?_
  refine lv_iload_n hx hb dL_spot_4 rfl (lv_at hl 2 rfl) ?_
  refine kVL_Xi (w1 := cW cI cJ a σ) (w2 := [(o, .inl (cJ, 1, .inr (.inl f)))]) (As := [.int p1, .int p2]) (rest := [.int 0, .ref o]) ⟨hx, hb, hml, hown, hts⟩ (ok_X4_spot l hst D cI cJ a _ _ _ _ _ _ hw) (cwV 2 hts gL_spot_X4_spot rfl rfl rfl (by decide +kernel) ⟨(Nat.le_of_ble_eq_true rfl), (Nat.le_of_ble_eq_true rfl)⟩) hK hW hA hz hs 0 rfl rfl rfl hl.1 rfl (Nat.le_of_ble_eq_true rfl) dL_spot_5 ⟨(Nat.le_of_ble_eq_true rfl), (Nat.le_of_ble_eq_true rfl)⟩ (fun E ce q H locs hE hW hce hcv hcl => ?_) (fun r _ H locs hw hW => ?_)
  · obtain ⟨⟨s0, h0⟩, ⟨s1, h1⟩, ⟨s2, h2⟩, ⟨s3, h3⟩, ⟨s4, h4⟩, ⟨s5, h5⟩, ⟨s6, h6⟩, n0, n1, n2, n3, n4, n5⟩ := hs
    rcases hE with ⟨rfl, hp⟩ | ⟨rfl, hp⟩
    · refine vx_catch (name := "java/lang/IndexOutOfBoundsException") hown [] ⟨0, 10, 13, 13⟩ [⟨0, 10, 17, 15⟩] (htab.trans rfl) (fun z hz => absurd hz List.not_mem_nil) (by decide) (by decide) (hts _ (List.mem_of_getElem? (i := 1) rfl)) (va_Nw.use rfl n0) hce hcv hcl ?_
      refine lv_astore (lv' := [(4, .ref q), (0, .ref (a 0)), (1, .int p1), (2, .int p2), (3, .ref o)]) hx hb dL_spot_13 hl (by decide) rfl (fun ls hl => ?_)
      refine lv_iconst (v := 1) hx hb dL_spot_15 (by decide) ?_
      exact hret 1 (σ, f) _ _ _ _ _ _ (Nat.le_of_ble_eq_true rfl) (Nat.le_of_ble_eq_true rfl) hp hW dL_spot_16
    · refine vx_catch (name := "java/lang/IllegalArgumentException") hown [⟨0, 10, 13, 13⟩] ⟨0, 10, 17, 15⟩ [] (htab.trans rfl) (fun z hz => by obtain rfl := List.mem_singleton.mp hz; exact Or.inr ⟨by decide, "java/lang/IndexOutOfBoundsException", hts _ (List.mem_of_getElem? (i := 1) rfl), hnc.1⟩) (by decide) (by decide) (hts _ (List.mem_of_getElem? (i := 2) rfl)) (va_Nw.use rfl n1) hce hcv hcl ?_
      refine lv_astore (lv' := [(4, .ref q), (0, .ref (a 0)), (1, .int p1), (2, .int p2), (3, .ref o)]) hx hb dL_spot_17 hl (by decide) rfl (fun ls hl => ?_)
      refine lv_iconst (v := 2) hx hb dL_spot_19 (by decide) ?_
      exact hret 2 (σ, f) _ _ _ _ _ _ (Nat.le_of_ble_eq_true rfl) (Nat.le_of_ble_eq_true rfl) hp hW dL_spot_20
  · refine lv_i2l hx hb dL_spot_8 rfl ?_
    refine va_last hx hb hK hW.1 hW.2.1 hW.2.2 11 1 rfl rfl (by unfold vp_in; decide) dL_spot_9 (fun H locs h1 h2 h3 => ?_)
    have hW : Wd D A s.heap (hWW cI cJ a o σ (vp_updL f ((0 : Int32)).toNatClampNeg (r).toInt64)) H locs := And.intro h1 (And.intro h2 h3)
    refine lv_goto (tgt := 21) hx hb dL_spot_10 (by decide) ?_
    refine lv_iconst (v := 0) hx hb dL_spot_21 (by decide) ?_
    exact hret 0 (σ, _) _ _ _ _ _ _ (Nat.le_of_ble_eq_true rfl) (Nat.le_of_ble_eq_true rfl) hw hW dL_spot_22
def wp_L_bidder (σ : CS) (f : Nat → Int64) (p1 : Int32) (p2 : Int32) (post : Int32 → CS → (Nat → Int64) → Prop) : Prop := wp_X4_bidder σ p1 p2 (fun r => post 0 σ (vp_updL f ((0 : Int32)).toNatClampNeg (r).toInt64)) (fun E => (E = "java/lang/IndexOutOfBoundsException" ∧ post 1 σ f) ∨ (E = "java/lang/IllegalArgumentException" ∧ post 2 σ f))
abbrev rm_L_bidder : Room := { frames := 10, cells := 2, slots := 12, locals := 183 }
theorem in_L_bidder_X4 : ∀ w ∈ wsX40, w ∈ wsL_bidder := fun w h => List.mem_cons_of_mem _ (List.mem_append_left _ (List.mem_append_left _ (List.mem_append_left _ (List.mem_append_right _ (h)))))
set_option maxHeartbeats 4000000 in
set_option maxRecDepth 100000 in
theorem ok_L_bidder (l : Launch) (hst : l.stackTraces = false) (D : va_G) (cI cJ : ClassId) (a : Nat → Nat) (o sz : Nat) (σ : CS) (f : Nat → Int64) (p1 : Int32) (p2 : Int32) (post : Int32 → CS → (Nat → Int64) → Prop) (hw : wp_L_bidder σ f p1 p2 post) : Hi l yL_bidder wsL_bidder rm_L_bidder [.ref (a 0), .int p1, .int p2, .ref o] D (tysIJ cI cJ) (hWW cI cJ a o σ f) sz (fun k (u : CS × (Nat → Int64)) => post k u.1 u.2) (fun u => hWW cI cJ a o u.1 u.2) 2 12 := by
  refine s_H (by decide) rfl (Nat.le_of_ble_eq_true rfl) ?_
  intro p e s m args below meth c A Q hx hb hml hts hown htab hK hA hz hs hnc hret H locs ls hW hl
  have hown : s.vm.findClass RL = some m.cls := hown
  have hl : lv_has ls 5 [(0, .ref (a 0)), (1, .int p1), (2, .int p2), (3, .ref o)] := hl
  refine lv_aload_n hx hb dL_bidder_0 rfl (lv_at hl 3 rfl) ?_
  refine lv_iconst (v := 0) hx hb dL_bidder_1 (by decide) ?_
  refine lv_aload_n hx hb dL_bidder_2 rfl (lv_at hl 0 rfl) ?_
  refine lv_iload_n hx hb dL_bidder_3 rfl (lv_at hl 1 rfl) ?_
  refine lv_iload_n hx hb dL_bidder_4 rfl (lv_at hl 2 rfl) ?_
  refine kVL_Xi (w1 := cW cI cJ a σ) (w2 := [(o, .inl (cJ, 1, .inr (.inl f)))]) (As := [.int p1, .int p2]) (rest := [.int 0, .ref o]) ⟨hx, hb, hml, hown, hts⟩ (ok_X4_bidder l hst D cI cJ a _ _ _ _ _ _ hw) (cwV 2 hts gL_bidder_X4_bidder rfl rfl rfl (by decide +kernel) ⟨(Nat.le_of_ble_eq_true rfl), (Nat.le_of_ble_eq_true rfl)⟩) hK hW hA hz hs 0 rfl rfl rfl hl.1 rfl (Nat.le_of_ble_eq_true rfl) dL_bidder_5 ⟨(Nat.le_of_ble_eq_true rfl), (Nat.le_of_ble_eq_true rfl)⟩ (fun E ce q H locs hE hW hce hcv hcl => ?_) (fun r _ H locs hw hW => ?_)
  · obtain ⟨⟨s0, h0⟩, ⟨s1, h1⟩, ⟨s2, h2⟩, ⟨s3, h3⟩, ⟨s4, h4⟩, ⟨s5, h5⟩, ⟨s6, h6⟩, n0, n1, n2, n3, n4, n5⟩ := hs
    rcases hE with ⟨rfl, hp⟩ | ⟨rfl, hp⟩
    · refine vx_catch (name := "java/lang/IndexOutOfBoundsException") hown [] ⟨0, 10, 13, 13⟩ [⟨0, 10, 17, 15⟩] (htab.trans rfl) (fun z hz => absurd hz List.not_mem_nil) (by decide) (by decide) (hts _ (List.mem_of_getElem? (i := 1) rfl)) (va_Nw.use rfl n0) hce hcv hcl ?_
      refine lv_astore (lv' := [(4, .ref q), (0, .ref (a 0)), (1, .int p1), (2, .int p2), (3, .ref o)]) hx hb dL_bidder_13 hl (by decide) rfl (fun ls hl => ?_)
      refine lv_iconst (v := 1) hx hb dL_bidder_15 (by decide) ?_
      exact hret 1 (σ, f) _ _ _ _ _ _ (Nat.le_of_ble_eq_true rfl) (Nat.le_of_ble_eq_true rfl) hp hW dL_bidder_16
    · refine vx_catch (name := "java/lang/IllegalArgumentException") hown [⟨0, 10, 13, 13⟩] ⟨0, 10, 17, 15⟩ [] (htab.trans rfl) (fun z hz => by obtain rfl := List.mem_singleton.mp hz; exact Or.inr ⟨by decide, "java/lang/IndexOutOfBoundsException", hts _ (List.mem_of_getElem? (i := 1) rfl), hnc.1⟩) (by decide) (by decide) (hts _ (List.mem_of_getElem? (i := 2) rfl)) (va_Nw.use rfl n1) hce hcv hcl ?_
      refine lv_astore (lv' := [(4, .ref q), (0, .ref (a 0)), (1, .int p1), (2, .int p2), (3, .ref o)]) hx hb dL_bidder_17 hl (by decide) rfl (fun ls hl => ?_)
      refine lv_iconst (v := 2) hx hb dL_bidder_19 (by decide) ?_
      exact hret 2 (σ, f) _ _ _ _ _ _ (Nat.le_of_ble_eq_true rfl) (Nat.le_of_ble_eq_true rfl) hp hW dL_bidder_20
  · refine lv_i2l hx hb dL_bidder_8 rfl ?_
    refine va_last hx hb hK hW.1 hW.2.1 hW.2.2 11 1 rfl rfl (by unfold vp_in; decide) dL_bidder_9 (fun H locs h1 h2 h3 => ?_)
    have hW : Wd D A s.heap (hWW cI cJ a o σ (vp_updL f ((0 : Int32)).toNatClampNeg (r).toInt64)) H locs := And.intro h1 (And.intro h2 h3)
    refine lv_goto (tgt := 21) hx hb dL_bidder_10 (by decide) ?_
    refine lv_iconst (v := 0) hx hb dL_bidder_21 (by decide) ?_
    exact hret 0 (σ, _) _ _ _ _ _ _ (Nat.le_of_ble_eq_true rfl) (Nat.le_of_ble_eq_true rfl) hw hW dL_bidder_22
def wp_L_sealed (σ : CS) (f : Nat → Int64) (p1 : Int32) (p2 : Int32) (p3 : Int32) (post : Int32 → CS → (Nat → Int64) → Prop) : Prop := wp_X4_sealed σ p1 p2 p3 (fun r => post 0 σ (vp_updL f ((0 : Int32)).toNatClampNeg (r).toInt64)) (fun E => (E = "java/lang/IndexOutOfBoundsException" ∧ post 1 σ f) ∨ (E = "java/lang/IllegalArgumentException" ∧ post 2 σ f))
abbrev rm_L_sealed : Room := { frames := 10, cells := 3, slots := 18, locals := 185 }
theorem in_L_sealed_X4 : ∀ w ∈ wsX40, w ∈ wsL_sealed := fun w h => List.mem_cons_of_mem _ (List.mem_append_left _ (List.mem_append_left _ (List.mem_append_left _ (List.mem_append_right _ (h)))))
set_option maxHeartbeats 4000000 in
set_option maxRecDepth 100000 in
theorem ok_L_sealed (l : Launch) (hst : l.stackTraces = false) (D : va_G) (cI cJ : ClassId) (a : Nat → Nat) (o sz : Nat) (σ : CS) (f : Nat → Int64) (p1 : Int32) (p2 : Int32) (p3 : Int32) (post : Int32 → CS → (Nat → Int64) → Prop) (hw : wp_L_sealed σ f p1 p2 p3 post) : Hi l yL_sealed wsL_sealed rm_L_sealed [.ref (a 0), .int p1, .int p2, .int p3, .ref o] D (tysIJ cI cJ) (hWW cI cJ a o σ f) sz (fun k (u : CS × (Nat → Int64)) => post k u.1 u.2) (fun u => hWW cI cJ a o u.1 u.2) 3 18 := by
  refine s_H (by decide) rfl (Nat.le_of_ble_eq_true rfl) ?_
  intro p e s m args below meth c A Q hx hb hml hts hown htab hK hA hz hs hnc hret H locs ls hW hl
  have hown : s.vm.findClass RL = some m.cls := hown
  have hl : lv_has ls 6 [(0, .ref (a 0)), (1, .int p1), (2, .int p2), (3, .int p3), (4, .ref o)] := hl
  refine lv_aload hx hb dL_sealed_0 (lv_at hl 4 rfl) ?_
  refine lv_iconst (v := 0) hx hb dL_sealed_2 (by decide) ?_
  refine lv_aload_n hx hb dL_sealed_3 rfl (lv_at hl 0 rfl) ?_
  refine lv_iload_n hx hb dL_sealed_4 rfl (lv_at hl 1 rfl) ?_
  refine lv_iload_n hx hb dL_sealed_5 rfl (lv_at hl 2 rfl) ?_
  refine lv_iload_n hx hb dL_sealed_6 rfl (lv_at hl 3 rfl) ?_
  refine kVL_Xi (w1 := cW cI cJ a σ) (w2 := [(o, .inl (cJ, 1, .inr (.inl f)))]) (As := [.int p1, .int p2, .int p3]) (rest := [.int 0, .ref o]) ⟨hx, hb, hml, hown, hts⟩ (ok_X4_sealed l hst D cI cJ a _ _ _ _ _ _ _ hw) (cwV 3 hts gL_sealed_X4_sealed rfl rfl rfl (by decide +kernel) ⟨(Nat.le_of_ble_eq_true rfl), (Nat.le_of_ble_eq_true rfl)⟩) hK hW hA hz hs 0 rfl rfl rfl hl.1 rfl (Nat.le_of_ble_eq_true rfl) dL_sealed_7 ⟨(Nat.le_of_ble_eq_true rfl), (Nat.le_of_ble_eq_true rfl)⟩ (fun E ce q H locs hE hW hce hcv hcl => ?_) (fun r _ H locs hw hW => ?_)
  · obtain ⟨⟨s0, h0⟩, ⟨s1, h1⟩, ⟨s2, h2⟩, ⟨s3, h3⟩, ⟨s4, h4⟩, ⟨s5, h5⟩, ⟨s6, h6⟩, n0, n1, n2, n3, n4, n5⟩ := hs
    rcases hE with ⟨rfl, hp⟩ | ⟨rfl, hp⟩
    · refine vx_catch (name := "java/lang/IndexOutOfBoundsException") hown [] ⟨0, 12, 15, 13⟩ [⟨0, 12, 19, 15⟩] (htab.trans rfl) (fun z hz => absurd hz List.not_mem_nil) (by decide) (by decide) (hts _ (List.mem_of_getElem? (i := 1) rfl)) (va_Nw.use rfl n0) hce hcv hcl ?_
      refine lv_astore (lv' := [(5, .ref q), (0, .ref (a 0)), (1, .int p1), (2, .int p2), (3, .int p3), (4, .ref o)]) hx hb dL_sealed_15 hl (by decide) rfl (fun ls hl => ?_)
      refine lv_iconst (v := 1) hx hb dL_sealed_17 (by decide) ?_
      exact hret 1 (σ, f) _ _ _ _ _ _ (Nat.le_of_ble_eq_true rfl) (Nat.le_of_ble_eq_true rfl) hp hW dL_sealed_18
    · refine vx_catch (name := "java/lang/IllegalArgumentException") hown [⟨0, 12, 15, 13⟩] ⟨0, 12, 19, 15⟩ [] (htab.trans rfl) (fun z hz => by obtain rfl := List.mem_singleton.mp hz; exact Or.inr ⟨by decide, "java/lang/IndexOutOfBoundsException", hts _ (List.mem_of_getElem? (i := 1) rfl), hnc.1⟩) (by decide) (by decide) (hts _ (List.mem_of_getElem? (i := 2) rfl)) (va_Nw.use rfl n1) hce hcv hcl ?_
      refine lv_astore (lv' := [(5, .ref q), (0, .ref (a 0)), (1, .int p1), (2, .int p2), (3, .int p3), (4, .ref o)]) hx hb dL_sealed_19 hl (by decide) rfl (fun ls hl => ?_)
      refine lv_iconst (v := 2) hx hb dL_sealed_21 (by decide) ?_
      exact hret 2 (σ, f) _ _ _ _ _ _ (Nat.le_of_ble_eq_true rfl) (Nat.le_of_ble_eq_true rfl) hp hW dL_sealed_22
  · refine lv_i2l hx hb dL_sealed_10 rfl ?_
    refine va_last hx hb hK hW.1 hW.2.1 hW.2.2 11 1 rfl rfl (by unfold vp_in; decide) dL_sealed_11 (fun H locs h1 h2 h3 => ?_)
    have hW : Wd D A s.heap (hWW cI cJ a o σ (vp_updL f ((0 : Int32)).toNatClampNeg (r).toInt64)) H locs := And.intro h1 (And.intro h2 h3)
    refine lv_goto (tgt := 23) hx hb dL_sealed_12 (by decide) ?_
    refine lv_iconst (v := 0) hx hb dL_sealed_23 (by decide) ?_
    exact hret 0 (σ, _) _ _ _ _ _ _ (Nat.le_of_ble_eq_true rfl) (Nat.le_of_ble_eq_true rfl) hw hW dL_sealed_24
def wp_L_count (σ : CS) (f : Nat → Int64) (p1 : Int32) (post : Int32 → CS → (Nat → Int64) → Prop) : Prop := wp_X4_count σ p1 (fun r => post 0 σ (vp_updL f ((0 : Int32)).toNatClampNeg (r).toInt64)) (fun E => (E = "java/lang/IllegalArgumentException" ∧ post 1 σ f))
abbrev rm_L_count : Room := { frames := 9, cells := 1, slots := 6, locals := 161 }
theorem in_L_count_X4 : ∀ w ∈ wsX40, w ∈ wsL_count := fun w h => List.mem_cons_of_mem _ (List.mem_append_left _ (List.mem_append_left _ (List.mem_append_left _ (List.mem_append_right _ (h)))))
set_option maxHeartbeats 4000000 in
set_option maxRecDepth 100000 in
theorem ok_L_count (l : Launch) (hst : l.stackTraces = false) (D : va_G) (cI cJ : ClassId) (a : Nat → Nat) (o sz : Nat) (σ : CS) (f : Nat → Int64) (p1 : Int32) (post : Int32 → CS → (Nat → Int64) → Prop) (hw : wp_L_count σ f p1 post) : Hi l yL_count wsL_count rm_L_count [.ref (a 0), .int p1, .ref o] D (tysIJ cI cJ) (hWW cI cJ a o σ f) sz (fun k (u : CS × (Nat → Int64)) => post k u.1 u.2) (fun u => hWW cI cJ a o u.1 u.2) 1 6 := by
  refine s_H (by decide) rfl (Nat.le_of_ble_eq_true rfl) ?_
  intro p e s m args below meth c A Q hx hb hml hts hown htab hK hA hz hs hnc hret H locs ls hW hl
  have hown : s.vm.findClass RL = some m.cls := hown
  have hl : lv_has ls 4 [(0, .ref (a 0)), (1, .int p1), (2, .ref o)] := hl
  refine lv_aload_n hx hb dL_count_0 rfl (lv_at hl 2 rfl) ?_
  refine lv_iconst (v := 0) hx hb dL_count_1 (by decide) ?_
  refine lv_aload_n hx hb dL_count_2 rfl (lv_at hl 0 rfl) ?_
  refine lv_iload_n hx hb dL_count_3 rfl (lv_at hl 1 rfl) ?_
  refine kVL_Xi (w1 := cW cI cJ a σ) (w2 := [(o, .inl (cJ, 1, .inr (.inl f)))]) (As := [.int p1]) (rest := [.int 0, .ref o]) ⟨hx, hb, hml, hown, hts⟩ (ok_X4_count l hst D cI cJ a _ _ _ _ _ hw) (cwV 1 hts gL_count_X4_count rfl rfl rfl (by decide +kernel) ⟨(Nat.le_of_ble_eq_true rfl), (Nat.le_of_ble_eq_true rfl)⟩) hK hW hA hz hs 0 rfl rfl rfl hl.1 rfl (Nat.le_of_ble_eq_true rfl) dL_count_4 ⟨(Nat.le_of_ble_eq_true rfl), (Nat.le_of_ble_eq_true rfl)⟩ (fun E ce q H locs hE hW hce hcv hcl => ?_) (fun r _ H locs hw hW => ?_)
  · obtain ⟨⟨s0, h0⟩, ⟨s1, h1⟩, ⟨s2, h2⟩, ⟨s3, h3⟩, ⟨s4, h4⟩, ⟨s5, h5⟩, ⟨s6, h6⟩, n0, n1, n2, n3, n4, n5⟩ := hs
    obtain ⟨rfl, hp⟩ := hE
    refine vx_catch (name := "java/lang/IllegalArgumentException") hown [] ⟨0, 9, 12, 15⟩ [] (htab.trans rfl) (fun z hz => absurd hz List.not_mem_nil) (by decide) (by decide) (hts _ (List.mem_of_getElem? (i := 1) rfl)) (va_Nw.use rfl n1) hce hcv hcl ?_
    refine lv_astore_n (lv' := [(3, .ref q), (0, .ref (a 0)), (1, .int p1), (2, .ref o)]) hx hb dL_count_12 rfl hl (by decide) rfl (fun ls hl => ?_)
    refine lv_iconst (v := 1) hx hb dL_count_13 (by decide) ?_
    exact hret 1 (σ, f) _ _ _ _ _ _ (Nat.le_of_ble_eq_true rfl) (Nat.le_of_ble_eq_true rfl) hp hW dL_count_14
  · refine lv_i2l hx hb dL_count_7 rfl ?_
    refine va_last hx hb hK hW.1 hW.2.1 hW.2.2 11 1 rfl rfl (by unfold vp_in; decide) dL_count_8 (fun H locs h1 h2 h3 => ?_)
    have hW : Wd D A s.heap (hWW cI cJ a o σ (vp_updL f ((0 : Int32)).toNatClampNeg (r).toInt64)) H locs := And.intro h1 (And.intro h2 h3)
    refine lv_goto (tgt := 15) hx hb dL_count_9 (by decide) ?_
    refine lv_iconst (v := 0) hx hb dL_count_15 (by decide) ?_
    exact hret 0 (σ, _) _ _ _ _ _ _ (Nat.le_of_ble_eq_true rfl) (Nat.le_of_ble_eq_true rfl) hw hW dL_count_16
def wp_L_setting (σ : CS) (f : Nat → Int64) (p1 : Int32) (post : Int32 → CS → (Nat → Int64) → Prop) : Prop := wp_X4_setting σ p1 (fun r => post 0 σ (vp_updL f ((0 : Int32)).toNatClampNeg (r).toInt64)) (fun E => (E = "java/lang/IndexOutOfBoundsException" ∧ post 1 σ f))
abbrev rm_L_setting : Room := { frames := 10, cells := 1, slots := 6, locals := 182 }
theorem in_L_setting_X4 : ∀ w ∈ wsX40, w ∈ wsL_setting := fun w h => List.mem_cons_of_mem _ (List.mem_append_left _ (List.mem_append_left _ (List.mem_append_right _ (h))))
set_option maxHeartbeats 4000000 in
set_option maxRecDepth 100000 in
theorem ok_L_setting (l : Launch) (hst : l.stackTraces = false) (D : va_G) (cI cJ : ClassId) (a : Nat → Nat) (o sz : Nat) (σ : CS) (f : Nat → Int64) (p1 : Int32) (post : Int32 → CS → (Nat → Int64) → Prop) (hw : wp_L_setting σ f p1 post) : Hi l yL_setting wsL_setting rm_L_setting [.ref (a 0), .int p1, .ref o] D (tysIJ cI cJ) (hWW cI cJ a o σ f) sz (fun k (u : CS × (Nat → Int64)) => post k u.1 u.2) (fun u => hWW cI cJ a o u.1 u.2) 1 6 := by
  refine s_H (by decide) rfl (Nat.le_of_ble_eq_true rfl) ?_
  intro p e s m args below meth c A Q hx hb hml hts hown htab hK hA hz hs hnc hret H locs ls hW hl
  have hown : s.vm.findClass RL = some m.cls := hown
  have hl : lv_has ls 4 [(0, .ref (a 0)), (1, .int p1), (2, .ref o)] := hl
  refine lv_aload_n hx hb dL_setting_0 rfl (lv_at hl 2 rfl) ?_
  refine lv_iconst (v := 0) hx hb dL_setting_1 (by decide) ?_
  refine lv_aload_n hx hb dL_setting_2 rfl (lv_at hl 0 rfl) ?_
  refine lv_iload_n hx hb dL_setting_3 rfl (lv_at hl 1 rfl) ?_
  refine kVL_Xi (w1 := cW cI cJ a σ) (w2 := [(o, .inl (cJ, 1, .inr (.inl f)))]) (As := [.int p1]) (rest := [.int 0, .ref o]) ⟨hx, hb, hml, hown, hts⟩ (ok_X4_setting l hst D cI cJ a _ _ _ _ _ hw) (cwV 1 hts gL_setting_X4_setting rfl rfl rfl (by decide +kernel) ⟨(Nat.le_of_ble_eq_true rfl), (Nat.le_of_ble_eq_true rfl)⟩) hK hW hA hz hs 0 rfl rfl rfl hl.1 rfl (Nat.le_of_ble_eq_true rfl) dL_setting_4 ⟨(Nat.le_of_ble_eq_true rfl), (Nat.le_of_ble_eq_true rfl)⟩ (fun E ce q H locs hE hW hce hcv hcl => ?_) (fun r _ H locs hw hW => ?_)
  · obtain ⟨⟨s0, h0⟩, ⟨s1, h1⟩, ⟨s2, h2⟩, ⟨s3, h3⟩, ⟨s4, h4⟩, ⟨s5, h5⟩, ⟨s6, h6⟩, n0, n1, n2, n3, n4, n5⟩ := hs
    obtain ⟨rfl, hp⟩ := hE
    refine vx_catch (name := "java/lang/IndexOutOfBoundsException") hown [] ⟨0, 9, 12, 13⟩ [] (htab.trans rfl) (fun z hz => absurd hz List.not_mem_nil) (by decide) (by decide) (hts _ (List.mem_of_getElem? (i := 1) rfl)) (va_Nw.use rfl n0) hce hcv hcl ?_
    refine lv_astore_n (lv' := [(3, .ref q), (0, .ref (a 0)), (1, .int p1), (2, .ref o)]) hx hb dL_setting_12 rfl hl (by decide) rfl (fun ls hl => ?_)
    refine lv_iconst (v := 1) hx hb dL_setting_13 (by decide) ?_
    exact hret 1 (σ, f) _ _ _ _ _ _ (Nat.le_of_ble_eq_true rfl) (Nat.le_of_ble_eq_true rfl) hp hW dL_setting_14
  · refine lv_i2l hx hb dL_setting_7 rfl ?_
    refine va_last hx hb hK hW.1 hW.2.1 hW.2.2 11 1 rfl rfl (by unfold vp_in; decide) dL_setting_8 (fun H locs h1 h2 h3 => ?_)
    have hW : Wd D A s.heap (hWW cI cJ a o σ (vp_updL f ((0 : Int32)).toNatClampNeg (r).toInt64)) H locs := And.intro h1 (And.intro h2 h3)
    refine lv_goto (tgt := 15) hx hb dL_setting_9 (by decide) ?_
    refine lv_iconst (v := 0) hx hb dL_setting_15 (by decide) ?_
    exact hret 0 (σ, _) _ _ _ _ _ _ (Nat.le_of_ble_eq_true rfl) (Nat.le_of_ble_eq_true rfl) hw hW dL_setting_16
def wp_L_why (σ : CS) (f : Nat → Int64) (p1 : Int32) (p2 : Int32) (p3 : Int32) (post : Int32 → CS → (Nat → Int64) → Prop) : Prop := wp_X4_why σ p1 p2 p3 (fun r => post 0 σ (vp_updL f ((0 : Int32)).toNatClampNeg (r).toInt64)) (fun E => (E = "java/lang/IndexOutOfBoundsException" ∧ post 1 σ f) ∨ (E = "java/lang/IllegalArgumentException" ∧ post 2 σ f))
abbrev rm_L_why : Room := { frames := 10, cells := 3, slots := 18, locals := 185 }
theorem in_L_why_X4 : ∀ w ∈ wsX40, w ∈ wsL_why := fun w h => List.mem_cons_of_mem _ (List.mem_append_left _ (List.mem_append_left _ (List.mem_append_left _ (List.mem_append_right _ (h)))))
set_option maxHeartbeats 4000000 in
set_option maxRecDepth 100000 in
theorem ok_L_why (l : Launch) (hst : l.stackTraces = false) (D : va_G) (cI cJ : ClassId) (a : Nat → Nat) (o sz : Nat) (σ : CS) (f : Nat → Int64) (p1 : Int32) (p2 : Int32) (p3 : Int32) (post : Int32 → CS → (Nat → Int64) → Prop) (hw : wp_L_why σ f p1 p2 p3 post) : Hi l yL_why wsL_why rm_L_why [.ref (a 0), .int p1, .int p2, .int p3, .ref o] D (tysIJ cI cJ) (hWW cI cJ a o σ f) sz (fun k (u : CS × (Nat → Int64)) => post k u.1 u.2) (fun u => hWW cI cJ a o u.1 u.2) 3 18 := by
  refine s_H (by decide) rfl (Nat.le_of_ble_eq_true rfl) ?_
  intro p e s m args below meth c A Q hx hb hml hts hown htab hK hA hz hs hnc hret H locs ls hW hl
  have hown : s.vm.findClass RL = some m.cls := hown
  have hl : lv_has ls 6 [(0, .ref (a 0)), (1, .int p1), (2, .int p2), (3, .int p3), (4, .ref o)] := hl
  refine lv_aload hx hb dL_why_0 (lv_at hl 4 rfl) ?_
  refine lv_iconst (v := 0) hx hb dL_why_2 (by decide) ?_
  refine lv_aload_n hx hb dL_why_3 rfl (lv_at hl 0 rfl) ?_
  refine lv_iload_n hx hb dL_why_4 rfl (lv_at hl 1 rfl) ?_
  refine lv_iload_n hx hb dL_why_5 rfl (lv_at hl 2 rfl) ?_
  refine lv_iload_n hx hb dL_why_6 rfl (lv_at hl 3 rfl) ?_
  refine kVL_Xi (w1 := cW cI cJ a σ) (w2 := [(o, .inl (cJ, 1, .inr (.inl f)))]) (As := [.int p1, .int p2, .int p3]) (rest := [.int 0, .ref o]) ⟨hx, hb, hml, hown, hts⟩ (ok_X4_why l hst D cI cJ a _ _ _ _ _ _ _ hw) (cwV 3 hts gL_why_X4_why rfl rfl rfl (by decide +kernel) ⟨(Nat.le_of_ble_eq_true rfl), (Nat.le_of_ble_eq_true rfl)⟩) hK hW hA hz hs 0 rfl rfl rfl hl.1 rfl (Nat.le_of_ble_eq_true rfl) dL_why_7 ⟨(Nat.le_of_ble_eq_true rfl), (Nat.le_of_ble_eq_true rfl)⟩ (fun E ce q H locs hE hW hce hcv hcl => ?_) (fun r _ H locs hw hW => ?_)
  · obtain ⟨⟨s0, h0⟩, ⟨s1, h1⟩, ⟨s2, h2⟩, ⟨s3, h3⟩, ⟨s4, h4⟩, ⟨s5, h5⟩, ⟨s6, h6⟩, n0, n1, n2, n3, n4, n5⟩ := hs
    rcases hE with ⟨rfl, hp⟩ | ⟨rfl, hp⟩
    · refine vx_catch (name := "java/lang/IndexOutOfBoundsException") hown [] ⟨0, 12, 15, 13⟩ [⟨0, 12, 19, 15⟩] (htab.trans rfl) (fun z hz => absurd hz List.not_mem_nil) (by decide) (by decide) (hts _ (List.mem_of_getElem? (i := 1) rfl)) (va_Nw.use rfl n0) hce hcv hcl ?_
      refine lv_astore (lv' := [(5, .ref q), (0, .ref (a 0)), (1, .int p1), (2, .int p2), (3, .int p3), (4, .ref o)]) hx hb dL_why_15 hl (by decide) rfl (fun ls hl => ?_)
      refine lv_iconst (v := 1) hx hb dL_why_17 (by decide) ?_
      exact hret 1 (σ, f) _ _ _ _ _ _ (Nat.le_of_ble_eq_true rfl) (Nat.le_of_ble_eq_true rfl) hp hW dL_why_18
    · refine vx_catch (name := "java/lang/IllegalArgumentException") hown [⟨0, 12, 15, 13⟩] ⟨0, 12, 19, 15⟩ [] (htab.trans rfl) (fun z hz => by obtain rfl := List.mem_singleton.mp hz; exact Or.inr ⟨by decide, "java/lang/IndexOutOfBoundsException", hts _ (List.mem_of_getElem? (i := 1) rfl), hnc.1⟩) (by decide) (by decide) (hts _ (List.mem_of_getElem? (i := 2) rfl)) (va_Nw.use rfl n1) hce hcv hcl ?_
      refine lv_astore (lv' := [(5, .ref q), (0, .ref (a 0)), (1, .int p1), (2, .int p2), (3, .int p3), (4, .ref o)]) hx hb dL_why_19 hl (by decide) rfl (fun ls hl => ?_)
      refine lv_iconst (v := 2) hx hb dL_why_21 (by decide) ?_
      exact hret 2 (σ, f) _ _ _ _ _ _ (Nat.le_of_ble_eq_true rfl) (Nat.le_of_ble_eq_true rfl) hp hW dL_why_22
  · refine lv_i2l hx hb dL_why_10 rfl ?_
    refine va_last hx hb hK hW.1 hW.2.1 hW.2.2 11 1 rfl rfl (by unfold vp_in; decide) dL_why_11 (fun H locs h1 h2 h3 => ?_)
    have hW : Wd D A s.heap (hWW cI cJ a o σ (vp_updL f ((0 : Int32)).toNatClampNeg (r).toInt64)) H locs := And.intro h1 (And.intro h2 h3)
    refine lv_goto (tgt := 23) hx hb dL_why_12 (by decide) ?_
    refine lv_iconst (v := 0) hx hb dL_why_23 (by decide) ?_
    exact hret 0 (σ, _) _ _ _ _ _ _ (Nat.le_of_ble_eq_true rfl) (Nat.le_of_ble_eq_true rfl) hw hW dL_why_24
def wp_L_worth (σ : CS) (f : Nat → Int64) (p1 : Int32) (p2 : Int32) (post : Int32 → CS → (Nat → Int64) → Prop) : Prop := wp_X4_worth σ p1 p2 (fun r σ1 => post 0 σ1 (vp_updL f ((0 : Int32)).toNatClampNeg (r).toInt64)) (fun E => (E = "java/lang/IllegalArgumentException" ∧ post 1 σ f))
abbrev rm_L_worth : Room := { frames := 11, cells := 2, slots := 12, locals := 460 }
theorem in_L_worth_X4 : ∀ w ∈ wsX40, w ∈ wsL_worth := fun w h => List.mem_cons_of_mem _ (List.mem_append_left _ (List.mem_append_left _ (List.mem_append_left _ (List.mem_append_right _ (h)))))
set_option maxHeartbeats 4000000 in
set_option maxRecDepth 100000 in
theorem ok_L_worth (l : Launch) (hst : l.stackTraces = false) (D : va_G) (cI cJ : ClassId) (a : Nat → Nat) (o sz : Nat) (σ : CS) (f : Nat → Int64) (p1 : Int32) (p2 : Int32) (post : Int32 → CS → (Nat → Int64) → Prop) (hw : wp_L_worth σ f p1 p2 post) : Hi l yL_worth wsL_worth rm_L_worth [.ref (a 0), .int p1, .int p2, .ref o] D (tysIJ cI cJ) (hWW cI cJ a o σ f) sz (fun k (u : CS × (Nat → Int64)) => post k u.1 u.2) (fun u => hWW cI cJ a o u.1 u.2) 2 12 := by
  refine s_H (by decide) rfl (Nat.le_of_ble_eq_true rfl) ?_
  intro p e s m args below meth c A Q hx hb hml hts hown htab hK hA hz hs hnc hret H locs ls hW hl
  have hown : s.vm.findClass RL = some m.cls := hown
  have hl : lv_has ls 5 [(0, .ref (a 0)), (1, .int p1), (2, .int p2), (3, .ref o)] := hl
  refine lv_aload_n hx hb dL_worth_0 rfl (lv_at hl 3 rfl) ?_
  refine lv_iconst (v := 0) hx hb dL_worth_1 (by decide) ?_
  refine lv_aload_n hx hb dL_worth_2 rfl (lv_at hl 0 rfl) ?_
  refine lv_iload_n hx hb dL_worth_3 rfl (lv_at hl 1 rfl) ?_
  refine lv_iload_n hx hb dL_worth_4 rfl (lv_at hl 2 rfl) ?_
  refine kVL_Xi (w1 := cW cI cJ a σ) (w2 := [(o, .inl (cJ, 1, .inr (.inl f)))]) (As := [.int p1, .int p2]) (rest := [.int 0, .ref o]) ⟨hx, hb, hml, hown, hts⟩ (ok_X4_worth l hst D cI cJ a _ _ _ _ _ _ hw) (cwV 2 hts gL_worth_X4_worth rfl rfl rfl (by decide +kernel) ⟨(Nat.le_of_ble_eq_true rfl), (Nat.le_of_ble_eq_true rfl)⟩) hK hW hA hz hs 0 rfl rfl rfl hl.1 rfl (Nat.le_of_ble_eq_true rfl) dL_worth_5 ⟨(Nat.le_of_ble_eq_true rfl), (Nat.le_of_ble_eq_true rfl)⟩ (fun E ce q H locs hE hW hce hcv hcl => ?_) (fun r σ1 H locs hw hW => ?_)
  · obtain ⟨⟨s0, h0⟩, ⟨s1, h1⟩, ⟨s2, h2⟩, ⟨s3, h3⟩, ⟨s4, h4⟩, ⟨s5, h5⟩, ⟨s6, h6⟩, n0, n1, n2, n3, n4, n5⟩ := hs
    obtain ⟨rfl, hp⟩ := hE
    refine vx_catch (name := "java/lang/IllegalArgumentException") hown [] ⟨0, 10, 13, 15⟩ [] (htab.trans rfl) (fun z hz => absurd hz List.not_mem_nil) (by decide) (by decide) (hts _ (List.mem_of_getElem? (i := 1) rfl)) (va_Nw.use rfl n1) hce hcv hcl ?_
    refine lv_astore (lv' := [(4, .ref q), (0, .ref (a 0)), (1, .int p1), (2, .int p2), (3, .ref o)]) hx hb dL_worth_13 hl (by decide) rfl (fun ls hl => ?_)
    refine lv_iconst (v := 1) hx hb dL_worth_15 (by decide) ?_
    exact hret 1 (σ, f) _ _ _ _ _ _ (Nat.le_of_ble_eq_true rfl) (Nat.le_of_ble_eq_true rfl) hp hW dL_worth_16
  · refine lv_i2l hx hb dL_worth_8 rfl ?_
    refine va_last hx hb hK hW.1 hW.2.1 hW.2.2 11 1 rfl rfl (by unfold vp_in; decide) dL_worth_9 (fun H locs h1 h2 h3 => ?_)
    have hW : Wd D A s.heap (hWW cI cJ a o σ1 (vp_updL f ((0 : Int32)).toNatClampNeg (r).toInt64)) H locs := And.intro h1 (And.intro h2 h3)
    refine lv_goto (tgt := 17) hx hb dL_worth_10 (by decide) ?_
    refine lv_iconst (v := 0) hx hb dL_worth_17 (by decide) ?_
    exact hret 0 (σ1, _) _ _ _ _ _ _ (Nat.le_of_ble_eq_true rfl) (Nat.le_of_ble_eq_true rfl) hw hW dL_worth_18
def wp_L_ifOpened (σ : CS) (f : Nat → Int64) (p1 : Int32) (p2 : Int32) (post : Int32 → CS → (Nat → Int64) → Prop) : Prop := wp_X4_ifOpened σ p1 p2 (fun r σ1 => post 0 σ1 (vp_updL f ((0 : Int32)).toNatClampNeg (r).toInt64)) (fun E => (E = "java/lang/IndexOutOfBoundsException" ∧ post 1 σ f) ∨ (E = "java/lang/IllegalArgumentException" ∧ post 2 σ f))
abbrev rm_L_ifOpened : Room := { frames := 10, cells := 2, slots := 12, locals := 184 }
theorem in_L_ifOpened_X4 : ∀ w ∈ wsX40, w ∈ wsL_ifOpened := fun w h => List.mem_cons_of_mem _ (List.mem_append_left _ (List.mem_append_left _ (List.mem_append_left _ (List.mem_append_left _ (List.mem_append_right _ (h))))))
set_option maxHeartbeats 4000000 in
set_option maxRecDepth 100000 in
theorem ok_L_ifOpened (l : Launch) (hst : l.stackTraces = false) (D : va_G) (cI cJ : ClassId) (a : Nat → Nat) (o sz : Nat) (σ : CS) (f : Nat → Int64) (p1 : Int32) (p2 : Int32) (post : Int32 → CS → (Nat → Int64) → Prop) (hw : wp_L_ifOpened σ f p1 p2 post) : Hi l yL_ifOpened wsL_ifOpened rm_L_ifOpened [.ref (a 0), .int p1, .int p2, .ref o] D (tysIJ cI cJ) (hWW cI cJ a o σ f) sz (fun k (u : CS × (Nat → Int64)) => post k u.1 u.2) (fun u => hWW cI cJ a o u.1 u.2) 2 12 := by
  refine s_H (by decide) rfl (Nat.le_of_ble_eq_true rfl) ?_
  intro p e s m args below meth c A Q hx hb hml hts hown htab hK hA hz hs hnc hret H locs ls hW hl
  have hown : s.vm.findClass RL = some m.cls := hown
  have hl : lv_has ls 5 [(0, .ref (a 0)), (1, .int p1), (2, .int p2), (3, .ref o)] := hl
  refine lv_aload_n hx hb dL_ifOpened_0 rfl (lv_at hl 3 rfl) ?_
  refine lv_iconst (v := 0) hx hb dL_ifOpened_1 (by decide) ?_
  refine lv_aload_n hx hb dL_ifOpened_2 rfl (lv_at hl 0 rfl) ?_
  refine lv_iload_n hx hb dL_ifOpened_3 rfl (lv_at hl 1 rfl) ?_
  refine lv_iload_n hx hb dL_ifOpened_4 rfl (lv_at hl 2 rfl) ?_
  refine kVL_Xi (w1 := cW cI cJ a σ) (w2 := [(o, .inl (cJ, 1, .inr (.inl f)))]) (As := [.int p1, .int p2]) (rest := [.int 0, .ref o]) ⟨hx, hb, hml, hown, hts⟩ (ok_X4_ifOpened l hst D cI cJ a _ _ _ _ _ _ hw) (cwV 2 hts gL_ifOpened_X4_ifOpened rfl rfl rfl (by decide +kernel) ⟨(Nat.le_of_ble_eq_true rfl), (Nat.le_of_ble_eq_true rfl)⟩) hK hW hA hz hs 0 rfl rfl rfl hl.1 rfl (Nat.le_of_ble_eq_true rfl) dL_ifOpened_5 ⟨(Nat.le_of_ble_eq_true rfl), (Nat.le_of_ble_eq_true rfl)⟩ (fun E ce q H locs hE hW hce hcv hcl => ?_) (fun r σ1 H locs hw hW => ?_)
  · obtain ⟨⟨s0, h0⟩, ⟨s1, h1⟩, ⟨s2, h2⟩, ⟨s3, h3⟩, ⟨s4, h4⟩, ⟨s5, h5⟩, ⟨s6, h6⟩, n0, n1, n2, n3, n4, n5⟩ := hs
    rcases hE with ⟨rfl, hp⟩ | ⟨rfl, hp⟩
    · refine vx_catch (name := "java/lang/IndexOutOfBoundsException") hown [] ⟨0, 10, 13, 13⟩ [⟨0, 10, 17, 15⟩] (htab.trans rfl) (fun z hz => absurd hz List.not_mem_nil) (by decide) (by decide) (hts _ (List.mem_of_getElem? (i := 1) rfl)) (va_Nw.use rfl n0) hce hcv hcl ?_
      refine lv_astore (lv' := [(4, .ref q), (0, .ref (a 0)), (1, .int p1), (2, .int p2), (3, .ref o)]) hx hb dL_ifOpened_13 hl (by decide) rfl (fun ls hl => ?_)
      refine lv_iconst (v := 1) hx hb dL_ifOpened_15 (by decide) ?_
      exact hret 1 (σ, f) _ _ _ _ _ _ (Nat.le_of_ble_eq_true rfl) (Nat.le_of_ble_eq_true rfl) hp hW dL_ifOpened_16
    · refine vx_catch (name := "java/lang/IllegalArgumentException") hown [⟨0, 10, 13, 13⟩] ⟨0, 10, 17, 15⟩ [] (htab.trans rfl) (fun z hz => by obtain rfl := List.mem_singleton.mp hz; exact Or.inr ⟨by decide, "java/lang/IndexOutOfBoundsException", hts _ (List.mem_of_getElem? (i := 1) rfl), hnc.1⟩) (by decide) (by decide) (hts _ (List.mem_of_getElem? (i := 2) rfl)) (va_Nw.use rfl n1) hce hcv hcl ?_
      refine lv_astore (lv' := [(4, .ref q), (0, .ref (a 0)), (1, .int p1), (2, .int p2), (3, .ref o)]) hx hb dL_ifOpened_17 hl (by decide) rfl (fun ls hl => ?_)
      refine lv_iconst (v := 2) hx hb dL_ifOpened_19 (by decide) ?_
      exact hret 2 (σ, f) _ _ _ _ _ _ (Nat.le_of_ble_eq_true rfl) (Nat.le_of_ble_eq_true rfl) hp hW dL_ifOpened_20
  · refine lv_i2l hx hb dL_ifOpened_8 rfl ?_
    refine va_last hx hb hK hW.1 hW.2.1 hW.2.2 11 1 rfl rfl (by unfold vp_in; decide) dL_ifOpened_9 (fun H locs h1 h2 h3 => ?_)
    have hW : Wd D A s.heap (hWW cI cJ a o σ1 (vp_updL f ((0 : Int32)).toNatClampNeg (r).toInt64)) H locs := And.intro h1 (And.intro h2 h3)
    refine lv_goto (tgt := 21) hx hb dL_ifOpened_10 (by decide) ?_
    refine lv_iconst (v := 0) hx hb dL_ifOpened_21 (by decide) ?_
    exact hret 0 (σ1, _) _ _ _ _ _ _ (Nat.le_of_ble_eq_true rfl) (Nat.le_of_ble_eq_true rfl) hw hW dL_ifOpened_22
def wp_L_ifBid (σ : CS) (f : Nat → Int64) (p1 : Int32) (p2 : Int32) (p3 : Int32) (p4 : Int32) (post : Int32 → CS → (Nat → Int64) → Prop) : Prop := wp_X4_ifBid σ p1 p2 p3 p4 (fun r σ1 => post 0 σ1 (vp_updL f ((0 : Int32)).toNatClampNeg (r).toInt64)) (fun E => (E = "java/lang/IndexOutOfBoundsException" ∧ post 1 σ f) ∨ (E = "java/lang/IllegalArgumentException" ∧ post 2 σ f))
abbrev rm_L_ifBid : Room := { frames := 10, cells := 4, slots := 24, locals := 187 }
theorem in_L_ifBid_X4 : ∀ w ∈ wsX40, w ∈ wsL_ifBid := fun w h => List.mem_cons_of_mem _ (List.mem_append_left _ (List.mem_append_left _ (List.mem_append_left _ (List.mem_append_left _ (List.mem_append_right _ (h))))))
set_option maxHeartbeats 4000000 in
set_option maxRecDepth 100000 in
theorem ok_L_ifBid (l : Launch) (hst : l.stackTraces = false) (D : va_G) (cI cJ : ClassId) (a : Nat → Nat) (o sz : Nat) (σ : CS) (f : Nat → Int64) (p1 : Int32) (p2 : Int32) (p3 : Int32) (p4 : Int32) (post : Int32 → CS → (Nat → Int64) → Prop) (hw : wp_L_ifBid σ f p1 p2 p3 p4 post) : Hi l yL_ifBid wsL_ifBid rm_L_ifBid [.ref (a 0), .int p1, .int p2, .int p3, .int p4, .ref o] D (tysIJ cI cJ) (hWW cI cJ a o σ f) sz (fun k (u : CS × (Nat → Int64)) => post k u.1 u.2) (fun u => hWW cI cJ a o u.1 u.2) 4 24 := by
  refine s_H (by decide) rfl (Nat.le_of_ble_eq_true rfl) ?_
  intro p e s m args below meth c A Q hx hb hml hts hown htab hK hA hz hs hnc hret H locs ls hW hl
  have hown : s.vm.findClass RL = some m.cls := hown
  have hl : lv_has ls 7 [(0, .ref (a 0)), (1, .int p1), (2, .int p2), (3, .int p3), (4, .int p4), (5, .ref o)] := hl
  refine lv_aload hx hb dL_ifBid_0 (lv_at hl 5 rfl) ?_
  refine lv_iconst (v := 0) hx hb dL_ifBid_2 (by decide) ?_
  refine lv_aload_n hx hb dL_ifBid_3 rfl (lv_at hl 0 rfl) ?_
  refine lv_iload_n hx hb dL_ifBid_4 rfl (lv_at hl 1 rfl) ?_
  refine lv_iload_n hx hb dL_ifBid_5 rfl (lv_at hl 2 rfl) ?_
  refine lv_iload_n hx hb dL_ifBid_6 rfl (lv_at hl 3 rfl) ?_
  refine lv_iload hx hb dL_ifBid_7 (lv_at hl 4 rfl) ?_
  refine kVL_Xi (w1 := cW cI cJ a σ) (w2 := [(o, .inl (cJ, 1, .inr (.inl f)))]) (As := [.int p1, .int p2, .int p3, .int p4]) (rest := [.int 0, .ref o]) ⟨hx, hb, hml, hown, hts⟩ (ok_X4_ifBid l hst D cI cJ a _ _ _ _ _ _ _ _ hw) (cwV 4 hts gL_ifBid_X4_ifBid rfl rfl rfl (by decide +kernel) ⟨(Nat.le_of_ble_eq_true rfl), (Nat.le_of_ble_eq_true rfl)⟩) hK hW hA hz hs 0 rfl rfl rfl hl.1 rfl (Nat.le_of_ble_eq_true rfl) dL_ifBid_9 ⟨(Nat.le_of_ble_eq_true rfl), (Nat.le_of_ble_eq_true rfl)⟩ (fun E ce q H locs hE hW hce hcv hcl => ?_) (fun r σ1 H locs hw hW => ?_)
  · obtain ⟨⟨s0, h0⟩, ⟨s1, h1⟩, ⟨s2, h2⟩, ⟨s3, h3⟩, ⟨s4, h4⟩, ⟨s5, h5⟩, ⟨s6, h6⟩, n0, n1, n2, n3, n4, n5⟩ := hs
    rcases hE with ⟨rfl, hp⟩ | ⟨rfl, hp⟩
    · refine vx_catch (name := "java/lang/IndexOutOfBoundsException") hown [] ⟨0, 14, 17, 13⟩ [⟨0, 14, 21, 15⟩] (htab.trans rfl) (fun z hz => absurd hz List.not_mem_nil) (by decide) (by decide) (hts _ (List.mem_of_getElem? (i := 1) rfl)) (va_Nw.use rfl n0) hce hcv hcl ?_
      refine lv_astore (lv' := [(6, .ref q), (0, .ref (a 0)), (1, .int p1), (2, .int p2), (3, .int p3), (4, .int p4), (5, .ref o)]) hx hb dL_ifBid_17 hl (by decide) rfl (fun ls hl => ?_)
      refine lv_iconst (v := 1) hx hb dL_ifBid_19 (by decide) ?_
      exact hret 1 (σ, f) _ _ _ _ _ _ (Nat.le_of_ble_eq_true rfl) (Nat.le_of_ble_eq_true rfl) hp hW dL_ifBid_20
    · refine vx_catch (name := "java/lang/IllegalArgumentException") hown [⟨0, 14, 17, 13⟩] ⟨0, 14, 21, 15⟩ [] (htab.trans rfl) (fun z hz => by obtain rfl := List.mem_singleton.mp hz; exact Or.inr ⟨by decide, "java/lang/IndexOutOfBoundsException", hts _ (List.mem_of_getElem? (i := 1) rfl), hnc.1⟩) (by decide) (by decide) (hts _ (List.mem_of_getElem? (i := 2) rfl)) (va_Nw.use rfl n1) hce hcv hcl ?_
      refine lv_astore (lv' := [(6, .ref q), (0, .ref (a 0)), (1, .int p1), (2, .int p2), (3, .int p3), (4, .int p4), (5, .ref o)]) hx hb dL_ifBid_21 hl (by decide) rfl (fun ls hl => ?_)
      refine lv_iconst (v := 2) hx hb dL_ifBid_23 (by decide) ?_
      exact hret 2 (σ, f) _ _ _ _ _ _ (Nat.le_of_ble_eq_true rfl) (Nat.le_of_ble_eq_true rfl) hp hW dL_ifBid_24
  · refine lv_i2l hx hb dL_ifBid_12 rfl ?_
    refine va_last hx hb hK hW.1 hW.2.1 hW.2.2 11 1 rfl rfl (by unfold vp_in; decide) dL_ifBid_13 (fun H locs h1 h2 h3 => ?_)
    have hW : Wd D A s.heap (hWW cI cJ a o σ1 (vp_updL f ((0 : Int32)).toNatClampNeg (r).toInt64)) H locs := And.intro h1 (And.intro h2 h3)
    refine lv_goto (tgt := 25) hx hb dL_ifBid_14 (by decide) ?_
    refine lv_iconst (v := 0) hx hb dL_ifBid_25 (by decide) ?_
    exact hret 0 (σ1, _) _ _ _ _ _ _ (Nat.le_of_ble_eq_true rfl) (Nat.le_of_ble_eq_true rfl) hw hW dL_ifBid_26
def wp_L_least (σ : CS) (f : Nat → Int64) (p1 : Int32) (p2 : Int32) (post : Int32 → CS → (Nat → Int64) → Prop) : Prop := wp_X4_least σ p1 p2 (fun r σ1 => post 0 σ1 (vp_updL f ((0 : Int32)).toNatClampNeg (r).toInt64)) (fun E => (E = "java/lang/IndexOutOfBoundsException" ∧ post 1 σ f))
abbrev rm_L_least : Room := { frames := 10, cells := 2, slots := 12, locals := 183 }
theorem in_L_least_X4 : ∀ w ∈ wsX40, w ∈ wsL_least := fun w h => List.mem_cons_of_mem _ (List.mem_append_left _ (List.mem_append_left _ (List.mem_append_left _ (List.mem_append_right _ (h)))))
set_option maxHeartbeats 4000000 in
set_option maxRecDepth 100000 in
theorem ok_L_least (l : Launch) (hst : l.stackTraces = false) (D : va_G) (cI cJ : ClassId) (a : Nat → Nat) (o sz : Nat) (σ : CS) (f : Nat → Int64) (p1 : Int32) (p2 : Int32) (post : Int32 → CS → (Nat → Int64) → Prop) (hw : wp_L_least σ f p1 p2 post) : Hi l yL_least wsL_least rm_L_least [.ref (a 0), .int p1, .int p2, .ref o] D (tysIJ cI cJ) (hWW cI cJ a o σ f) sz (fun k (u : CS × (Nat → Int64)) => post k u.1 u.2) (fun u => hWW cI cJ a o u.1 u.2) 2 12 := by
  refine s_H (by decide) rfl (Nat.le_of_ble_eq_true rfl) ?_
  intro p e s m args below meth c A Q hx hb hml hts hown htab hK hA hz hs hnc hret H locs ls hW hl
  have hown : s.vm.findClass RL = some m.cls := hown
  have hl : lv_has ls 5 [(0, .ref (a 0)), (1, .int p1), (2, .int p2), (3, .ref o)] := hl
  refine lv_aload_n hx hb dL_least_0 rfl (lv_at hl 3 rfl) ?_
  refine lv_iconst (v := 0) hx hb dL_least_1 (by decide) ?_
  refine lv_aload_n hx hb dL_least_2 rfl (lv_at hl 0 rfl) ?_
  refine lv_iload_n hx hb dL_least_3 rfl (lv_at hl 1 rfl) ?_
  refine lv_iload_n hx hb dL_least_4 rfl (lv_at hl 2 rfl) ?_
  refine kVL_Xi (w1 := cW cI cJ a σ) (w2 := [(o, .inl (cJ, 1, .inr (.inl f)))]) (As := [.int p1, .int p2]) (rest := [.int 0, .ref o]) ⟨hx, hb, hml, hown, hts⟩ (ok_X4_least l hst D cI cJ a _ _ _ _ _ _ hw) (cwV 2 hts gL_least_X4_least rfl rfl rfl (by decide +kernel) ⟨(Nat.le_of_ble_eq_true rfl), (Nat.le_of_ble_eq_true rfl)⟩) hK hW hA hz hs 0 rfl rfl rfl hl.1 rfl (Nat.le_of_ble_eq_true rfl) dL_least_5 ⟨(Nat.le_of_ble_eq_true rfl), (Nat.le_of_ble_eq_true rfl)⟩ (fun E ce q H locs hE hW hce hcv hcl => ?_) (fun r σ1 H locs hw hW => ?_)
  · obtain ⟨⟨s0, h0⟩, ⟨s1, h1⟩, ⟨s2, h2⟩, ⟨s3, h3⟩, ⟨s4, h4⟩, ⟨s5, h5⟩, ⟨s6, h6⟩, n0, n1, n2, n3, n4, n5⟩ := hs
    obtain ⟨rfl, hp⟩ := hE
    refine vx_catch (name := "java/lang/IndexOutOfBoundsException") hown [] ⟨0, 10, 13, 13⟩ [] (htab.trans rfl) (fun z hz => absurd hz List.not_mem_nil) (by decide) (by decide) (hts _ (List.mem_of_getElem? (i := 1) rfl)) (va_Nw.use rfl n0) hce hcv hcl ?_
    refine lv_astore (lv' := [(4, .ref q), (0, .ref (a 0)), (1, .int p1), (2, .int p2), (3, .ref o)]) hx hb dL_least_13 hl (by decide) rfl (fun ls hl => ?_)
    refine lv_iconst (v := 1) hx hb dL_least_15 (by decide) ?_
    exact hret 1 (σ, f) _ _ _ _ _ _ (Nat.le_of_ble_eq_true rfl) (Nat.le_of_ble_eq_true rfl) hp hW dL_least_16
  · refine lv_i2l hx hb dL_least_8 rfl ?_
    refine va_last hx hb hK hW.1 hW.2.1 hW.2.2 11 1 rfl rfl (by unfold vp_in; decide) dL_least_9 (fun H locs h1 h2 h3 => ?_)
    have hW : Wd D A s.heap (hWW cI cJ a o σ1 (vp_updL f ((0 : Int32)).toNatClampNeg (r).toInt64)) H locs := And.intro h1 (And.intro h2 h3)
    refine lv_goto (tgt := 17) hx hb dL_least_10 (by decide) ?_
    refine lv_iconst (v := 0) hx hb dL_least_17 (by decide) ?_
    exact hret 0 (σ1, _) _ _ _ _ _ _ (Nat.le_of_ble_eq_true rfl) (Nat.le_of_ble_eq_true rfl) hw hW dL_least_18
