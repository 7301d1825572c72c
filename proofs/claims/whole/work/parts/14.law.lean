section OwnHelpCall
variable {p : Program} {l : Launch} {e : Env} {R : Room} {s : State} {m : MethodId} {args : Array Value} {below : List Frame} {meth : Method} {c : Code} {H : Heap} {locs : List Loc} {cells slots : Nat} {Q : State → Prop} {pc : Nat} {ls : Array Slot}
variable {y : MethodName} {bytes cc : ByteArray} {maxL nL n index mc ms : Nat} {ret : Option FieldType} {wsy Ts : List Cond} {rm : Room} {own : String} {As rest st0 : List Value} {D : va_G} {tys : List (ClassId × FieldType)} {A : Nat → Prop} {w1 w2 : va_W} {hh : List (Nat × Nat × Nat × Nat)}
theorem kSL_H {S : Type} {post : Int32 → S → Prop} {wf : S → va_W} (X : CallFix p m c cc nL s args Ts own) (hM : Hi l y wsy rm As D tys w1 H.size post wf mc ms) (cw : vx_CSW R s args own index y bytes maxL ret hh wsy rm mc ms n) (hK : va_K D vwCl tys s) (hW : Wd D A s.heap (w1 ++ w2) H locs) (hA : ∀ q : Nat, s.heap.size ≤ q → A q) (hz : ZX A s s.heap) (hs : SX s) (hnc : NCX s) (hn : As.length = n) (hsz : ls.size = nL) (hst : st0 = As.reverse ++ rest) (hrm : (rest.map fun v => v.category).sum ≤ 8) (hdg : decode cc pc = .ok (.invokestatic index, 3)) (hf : cells + mc ≤ R.cells ∧ slots + ms ≤ R.slots)
    (kk : ∀ (r : Int32) (u : S) (H1 : Heap) (locs1 : List Loc), post r u → Wd D A s.heap (wf u ++ w2) H1 locs1 → W p l e R s m args below meth c H1 locs1 (cells + mc) (slots + ms) Q (F0 m (pc + 3) ls (.int r :: rest))) : W p l e R s m args below meth c H locs cells slots Q (F0 m pc ls st0) := by
  have hW1 := hW.left
  have hF := hW1.free hA
  refine va_calli (vx_runSW (As := As) (rest := rest) X hM cw ⟨preL_blind, fun U hU hWm => ⟨rfl, ⟨⟨by rw [hU], by rw [hU]; exact hW1.1, va_K.moved hWm.alike hK, hW1.2.1.weaken (fun _ _ _ _ => trivial)⟩, by rw [hU]; exact ((hz.kept hW.2.2.2.1).moved hWm.alike).narrow hF, hs.warm hWm⟩, hnc.moved hWm.alike⟩⟩ rfl hn hsz hst (lv_room hrm) hdg hf) hW.2.2 (fun q _ h => hF q h) hF (fun r u t H1 locs1 ht hvm hp hB hz1 hk1 hS1 => ?_)
  obtain ⟨hP1, hK1, hD1⟩ := hB
  exact kk r u H1 locs1 hp (hW.rejoinL hA hk1 (by rw [← ht]; exact hP1) hD1 hS1)
end OwnHelpCall
theorem hWW_assoc (cI cJ : ClassId) (a : Nat → Nat) (o : Nat) (σ : CS) (f : Nat → Int64) (w : va_W) : hWW cI cJ a o σ f ++ w = cW cI cJ a σ ++ ([(o, .inl (cJ, 1, .inr (.inl f)))] ++ w) := List.append_assoc _ _ _
def wpl_0 (L : Nat) (xs : Nat → Int32) (σ : CS) (f : Nat → Int64) (μ : MS) (v4 : Int32) (K : CS → (Nat → Int64) → MS → Prop) : Prop := vp_in (v4 + 1) L ∧ vp_in (v4 + 2) L ∧ wp_L_price σ f (xs ((v4 + 1)).toNatClampNeg) (xs ((v4 + 2)).toNatClampNeg) (fun r_1 σ_2 f_3 => vp_in (v4 + 1) L ∧ vp_in (v4 + 2) L ∧ wp_X5_price μ (xs ((v4 + 1)).toNatClampNeg) (xs ((v4 + 2)).toNatClampNeg) (fun r_4 μ_5 => wp_X5_thrown μ_5 (fun r_6 => ((r_6 = r_1 → ((¬ r_1 = 0 → K σ_2 f_3 μ_5) ∧ (r_1 = 0 → (((lg_cmp (f_3 ((0 : Int32)).toNatClampNeg) (r_4).toInt64) = 0 → K σ_2 f_3 μ_5) ∧ (¬ (lg_cmp (f_3 ((0 : Int32)).toNatClampNeg) (r_4).toInt64) = 0 → False))))) ∧ (¬ r_6 = r_1 → False)))))
set_option maxHeartbeats 4000000 in
set_option maxRecDepth 100000 in
theorem law_c0 {p : Program} {l : Launch} {e : Env} {s : State} {m : MethodId} {below : List Frame} {meth : Method} {c : Code} {b L : Nat} {xs : Nat → Int32} (hst : l.stackTraces = false) (C0 : lw_At p s m meth c b L xs) {D : va_G} {cI cJ : ClassId} (hK : va_K D vwCl (tysIJ cI cJ) s) (hz : ZX (fun q : Nat => s.heap.size ≤ q) s s.heap) (hs : SX s) (hnc : NCX s) {a bb : Nat → Nat} {o : Nat} {Q : State → Prop} {cells slots : Nat} (hc1 : cells + 4 ≤ 601024) (hc2 : slots + 24 ≤ 7293034) {σ : CS} {f : Nat → Int64} {μ : MS} {v4 : Int32} {K : CS → (Nat → Int64) → MS → Prop} (hw : wpl_0 L xs σ f μ v4 K) {H : Heap} {locs : List Loc} {ls : Array Slot} (hW : Wd D (fun q : Nat => s.heap.size ≤ q) s.heap (hWW cI cJ a o σ f ++ mW cI cJ bb μ) H locs) (hl : lv_has ls 9 [(0, .ref b), (1, .ref (a 0)), (2, .ref (bb 0)), (3, .ref o), (4, .int v4)])
    (kk : ∀ (σ : CS) (f : Nat → Int64) (μ : MS) (H : Heap) (locs : List Loc) (ls : Array Slot), K σ f μ → Wd D (fun q : Nat => s.heap.size ≤ q) s.heap (hWW cI cJ a o σ f ++ mW cI cJ bb μ) H locs → lv_has ls 9 [(0, .ref b), (1, .ref (a 0)), (2, .ref (bb 0)), (3, .ref o), (4, .int v4)] → W p l e room_1 s m #[Value.ref b] below meth c H locs (cells + 4) (slots + 24) Q (F0 m 1735 ls [])) : W p l e room_1 s m #[Value.ref b] below meth c H locs cells slots Q (F0 m 172 ls []) := by
  obtain ⟨hx, hb, hr, hml, hown, hts0, hX, hbl, hlocks, hgv⟩ := C0
  have hts : ∀ w ∈ wsL_law, w.before #[Value.ref b] s = true := fun w h => hts0 w (wsL_law_in w h)
  have hA : ∀ q : Nat, s.heap.size ≤ q → (fun q : Nat => s.heap.size ≤ q) q := fun _ h => h
  have hbA : ¬ (fun q : Nat => s.heap.size ≤ q) b := Nat.not_le.mpr hbl
  refine lv_aload_n hx hb dL_law_172 rfl (lv_at hl 1 rfl) ?_
  refine lv_aload_n hx hb dL_law_173 rfl (lv_at hl 0 rfl) ?_
  refine lv_iload hx hb dL_law_174 (lv_at hl 4 rfl) ?_
  refine lv_iconst (v := 1) hx hb dL_law_176 (by decide) ?_
  refine lv_iadd hx hb dL_law_177 ?_
  refine va_sld hx hb hX hbl hbA hW.2.2 hw.1 dL_law_178 ?_
  have hw := hw.2
  refine lv_aload_n hx hb dL_law_179 rfl (lv_at hl 0 rfl) ?_
  refine lv_iload hx hb dL_law_180 (lv_at hl 4 rfl) ?_
  refine lv_iconst (v := 2) hx hb dL_law_182 (by decide) ?_
  refine lv_iadd hx hb dL_law_183 ?_
  refine va_sld hx hb hX hbl hbA hW.2.2 hw.1 dL_law_184 ?_
  have hw := hw.2
  refine lv_aload_n hx hb dL_law_185 rfl (lv_at hl 3 rfl) ?_
  refine kSL_H (w1 := hWW cI cJ a o σ f) (w2 := mW cI cJ bb μ) (As := [.ref (a 0), .int (xs ((v4 + 1)).toNatClampNeg), .int (xs ((v4 + 2)).toNatClampNeg), .ref o]) (rest := []) ⟨hx, hb, hml, hown, hts⟩ (ok_L_price l hst D cI cJ a o _ _ _ _ _ _ hw) (vx_cwSW 4 hts gL_law_L_price rfl rfl rfl (by decide +kernel) ⟨(Nat.le_of_ble_eq_true rfl), (Nat.le_of_ble_eq_true rfl)⟩) hK hW hA hz hs hnc rfl hl.1 rfl (Nat.le_of_ble_eq_true rfl) dL_law_186 ⟨by show cells + 2 ≤ 601024; omega, by show slots + 12 ≤ 7293034; omega⟩ (fun r_1 u H locs hw hW => ?_)
  obtain ⟨σ_2, f_3⟩ := u
  refine lv_istore (lv' := [(5, .int r_1), (0, .ref b), (1, .ref (a 0)), (2, .ref (bb 0)), (3, .ref o), (4, .int v4)]) hx hb dL_law_189 hl (by decide) rfl (fun ls hl => ?_)
  refine lv_aload_n hx hb dL_law_191 rfl (lv_at hl 3 rfl) ?_
  refine lv_aload_n hx hb dL_law_192 rfl (lv_at hl 1 rfl) ?_
  refine lv_iload hx hb dL_law_193 (lv_at hl 5 rfl) ?_
  refine lv_iconst (v := 1) hx hb dL_law_195 (by decide) ?_
  refine lv_iadd hx hb dL_law_196 ?_
  refine va_sld hx hb hX hbl hbA hW.2.2 hw.1 dL_law_197 ?_
  have hw := hw.2
  refine lv_aload_n hx hb dL_law_198 rfl (lv_at hl 1 rfl) ?_
  refine lv_iload hx hb dL_law_199 (lv_at hl 5 rfl) ?_
  refine lv_iconst (v := 2) hx hb dL_law_201 (by decide) ?_
  refine lv_iadd hx hb dL_law_202 ?_
  refine va_sld hx hb hX hbl hbA hW.2.2 hw.1 dL_law_203 ?_
  have hw := hw.2
  refine kVR_Mi (w1 := hWW cI cJ a o σ_2 f_3) (w2 := mW cI cJ bb μ) (As := [.int (xs ((v4 + 1)).toNatClampNeg), .int (xs ((v4 + 2)).toNatClampNeg)]) (rest := []) ⟨hx, hb, hml, hown, hts⟩ (ok_X5_price l D cI cJ bb _ _ _ _ _ hw) (cwV 2 hts gL_law_X5_price rfl rfl rfl (by decide +kernel) ⟨(Nat.le_of_ble_eq_true rfl), (Nat.le_of_ble_eq_true rfl)⟩) hK hW hA 0 rfl rfl rfl hl.1 rfl (Nat.le_of_ble_eq_true rfl) dL_law_204 ⟨by show cells + 2 + 0 ≤ 601024; omega, by show slots + 12 + 0 ≤ 7293034; omega⟩ (fun r_4 μ_5 H locs hw hW => ?_)
  refine lv_istore (lv' := [(6, .int r_4), (5, .int r_1), (0, .ref b), (1, .ref (a 0)), (2, .ref (bb 0)), (3, .ref o), (4, .int v4)]) hx hb dL_law_207 hl (by decide) rfl (fun ls hl => ?_)
  refine lv_aload_n hx hb dL_law_209 rfl (lv_at hl 4 rfl) ?_
  refine kVR_Mi (w1 := hWW cI cJ a o σ_2 f_3) (w2 := mW cI cJ bb μ_5) (As := []) (rest := []) ⟨hx, hb, hml, hown, hts⟩ (ok_X5_thrown l D cI cJ bb _ _ _ hw) (cwV 0 hts gL_law_X5_thrown rfl rfl rfl (by decide +kernel) ⟨(Nat.le_of_ble_eq_true rfl), (Nat.le_of_ble_eq_true rfl)⟩) hK hW hA 0 rfl rfl rfl hl.1 rfl (Nat.le_of_ble_eq_true rfl) dL_law_210 ⟨by show cells + 2 + 0 ≤ 601024; omega, by show slots + 12 + 0 ≤ 7293034; omega⟩ (fun r_6 _ H locs hw hW => ?_)
  refine lv_iload hx hb dL_law_213 (lv_at hl 1 rfl) ?_
  refine lv_icmp_eq (tgt := 220) hx hb dL_law_215 (by decide) (fun hc => ?_) (fun hc => ?_)
  · have hw := hw.1 hc
    refine lv_iload hx hb dL_law_220 (lv_at hl 1 rfl) ?_
    refine lv_if_ne (tgt := 237) hx hb dL_law_222 (by decide) (fun hc => ?_) (fun hc => ?_)
    · have hw := hw.1 hc
      refine lv_goto (tgt := 1735) hx hb dL_law_237 (by decide) ?_
      refine W.widen (k := cells + 4) (n := slots + 24) (by omega) (by omega) ?_
      exact kk _ _ _ _ _ _ hw hW (lv_sub hl [2, 3, 4, 5, 6] rfl)
    · have hw := hw.2 hc
      refine lv_aload_n hx hb dL_law_225 rfl (lv_at hl 5 rfl) ?_
      refine lv_iconst (v := 0) hx hb dL_law_226 (by decide) ?_
      refine va_lald hx hb hK hW.1 11 1 rfl rfl (by unfold vp_in; decide) dL_law_227 ?_
      refine lv_iload hx hb dL_law_228 (lv_at hl 0 rfl) ?_
      refine lv_i2l hx hb dL_law_230 rfl ?_
      refine W.lcmp hx hb dL_law_231 ?_
      refine lv_if_eq (tgt := 237) hx hb dL_law_232 (by decide) (fun hc => ?_) (fun hc => ?_)
      · have hw := hw.1 hc
        refine lv_goto (tgt := 1735) hx hb dL_law_237 (by decide) ?_
        refine W.widen (k := cells + 4) (n := slots + 24) (by omega) (by omega) ?_
        exact kk _ _ _ _ _ _ hw hW (lv_sub hl [2, 3, 4, 5, 6] rfl)
      · have hw := hw.2 hc
        refine lv_iconst (v := 0) hx hb dL_law_235 (by decide) ?_
        exact hw.elim
  · have hw := hw.2 hc
    refine lv_iconst (v := 0) hx hb dL_law_218 (by decide) ?_
    exact hw.elim
def wpl_1 (L : Nat) (xs : Nat → Int32) (σ : CS) (f : Nat → Int64) (μ : MS) (v4 : Int32) (K : CS → (Nat → Int64) → MS → Prop) : Prop := vp_in (v4 + 1) L ∧ vp_in (v4 + 2) L ∧ wp_L_pay σ f (xs ((v4 + 1)).toNatClampNeg) (xs ((v4 + 2)).toNatClampNeg) (fun r_1 σ_2 f_3 => vp_in (v4 + 1) L ∧ vp_in (v4 + 2) L ∧ wp_X5_pay μ (xs ((v4 + 1)).toNatClampNeg) (xs ((v4 + 2)).toNatClampNeg) (fun r_4 μ_5 => wp_X5_thrown μ_5 (fun r_6 => ((r_6 = r_1 → ((¬ r_1 = 0 → K σ_2 f_3 μ_5) ∧ (r_1 = 0 → (((lg_cmp (f_3 ((0 : Int32)).toNatClampNeg) (r_4).toInt64) = 0 → K σ_2 f_3 μ_5) ∧ (¬ (lg_cmp (f_3 ((0 : Int32)).toNatClampNeg) (r_4).toInt64) = 0 → False))))) ∧ (¬ r_6 = r_1 → False)))))
set_option maxHeartbeats 4000000 in
set_option maxRecDepth 100000 in
theorem law_c1 {p : Program} {l : Launch} {e : Env} {s : State} {m : MethodId} {below : List Frame} {meth : Method} {c : Code} {b L : Nat} {xs : Nat → Int32} (hst : l.stackTraces = false) (C0 : lw_At p s m meth c b L xs) {D : va_G} {cI cJ : ClassId} (hK : va_K D vwCl (tysIJ cI cJ) s) (hz : ZX (fun q : Nat => s.heap.size ≤ q) s s.heap) (hs : SX s) (hnc : NCX s) {a bb : Nat → Nat} {o : Nat} {Q : State → Prop} {cells slots : Nat} (hc1 : cells + 4 ≤ 601024) (hc2 : slots + 24 ≤ 7293034) {σ : CS} {f : Nat → Int64} {μ : MS} {v4 : Int32} {K : CS → (Nat → Int64) → MS → Prop} (hw : wpl_1 L xs σ f μ v4 K) {H : Heap} {locs : List Loc} {ls : Array Slot} (hW : Wd D (fun q : Nat => s.heap.size ≤ q) s.heap (hWW cI cJ a o σ f ++ mW cI cJ bb μ) H locs) (hl : lv_has ls 9 [(0, .ref b), (1, .ref (a 0)), (2, .ref (bb 0)), (3, .ref o), (4, .int v4)])
    (kk : ∀ (σ : CS) (f : Nat → Int64) (μ : MS) (H : Heap) (locs : List Loc) (ls : Array Slot), K σ f μ → Wd D (fun q : Nat => s.heap.size ≤ q) s.heap (hWW cI cJ a o σ f ++ mW cI cJ bb μ) H locs → lv_has ls 9 [(0, .ref b), (1, .ref (a 0)), (2, .ref (bb 0)), (3, .ref o), (4, .int v4)] → W p l e room_1 s m #[Value.ref b] below meth c H locs (cells + 4) (slots + 24) Q (F0 m 1735 ls [])) : W p l e room_1 s m #[Value.ref b] below meth c H locs cells slots Q (F0 m 240 ls []) := by
  obtain ⟨hx, hb, hr, hml, hown, hts0, hX, hbl, hlocks, hgv⟩ := C0
  have hts : ∀ w ∈ wsL_law, w.before #[Value.ref b] s = true := fun w h => hts0 w (wsL_law_in w h)
  have hA : ∀ q : Nat, s.heap.size ≤ q → (fun q : Nat => s.heap.size ≤ q) q := fun _ h => h
  have hbA : ¬ (fun q : Nat => s.heap.size ≤ q) b := Nat.not_le.mpr hbl
  refine lv_aload_n hx hb dL_law_240 rfl (lv_at hl 1 rfl) ?_
  refine lv_aload_n hx hb dL_law_241 rfl (lv_at hl 0 rfl) ?_
  refine lv_iload hx hb dL_law_242 (lv_at hl 4 rfl) ?_
  refine lv_iconst (v := 1) hx hb dL_law_244 (by decide) ?_
  refine lv_iadd hx hb dL_law_245 ?_
  refine va_sld hx hb hX hbl hbA hW.2.2 hw.1 dL_law_246 ?_
  have hw := hw.2
  refine lv_aload_n hx hb dL_law_247 rfl (lv_at hl 0 rfl) ?_
  refine lv_iload hx hb dL_law_248 (lv_at hl 4 rfl) ?_
  refine lv_iconst (v := 2) hx hb dL_law_250 (by decide) ?_
  refine lv_iadd hx hb dL_law_251 ?_
  refine va_sld hx hb hX hbl hbA hW.2.2 hw.1 dL_law_252 ?_
  have hw := hw.2
  refine lv_aload_n hx hb dL_law_253 rfl (lv_at hl 3 rfl) ?_
  refine kSL_H (w1 := hWW cI cJ a o σ f) (w2 := mW cI cJ bb μ) (As := [.ref (a 0), .int (xs ((v4 + 1)).toNatClampNeg), .int (xs ((v4 + 2)).toNatClampNeg), .ref o]) (rest := []) ⟨hx, hb, hml, hown, hts⟩ (ok_L_pay l hst D cI cJ a o _ _ _ _ _ _ hw) (vx_cwSW 4 hts gL_law_L_pay rfl rfl rfl (by decide +kernel) ⟨(Nat.le_of_ble_eq_true rfl), (Nat.le_of_ble_eq_true rfl)⟩) hK hW hA hz hs hnc rfl hl.1 rfl (Nat.le_of_ble_eq_true rfl) dL_law_254 ⟨by show cells + 3 ≤ 601024; omega, by show slots + 18 ≤ 7293034; omega⟩ (fun r_1 u H locs hw hW => ?_)
  obtain ⟨σ_2, f_3⟩ := u
  refine lv_istore (lv' := [(5, .int r_1), (0, .ref b), (1, .ref (a 0)), (2, .ref (bb 0)), (3, .ref o), (4, .int v4)]) hx hb dL_law_257 hl (by decide) rfl (fun ls hl => ?_)
  refine lv_aload_n hx hb dL_law_259 rfl (lv_at hl 3 rfl) ?_
  refine lv_aload_n hx hb dL_law_260 rfl (lv_at hl 1 rfl) ?_
  refine lv_iload hx hb dL_law_261 (lv_at hl 5 rfl) ?_
  refine lv_iconst (v := 1) hx hb dL_law_263 (by decide) ?_
  refine lv_iadd hx hb dL_law_264 ?_
  refine va_sld hx hb hX hbl hbA hW.2.2 hw.1 dL_law_265 ?_
  have hw := hw.2
  refine lv_aload_n hx hb dL_law_266 rfl (lv_at hl 1 rfl) ?_
  refine lv_iload hx hb dL_law_267 (lv_at hl 5 rfl) ?_
  refine lv_iconst (v := 2) hx hb dL_law_269 (by decide) ?_
  refine lv_iadd hx hb dL_law_270 ?_
  refine va_sld hx hb hX hbl hbA hW.2.2 hw.1 dL_law_271 ?_
  have hw := hw.2
  refine kVR_Mi (w1 := hWW cI cJ a o σ_2 f_3) (w2 := mW cI cJ bb μ) (As := [.int (xs ((v4 + 1)).toNatClampNeg), .int (xs ((v4 + 2)).toNatClampNeg)]) (rest := []) ⟨hx, hb, hml, hown, hts⟩ (ok_X5_pay l D cI cJ bb _ _ _ _ _ hw) (cwV 2 hts gL_law_X5_pay rfl rfl rfl (by decide +kernel) ⟨(Nat.le_of_ble_eq_true rfl), (Nat.le_of_ble_eq_true rfl)⟩) hK hW hA 0 rfl rfl rfl hl.1 rfl (Nat.le_of_ble_eq_true rfl) dL_law_272 ⟨by show cells + 3 + 0 ≤ 601024; omega, by show slots + 18 + 0 ≤ 7293034; omega⟩ (fun r_4 μ_5 H locs hw hW => ?_)
  refine lv_istore (lv' := [(6, .int r_4), (5, .int r_1), (0, .ref b), (1, .ref (a 0)), (2, .ref (bb 0)), (3, .ref o), (4, .int v4)]) hx hb dL_law_275 hl (by decide) rfl (fun ls hl => ?_)
  refine lv_aload_n hx hb dL_law_277 rfl (lv_at hl 4 rfl) ?_
  refine kVR_Mi (w1 := hWW cI cJ a o σ_2 f_3) (w2 := mW cI cJ bb μ_5) (As := []) (rest := []) ⟨hx, hb, hml, hown, hts⟩ (ok_X5_thrown l D cI cJ bb _ _ _ hw) (cwV 0 hts gL_law_X5_thrown rfl rfl rfl (by decide +kernel) ⟨(Nat.le_of_ble_eq_true rfl), (Nat.le_of_ble_eq_true rfl)⟩) hK hW hA 0 rfl rfl rfl hl.1 rfl (Nat.le_of_ble_eq_true rfl) dL_law_278 ⟨by show cells + 3 + 0 ≤ 601024; omega, by show slots + 18 + 0 ≤ 7293034; omega⟩ (fun r_6 _ H locs hw hW => ?_)
  refine lv_iload hx hb dL_law_281 (lv_at hl 1 rfl) ?_
  refine lv_icmp_eq (tgt := 288) hx hb dL_law_283 (by decide) (fun hc => ?_) (fun hc => ?_)
  · have hw := hw.1 hc
    refine lv_iload hx hb dL_law_288 (lv_at hl 1 rfl) ?_
    refine lv_if_ne (tgt := 305) hx hb dL_law_290 (by decide) (fun hc => ?_) (fun hc => ?_)
    · have hw := hw.1 hc
      refine lv_goto (tgt := 1735) hx hb dL_law_305 (by decide) ?_
      refine W.widen (k := cells + 4) (n := slots + 24) (by omega) (by omega) ?_
      exact kk _ _ _ _ _ _ hw hW (lv_sub hl [2, 3, 4, 5, 6] rfl)
    · have hw := hw.2 hc
      refine lv_aload_n hx hb dL_law_293 rfl (lv_at hl 5 rfl) ?_
      refine lv_iconst (v := 0) hx hb dL_law_294 (by decide) ?_
      refine va_lald hx hb hK hW.1 11 1 rfl rfl (by unfold vp_in; decide) dL_law_295 ?_
      refine lv_iload hx hb dL_law_296 (lv_at hl 0 rfl) ?_
      refine lv_i2l hx hb dL_law_298 rfl ?_
      refine W.lcmp hx hb dL_law_299 ?_
      refine lv_if_eq (tgt := 305) hx hb dL_law_300 (by decide) (fun hc => ?_) (fun hc => ?_)
      · have hw := hw.1 hc
        refine lv_goto (tgt := 1735) hx hb dL_law_305 (by decide) ?_
        refine W.widen (k := cells + 4) (n := slots + 24) (by omega) (by omega) ?_
        exact kk _ _ _ _ _ _ hw hW (lv_sub hl [2, 3, 4, 5, 6] rfl)
      · have hw := hw.2 hc
        refine lv_iconst (v := 0) hx hb dL_law_303 (by decide) ?_
        exact hw.elim
  · have hw := hw.2 hc
    refine lv_iconst (v := 0) hx hb dL_law_286 (by decide) ?_
    exact hw.elim
def wpl_2 (L : Nat) (xs : Nat → Int32) (σ : CS) (f : Nat → Int64) (μ : MS) (v4 : Int32) (K : CS → (Nat → Int64) → MS → Prop) : Prop := vp_in (v4 + 1) L ∧ vp_in (v4 + 2) L ∧ wp_L_set σ f (xs ((v4 + 1)).toNatClampNeg) (xs ((v4 + 2)).toNatClampNeg) (fun r_1 σ_2 f_3 => vp_in (v4 + 1) L ∧ vp_in (v4 + 2) L ∧ wp_X5_set μ (xs ((v4 + 1)).toNatClampNeg) (xs ((v4 + 2)).toNatClampNeg) (fun r_4 μ_5 => wp_X5_thrown μ_5 (fun r_6 => ((r_6 = r_1 → ((¬ r_1 = 0 → K σ_2 f_3 μ_5) ∧ (r_1 = 0 → (((lg_cmp (f_3 ((0 : Int32)).toNatClampNeg) (r_4).toInt64) = 0 → K σ_2 f_3 μ_5) ∧ (¬ (lg_cmp (f_3 ((0 : Int32)).toNatClampNeg) (r_4).toInt64) = 0 → False))))) ∧ (¬ r_6 = r_1 → False)))))
set_option maxHeartbeats 4000000 in
set_option maxRecDepth 100000 in
theorem law_c2 {p : Program} {l : Launch} {e : Env} {s : State} {m : MethodId} {below : List Frame} {meth : Method} {c : Code} {b L : Nat} {xs : Nat → Int32} (hst : l.stackTraces = false) (C0 : lw_At p s m meth c b L xs) {D : va_G} {cI cJ : ClassId} (hK : va_K D vwCl (tysIJ cI cJ) s) (hz : ZX (fun q : Nat => s.heap.size ≤ q) s s.heap) (hs : SX s) (hnc : NCX s) {a bb : Nat → Nat} {o : Nat} {Q : State → Prop} {cells slots : Nat} (hc1 : cells + 4 ≤ 601024) (hc2 : slots + 24 ≤ 7293034) {σ : CS} {f : Nat → Int64} {μ : MS} {v4 : Int32} {K : CS → (Nat → Int64) → MS → Prop} (hw : wpl_2 L xs σ f μ v4 K) {H : Heap} {locs : List Loc} {ls : Array Slot} (hW : Wd D (fun q : Nat => s.heap.size ≤ q) s.heap (hWW cI cJ a o σ f ++ mW cI cJ bb μ) H locs) (hl : lv_has ls 9 [(0, .ref b), (1, .ref (a 0)), (2, .ref (bb 0)), (3, .ref o), (4, .int v4)])
    (kk : ∀ (σ : CS) (f : Nat → Int64) (μ : MS) (H : Heap) (locs : List Loc) (ls : Array Slot), K σ f μ → Wd D (fun q : Nat => s.heap.size ≤ q) s.heap (hWW cI cJ a o σ f ++ mW cI cJ bb μ) H locs → lv_has ls 9 [(0, .ref b), (1, .ref (a 0)), (2, .ref (bb 0)), (3, .ref o), (4, .int v4)] → W p l e room_1 s m #[Value.ref b] below meth c H locs (cells + 4) (slots + 24) Q (F0 m 1735 ls [])) : W p l e room_1 s m #[Value.ref b] below meth c H locs cells slots Q (F0 m 308 ls []) := by
  obtain ⟨hx, hb, hr, hml, hown, hts0, hX, hbl, hlocks, hgv⟩ := C0
  have hts : ∀ w ∈ wsL_law, w.before #[Value.ref b] s = true := fun w h => hts0 w (wsL_law_in w h)
  have hA : ∀ q : Nat, s.heap.size ≤ q → (fun q : Nat => s.heap.size ≤ q) q := fun _ h => h
  have hbA : ¬ (fun q : Nat => s.heap.size ≤ q) b := Nat.not_le.mpr hbl
  refine lv_aload_n hx hb dL_law_308 rfl (lv_at hl 1 rfl) ?_
  refine lv_aload_n hx hb dL_law_309 rfl (lv_at hl 0 rfl) ?_
  refine lv_iload hx hb dL_law_310 (lv_at hl 4 rfl) ?_
  refine lv_iconst (v := 1) hx hb dL_law_312 (by decide) ?_
  refine lv_iadd hx hb dL_law_313 ?_
  refine va_sld hx hb hX hbl hbA hW.2.2 hw.1 dL_law_314 ?_
  have hw := hw.2
  refine lv_aload_n hx hb dL_law_315 rfl (lv_at hl 0 rfl) ?_
  refine lv_iload hx hb dL_law_316 (lv_at hl 4 rfl) ?_
  refine lv_iconst (v := 2) hx hb dL_law_318 (by decide) ?_
  refine lv_iadd hx hb dL_law_319 ?_
  refine va_sld hx hb hX hbl hbA hW.2.2 hw.1 dL_law_320 ?_
  have hw := hw.2
  refine lv_aload_n hx hb dL_law_321 rfl (lv_at hl 3 rfl) ?_
  refine kSL_H (w1 := hWW cI cJ a o σ f) (w2 := mW cI cJ bb μ) (As := [.ref (a 0), .int (xs ((v4 + 1)).toNatClampNeg), .int (xs ((v4 + 2)).toNatClampNeg), .ref o]) (rest := []) ⟨hx, hb, hml, hown, hts⟩ (ok_L_set l hst D cI cJ a o _ _ _ _ _ _ hw) (vx_cwSW 4 hts gL_law_L_set rfl rfl rfl (by decide +kernel) ⟨(Nat.le_of_ble_eq_true rfl), (Nat.le_of_ble_eq_true rfl)⟩) hK hW hA hz hs hnc rfl hl.1 rfl (Nat.le_of_ble_eq_true rfl) dL_law_322 ⟨by show cells + 2 ≤ 601024; omega, by show slots + 12 ≤ 7293034; omega⟩ (fun r_1 u H locs hw hW => ?_)
  obtain ⟨σ_2, f_3⟩ := u
  refine lv_istore (lv' := [(5, .int r_1), (0, .ref b), (1, .ref (a 0)), (2, .ref (bb 0)), (3, .ref o), (4, .int v4)]) hx hb dL_law_325 hl (by decide) rfl (fun ls hl => ?_)
  refine lv_aload_n hx hb dL_law_327 rfl (lv_at hl 3 rfl) ?_
  refine lv_aload_n hx hb dL_law_328 rfl (lv_at hl 1 rfl) ?_
  refine lv_iload hx hb dL_law_329 (lv_at hl 5 rfl) ?_
  refine lv_iconst (v := 1) hx hb dL_law_331 (by decide) ?_
  refine lv_iadd hx hb dL_law_332 ?_
  refine va_sld hx hb hX hbl hbA hW.2.2 hw.1 dL_law_333 ?_
  have hw := hw.2
  refine lv_aload_n hx hb dL_law_334 rfl (lv_at hl 1 rfl) ?_
  refine lv_iload hx hb dL_law_335 (lv_at hl 5 rfl) ?_
  refine lv_iconst (v := 2) hx hb dL_law_337 (by decide) ?_
  refine lv_iadd hx hb dL_law_338 ?_
  refine va_sld hx hb hX hbl hbA hW.2.2 hw.1 dL_law_339 ?_
  have hw := hw.2
  refine kVR_Mi (w1 := hWW cI cJ a o σ_2 f_3) (w2 := mW cI cJ bb μ) (As := [.int (xs ((v4 + 1)).toNatClampNeg), .int (xs ((v4 + 2)).toNatClampNeg)]) (rest := []) ⟨hx, hb, hml, hown, hts⟩ (ok_X5_set l D cI cJ bb _ _ _ _ _ hw) (cwV 2 hts gL_law_X5_set rfl rfl rfl (by decide +kernel) ⟨(Nat.le_of_ble_eq_true rfl), (Nat.le_of_ble_eq_true rfl)⟩) hK hW hA 0 rfl rfl rfl hl.1 rfl (Nat.le_of_ble_eq_true rfl) dL_law_340 ⟨by show cells + 2 + 0 ≤ 601024; omega, by show slots + 12 + 0 ≤ 7293034; omega⟩ (fun r_4 μ_5 H locs hw hW => ?_)
  refine lv_istore (lv' := [(6, .int r_4), (5, .int r_1), (0, .ref b), (1, .ref (a 0)), (2, .ref (bb 0)), (3, .ref o), (4, .int v4)]) hx hb dL_law_343 hl (by decide) rfl (fun ls hl => ?_)
  refine lv_aload_n hx hb dL_law_345 rfl (lv_at hl 4 rfl) ?_
  refine kVR_Mi (w1 := hWW cI cJ a o σ_2 f_3) (w2 := mW cI cJ bb μ_5) (As := []) (rest := []) ⟨hx, hb, hml, hown, hts⟩ (ok_X5_thrown l D cI cJ bb _ _ _ hw) (cwV 0 hts gL_law_X5_thrown rfl rfl rfl (by decide +kernel) ⟨(Nat.le_of_ble_eq_true rfl), (Nat.le_of_ble_eq_true rfl)⟩) hK hW hA 0 rfl rfl rfl hl.1 rfl (Nat.le_of_ble_eq_true rfl) dL_law_346 ⟨by show cells + 2 + 0 ≤ 601024; omega, by show slots + 12 + 0 ≤ 7293034; omega⟩ (fun r_6 _ H locs hw hW => ?_)
  refine lv_iload hx hb dL_law_349 (lv_at hl 1 rfl) ?_
  refine lv_icmp_eq (tgt := 356) hx hb dL_law_351 (by decide) (fun hc => ?_) (fun hc => ?_)
  · have hw := hw.1 hc
    refine lv_iload hx hb dL_law_356 (lv_at hl 1 rfl) ?_
    refine lv_if_ne (tgt := 373) hx hb dL_law_358 (by decide) (fun hc => ?_) (fun hc => ?_)
    · have hw := hw.1 hc
      refine lv_goto (tgt := 1735) hx hb dL_law_373 (by decide) ?_
      refine W.widen (k := cells + 4) (n := slots + 24) (by omega) (by omega) ?_
      exact kk _ _ _ _ _ _ hw hW (lv_sub hl [2, 3, 4, 5, 6] rfl)
    · have hw := hw.2 hc
      refine lv_aload_n hx hb dL_law_361 rfl (lv_at hl 5 rfl) ?_
      refine lv_iconst (v := 0) hx hb dL_law_362 (by decide) ?_
      refine va_lald hx hb hK hW.1 11 1 rfl rfl (by unfold vp_in; decide) dL_law_363 ?_
      refine lv_iload hx hb dL_law_364 (lv_at hl 0 rfl) ?_
      refine lv_i2l hx hb dL_law_366 rfl ?_
      refine W.lcmp hx hb dL_law_367 ?_
      refine lv_if_eq (tgt := 373) hx hb dL_law_368 (by decide) (fun hc => ?_) (fun hc => ?_)
      · have hw := hw.1 hc
        refine lv_goto (tgt := 1735) hx hb dL_law_373 (by decide) ?_
        refine W.widen (k := cells + 4) (n := slots + 24) (by omega) (by omega) ?_
        exact kk _ _ _ _ _ _ hw hW (lv_sub hl [2, 3, 4, 5, 6] rfl)
      · have hw := hw.2 hc
        refine lv_iconst (v := 0) hx hb dL_law_371 (by decide) ?_
        exact hw.elim
  · have hw := hw.2 hc
    refine lv_iconst (v := 0) hx hb dL_law_354 (by decide) ?_
    exact hw.elim
def wpl_3 (L : Nat) (xs : Nat → Int32) (σ : CS) (f : Nat → Int64) (μ : MS) (v4 : Int32) (K : CS → (Nat → Int64) → MS → Prop) : Prop := vp_in (v4 + 1) L ∧ vp_in (v4 + 2) L ∧ vp_in (v4 + 3) L ∧ wp_L_bid σ f (xs ((v4 + 1)).toNatClampNeg) (xs ((v4 + 2)).toNatClampNeg) (xs ((v4 + 3)).toNatClampNeg) (fun r_1 σ_2 f_3 => vp_in (v4 + 1) L ∧ vp_in (v4 + 2) L ∧ vp_in (v4 + 3) L ∧ wp_X5_bid μ (xs ((v4 + 1)).toNatClampNeg) (xs ((v4 + 2)).toNatClampNeg) (xs ((v4 + 3)).toNatClampNeg) (fun r_4 μ_5 => wp_X5_thrown μ_5 (fun r_6 => ((r_6 = r_1 → ((¬ r_1 = 0 → K σ_2 f_3 μ_5) ∧ (r_1 = 0 → (((lg_cmp (f_3 ((0 : Int32)).toNatClampNeg) (r_4).toInt64) = 0 → K σ_2 f_3 μ_5) ∧ (¬ (lg_cmp (f_3 ((0 : Int32)).toNatClampNeg) (r_4).toInt64) = 0 → False))))) ∧ (¬ r_6 = r_1 → False)))))
set_option maxHeartbeats 4000000 in
set_option maxRecDepth 100000 in
theorem law_c3 {p : Program} {l : Launch} {e : Env} {s : State} {m : MethodId} {below : List Frame} {meth : Method} {c : Code} {b L : Nat} {xs : Nat → Int32} (hst : l.stackTraces = false) (C0 : lw_At p s m meth c b L xs) {D : va_G} {cI cJ : ClassId} (hK : va_K D vwCl (tysIJ cI cJ) s) (hz : ZX (fun q : Nat => s.heap.size ≤ q) s s.heap) (hs : SX s) (hnc : NCX s) {a bb : Nat → Nat} {o : Nat} {Q : State → Prop} {cells slots : Nat} (hc1 : cells + 4 ≤ 601024) (hc2 : slots + 24 ≤ 7293034) {σ : CS} {f : Nat → Int64} {μ : MS} {v4 : Int32} {K : CS → (Nat → Int64) → MS → Prop} (hw : wpl_3 L xs σ f μ v4 K) {H : Heap} {locs : List Loc} {ls : Array Slot} (hW : Wd D (fun q : Nat => s.heap.size ≤ q) s.heap (hWW cI cJ a o σ f ++ mW cI cJ bb μ) H locs) (hl : lv_has ls 9 [(0, .ref b), (1, .ref (a 0)), (2, .ref (bb 0)), (3, .ref o), (4, .int v4)])
    (kk : ∀ (σ : CS) (f : Nat → Int64) (μ : MS) (H : Heap) (locs : List Loc) (ls : Array Slot), K σ f μ → Wd D (fun q : Nat => s.heap.size ≤ q) s.heap (hWW cI cJ a o σ f ++ mW cI cJ bb μ) H locs → lv_has ls 9 [(0, .ref b), (1, .ref (a 0)), (2, .ref (bb 0)), (3, .ref o), (4, .int v4)] → W p l e room_1 s m #[Value.ref b] below meth c H locs (cells + 4) (slots + 24) Q (F0 m 1735 ls [])) : W p l e room_1 s m #[Value.ref b] below meth c H locs cells slots Q (F0 m 376 ls []) := by
  obtain ⟨hx, hb, hr, hml, hown, hts0, hX, hbl, hlocks, hgv⟩ := C0
  have hts : ∀ w ∈ wsL_law, w.before #[Value.ref b] s = true := fun w h => hts0 w (wsL_law_in w h)
  have hA : ∀ q : Nat, s.heap.size ≤ q → (fun q : Nat => s.heap.size ≤ q) q := fun _ h => h
  have hbA : ¬ (fun q : Nat => s.heap.size ≤ q) b := Nat.not_le.mpr hbl
  refine lv_aload_n hx hb dL_law_376 rfl (lv_at hl 1 rfl) ?_
  refine lv_aload_n hx hb dL_law_377 rfl (lv_at hl 0 rfl) ?_
  refine lv_iload hx hb dL_law_378 (lv_at hl 4 rfl) ?_
  refine lv_iconst (v := 1) hx hb dL_law_380 (by decide) ?_
  refine lv_iadd hx hb dL_law_381 ?_
  refine va_sld hx hb hX hbl hbA hW.2.2 hw.1 dL_law_382 ?_
  have hw := hw.2
  refine lv_aload_n hx hb dL_law_383 rfl (lv_at hl 0 rfl) ?_
  refine lv_iload hx hb dL_law_384 (lv_at hl 4 rfl) ?_
  refine lv_iconst (v := 2) hx hb dL_law_386 (by decide) ?_
  refine lv_iadd hx hb dL_law_387 ?_
  refine va_sld hx hb hX hbl hbA hW.2.2 hw.1 dL_law_388 ?_
  have hw := hw.2
  refine lv_aload_n hx hb dL_law_389 rfl (lv_at hl 0 rfl) ?_
  refine lv_iload hx hb dL_law_390 (lv_at hl 4 rfl) ?_
  refine lv_iconst (v := 3) hx hb dL_law_392 (by decide) ?_
  refine lv_iadd hx hb dL_law_393 ?_
  refine va_sld hx hb hX hbl hbA hW.2.2 hw.1 dL_law_394 ?_
  have hw := hw.2
  refine lv_aload_n hx hb dL_law_395 rfl (lv_at hl 3 rfl) ?_
  refine kSL_H (w1 := hWW cI cJ a o σ f) (w2 := mW cI cJ bb μ) (As := [.ref (a 0), .int (xs ((v4 + 1)).toNatClampNeg), .int (xs ((v4 + 2)).toNatClampNeg), .int (xs ((v4 + 3)).toNatClampNeg), .ref o]) (rest := []) ⟨hx, hb, hml, hown, hts⟩ (ok_L_bid l hst D cI cJ a o _ _ _ _ _ _ _ hw) (vx_cwSW 5 hts gL_law_L_bid rfl rfl rfl (by decide +kernel) ⟨(Nat.le_of_ble_eq_true rfl), (Nat.le_of_ble_eq_true rfl)⟩) hK hW hA hz hs hnc rfl hl.1 rfl (Nat.le_of_ble_eq_true rfl) dL_law_396 ⟨by show cells + 4 ≤ 601024; omega, by show slots + 24 ≤ 7293034; omega⟩ (fun r_1 u H locs hw hW => ?_)
  obtain ⟨σ_2, f_3⟩ := u
  refine lv_istore (lv' := [(5, .int r_1), (0, .ref b), (1, .ref (a 0)), (2, .ref (bb 0)), (3, .ref o), (4, .int v4)]) hx hb dL_law_399 hl (by decide) rfl (fun ls hl => ?_)
  refine lv_aload_n hx hb dL_law_401 rfl (lv_at hl 3 rfl) ?_
  refine lv_aload_n hx hb dL_law_402 rfl (lv_at hl 1 rfl) ?_
  refine lv_iload hx hb dL_law_403 (lv_at hl 5 rfl) ?_
  refine lv_iconst (v := 1) hx hb dL_law_405 (by decide) ?_
  refine lv_iadd hx hb dL_law_406 ?_
  refine va_sld hx hb hX hbl hbA hW.2.2 hw.1 dL_law_407 ?_
  have hw := hw.2
  refine lv_aload_n hx hb dL_law_408 rfl (lv_at hl 1 rfl) ?_
  refine lv_iload hx hb dL_law_409 (lv_at hl 5 rfl) ?_
  refine lv_iconst (v := 2) hx hb dL_law_411 (by decide) ?_
  refine lv_iadd hx hb dL_law_412 ?_
  refine va_sld hx hb hX hbl hbA hW.2.2 hw.1 dL_law_413 ?_
  have hw := hw.2
  refine lv_aload_n hx hb dL_law_414 rfl (lv_at hl 1 rfl) ?_
  refine lv_iload hx hb dL_law_415 (lv_at hl 5 rfl) ?_
  refine lv_iconst (v := 3) hx hb dL_law_417 (by decide) ?_
  refine lv_iadd hx hb dL_law_418 ?_
  refine va_sld hx hb hX hbl hbA hW.2.2 hw.1 dL_law_419 ?_
  have hw := hw.2
  refine kVR_Mi (w1 := hWW cI cJ a o σ_2 f_3) (w2 := mW cI cJ bb μ) (As := [.int (xs ((v4 + 1)).toNatClampNeg), .int (xs ((v4 + 2)).toNatClampNeg), .int (xs ((v4 + 3)).toNatClampNeg)]) (rest := []) ⟨hx, hb, hml, hown, hts⟩ (ok_X5_bid l D cI cJ bb _ _ _ _ _ _ hw) (cwV 3 hts gL_law_X5_bid rfl rfl rfl (by decide +kernel) ⟨(Nat.le_of_ble_eq_true rfl), (Nat.le_of_ble_eq_true rfl)⟩) hK hW hA 0 rfl rfl rfl hl.1 rfl (Nat.le_of_ble_eq_true rfl) dL_law_420 ⟨by show cells + 4 + 0 ≤ 601024; omega, by show slots + 24 + 0 ≤ 7293034; omega⟩ (fun r_4 μ_5 H locs hw hW => ?_)
  refine lv_istore (lv' := [(6, .int r_4), (5, .int r_1), (0, .ref b), (1, .ref (a 0)), (2, .ref (bb 0)), (3, .ref o), (4, .int v4)]) hx hb dL_law_423 hl (by decide) rfl (fun ls hl => ?_)
  refine lv_aload_n hx hb dL_law_425 rfl (lv_at hl 4 rfl) ?_
  refine kVR_Mi (w1 := hWW cI cJ a o σ_2 f_3) (w2 := mW cI cJ bb μ_5) (As := []) (rest := []) ⟨hx, hb, hml, hown, hts⟩ (ok_X5_thrown l D cI cJ bb _ _ _ hw) (cwV 0 hts gL_law_X5_thrown rfl rfl rfl (by decide +kernel) ⟨(Nat.le_of_ble_eq_true rfl), (Nat.le_of_ble_eq_true rfl)⟩) hK hW hA 0 rfl rfl rfl hl.1 rfl (Nat.le_of_ble_eq_true rfl) dL_law_426 ⟨by show cells + 4 + 0 ≤ 601024; omega, by show slots + 24 + 0 ≤ 7293034; omega⟩ (fun r_6 _ H locs hw hW => ?_)
  refine lv_iload hx hb dL_law_429 (lv_at hl 1 rfl) ?_
  refine lv_icmp_eq (tgt := 436) hx hb dL_law_431 (by decide) (fun hc => ?_) (fun hc => ?_)
  · have hw := hw.1 hc
    refine lv_iload hx hb dL_law_436 (lv_at hl 1 rfl) ?_
    refine lv_if_ne (tgt := 453) hx hb dL_law_438 (by decide) (fun hc => ?_) (fun hc => ?_)
    · have hw := hw.1 hc
      refine lv_goto (tgt := 1735) hx hb dL_law_453 (by decide) ?_
      refine W.widen (k := cells + 4) (n := slots + 24) (by omega) (by omega) ?_
      exact kk _ _ _ _ _ _ hw hW (lv_sub hl [2, 3, 4, 5, 6] rfl)
    · have hw := hw.2 hc
      refine lv_aload_n hx hb dL_law_441 rfl (lv_at hl 5 rfl) ?_
      refine lv_iconst (v := 0) hx hb dL_law_442 (by decide) ?_
      refine va_lald hx hb hK hW.1 11 1 rfl rfl (by unfold vp_in; decide) dL_law_443 ?_
      refine lv_iload hx hb dL_law_444 (lv_at hl 0 rfl) ?_
      refine lv_i2l hx hb dL_law_446 rfl ?_
      refine W.lcmp hx hb dL_law_447 ?_
      refine lv_if_eq (tgt := 453) hx hb dL_law_448 (by decide) (fun hc => ?_) (fun hc => ?_)
      · have hw := hw.1 hc
        refine lv_goto (tgt := 1735) hx hb dL_law_453 (by decide) ?_
        refine W.widen (k := cells + 4) (n := slots + 24) (by omega) (by omega) ?_
        exact kk _ _ _ _ _ _ hw hW (lv_sub hl [2, 3, 4, 5, 6] rfl)
      · have hw := hw.2 hc
        refine lv_iconst (v := 0) hx hb dL_law_451 (by decide) ?_
        exact hw.elim
  · have hw := hw.2 hc
    refine lv_iconst (v := 0) hx hb dL_law_434 (by decide) ?_
    exact hw.elim
def wpl_4 (L : Nat) (xs : Nat → Int32) (σ : CS) (f : Nat → Int64) (μ : MS) (v4 : Int32) (K : CS → (Nat → Int64) → MS → Prop) : Prop := vp_in (v4 + 1) L ∧ vp_in (v4 + 2) L ∧ wp_L_withdraw σ f (xs ((v4 + 1)).toNatClampNeg) (xs ((v4 + 2)).toNatClampNeg) (fun r_1 σ_2 f_3 => vp_in (v4 + 1) L ∧ vp_in (v4 + 2) L ∧ wp_X5_withdraw μ (xs ((v4 + 1)).toNatClampNeg) (xs ((v4 + 2)).toNatClampNeg) (fun r_4 μ_5 => wp_X5_thrown μ_5 (fun r_6 => ((r_6 = r_1 → ((¬ r_1 = 0 → K σ_2 f_3 μ_5) ∧ (r_1 = 0 → (((lg_cmp (f_3 ((0 : Int32)).toNatClampNeg) (r_4).toInt64) = 0 → K σ_2 f_3 μ_5) ∧ (¬ (lg_cmp (f_3 ((0 : Int32)).toNatClampNeg) (r_4).toInt64) = 0 → False))))) ∧ (¬ r_6 = r_1 → False)))))
set_option maxHeartbeats 4000000 in
set_option maxRecDepth 100000 in
theorem law_c4 {p : Program} {l : Launch} {e : Env} {s : State} {m : MethodId} {below : List Frame} {meth : Method} {c : Code} {b L : Nat} {xs : Nat → Int32} (hst : l.stackTraces = false) (C0 : lw_At p s m meth c b L xs) {D : va_G} {cI cJ : ClassId} (hK : va_K D vwCl (tysIJ cI cJ) s) (hz : ZX (fun q : Nat => s.heap.size ≤ q) s s.heap) (hs : SX s) (hnc : NCX s) {a bb : Nat → Nat} {o : Nat} {Q : State → Prop} {cells slots : Nat} (hc1 : cells + 4 ≤ 601024) (hc2 : slots + 24 ≤ 7293034) {σ : CS} {f : Nat → Int64} {μ : MS} {v4 : Int32} {K : CS → (Nat → Int64) → MS → Prop} (hw : wpl_4 L xs σ f μ v4 K) {H : Heap} {locs : List Loc} {ls : Array Slot} (hW : Wd D (fun q : Nat => s.heap.size ≤ q) s.heap (hWW cI cJ a o σ f ++ mW cI cJ bb μ) H locs) (hl : lv_has ls 9 [(0, .ref b), (1, .ref (a 0)), (2, .ref (bb 0)), (3, .ref o), (4, .int v4)])
    (kk : ∀ (σ : CS) (f : Nat → Int64) (μ : MS) (H : Heap) (locs : List Loc) (ls : Array Slot), K σ f μ → Wd D (fun q : Nat => s.heap.size ≤ q) s.heap (hWW cI cJ a o σ f ++ mW cI cJ bb μ) H locs → lv_has ls 9 [(0, .ref b), (1, .ref (a 0)), (2, .ref (bb 0)), (3, .ref o), (4, .int v4)] → W p l e room_1 s m #[Value.ref b] below meth c H locs (cells + 4) (slots + 24) Q (F0 m 1735 ls [])) : W p l e room_1 s m #[Value.ref b] below meth c H locs cells slots Q (F0 m 456 ls []) := by
  obtain ⟨hx, hb, hr, hml, hown, hts0, hX, hbl, hlocks, hgv⟩ := C0
  have hts : ∀ w ∈ wsL_law, w.before #[Value.ref b] s = true := fun w h => hts0 w (wsL_law_in w h)
  have hA : ∀ q : Nat, s.heap.size ≤ q → (fun q : Nat => s.heap.size ≤ q) q := fun _ h => h
  have hbA : ¬ (fun q : Nat => s.heap.size ≤ q) b := Nat.not_le.mpr hbl
  refine lv_aload_n hx hb dL_law_456 rfl (lv_at hl 1 rfl) ?_
  refine lv_aload_n hx hb dL_law_457 rfl (lv_at hl 0 rfl) ?_
  refine lv_iload hx hb dL_law_458 (lv_at hl 4 rfl) ?_
  refine lv_iconst (v := 1) hx hb dL_law_460 (by decide) ?_
  refine lv_iadd hx hb dL_law_461 ?_
  refine va_sld hx hb hX hbl hbA hW.2.2 hw.1 dL_law_462 ?_
  have hw := hw.2
  refine lv_aload_n hx hb dL_law_463 rfl (lv_at hl 0 rfl) ?_
  refine lv_iload hx hb dL_law_464 (lv_at hl 4 rfl) ?_
  refine lv_iconst (v := 2) hx hb dL_law_466 (by decide) ?_
  refine lv_iadd hx hb dL_law_467 ?_
  refine va_sld hx hb hX hbl hbA hW.2.2 hw.1 dL_law_468 ?_
  have hw := hw.2
  refine lv_aload_n hx hb dL_law_469 rfl (lv_at hl 3 rfl) ?_
  refine kSL_H (w1 := hWW cI cJ a o σ f) (w2 := mW cI cJ bb μ) (As := [.ref (a 0), .int (xs ((v4 + 1)).toNatClampNeg), .int (xs ((v4 + 2)).toNatClampNeg), .ref o]) (rest := []) ⟨hx, hb, hml, hown, hts⟩ (ok_L_withdraw l hst D cI cJ a o _ _ _ _ _ _ hw) (vx_cwSW 4 hts gL_law_L_withdraw rfl rfl rfl (by decide +kernel) ⟨(Nat.le_of_ble_eq_true rfl), (Nat.le_of_ble_eq_true rfl)⟩) hK hW hA hz hs hnc rfl hl.1 rfl (Nat.le_of_ble_eq_true rfl) dL_law_470 ⟨by show cells + 3 ≤ 601024; omega, by show slots + 18 ≤ 7293034; omega⟩ (fun r_1 u H locs hw hW => ?_)
  obtain ⟨σ_2, f_3⟩ := u
  refine lv_istore (lv' := [(5, .int r_1), (0, .ref b), (1, .ref (a 0)), (2, .ref (bb 0)), (3, .ref o), (4, .int v4)]) hx hb dL_law_473 hl (by decide) rfl (fun ls hl => ?_)
  refine lv_aload_n hx hb dL_law_475 rfl (lv_at hl 3 rfl) ?_
  refine lv_aload_n hx hb dL_law_476 rfl (lv_at hl 1 rfl) ?_
  refine lv_iload hx hb dL_law_477 (lv_at hl 5 rfl) ?_
  refine lv_iconst (v := 1) hx hb dL_law_479 (by decide) ?_
  refine lv_iadd hx hb dL_law_480 ?_
  refine va_sld hx hb hX hbl hbA hW.2.2 hw.1 dL_law_481 ?_
  have hw := hw.2
  refine lv_aload_n hx hb dL_law_482 rfl (lv_at hl 1 rfl) ?_
  refine lv_iload hx hb dL_law_483 (lv_at hl 5 rfl) ?_
  refine lv_iconst (v := 2) hx hb dL_law_485 (by decide) ?_
  refine lv_iadd hx hb dL_law_486 ?_
  refine va_sld hx hb hX hbl hbA hW.2.2 hw.1 dL_law_487 ?_
  have hw := hw.2
  refine kVR_Mi (w1 := hWW cI cJ a o σ_2 f_3) (w2 := mW cI cJ bb μ) (As := [.int (xs ((v4 + 1)).toNatClampNeg), .int (xs ((v4 + 2)).toNatClampNeg)]) (rest := []) ⟨hx, hb, hml, hown, hts⟩ (ok_X5_withdraw l D cI cJ bb _ _ _ _ _ hw) (cwV 2 hts gL_law_X5_withdraw rfl rfl rfl (by decide +kernel) ⟨(Nat.le_of_ble_eq_true rfl), (Nat.le_of_ble_eq_true rfl)⟩) hK hW hA 0 rfl rfl rfl hl.1 rfl (Nat.le_of_ble_eq_true rfl) dL_law_488 ⟨by show cells + 3 + 0 ≤ 601024; omega, by show slots + 18 + 0 ≤ 7293034; omega⟩ (fun r_4 μ_5 H locs hw hW => ?_)
  refine lv_istore (lv' := [(6, .int r_4), (5, .int r_1), (0, .ref b), (1, .ref (a 0)), (2, .ref (bb 0)), (3, .ref o), (4, .int v4)]) hx hb dL_law_491 hl (by decide) rfl (fun ls hl => ?_)
  refine lv_aload_n hx hb dL_law_493 rfl (lv_at hl 4 rfl) ?_
  refine kVR_Mi (w1 := hWW cI cJ a o σ_2 f_3) (w2 := mW cI cJ bb μ_5) (As := []) (rest := []) ⟨hx, hb, hml, hown, hts⟩ (ok_X5_thrown l D cI cJ bb _ _ _ hw) (cwV 0 hts gL_law_X5_thrown rfl rfl rfl (by decide +kernel) ⟨(Nat.le_of_ble_eq_true rfl), (Nat.le_of_ble_eq_true rfl)⟩) hK hW hA 0 rfl rfl rfl hl.1 rfl (Nat.le_of_ble_eq_true rfl) dL_law_494 ⟨by show cells + 3 + 0 ≤ 601024; omega, by show slots + 18 + 0 ≤ 7293034; omega⟩ (fun r_6 _ H locs hw hW => ?_)
  refine lv_iload hx hb dL_law_497 (lv_at hl 1 rfl) ?_
  refine lv_icmp_eq (tgt := 504) hx hb dL_law_499 (by decide) (fun hc => ?_) (fun hc => ?_)
  · have hw := hw.1 hc
    refine lv_iload hx hb dL_law_504 (lv_at hl 1 rfl) ?_
    refine lv_if_ne (tgt := 521) hx hb dL_law_506 (by decide) (fun hc => ?_) (fun hc => ?_)
    · have hw := hw.1 hc
      refine lv_goto (tgt := 1735) hx hb dL_law_521 (by decide) ?_
      refine W.widen (k := cells + 4) (n := slots + 24) (by omega) (by omega) ?_
      exact kk _ _ _ _ _ _ hw hW (lv_sub hl [2, 3, 4, 5, 6] rfl)
    · have hw := hw.2 hc
      refine lv_aload_n hx hb dL_law_509 rfl (lv_at hl 5 rfl) ?_
      refine lv_iconst (v := 0) hx hb dL_law_510 (by decide) ?_
      refine va_lald hx hb hK hW.1 11 1 rfl rfl (by unfold vp_in; decide) dL_law_511 ?_
      refine lv_iload hx hb dL_law_512 (lv_at hl 0 rfl) ?_
      refine lv_i2l hx hb dL_law_514 rfl ?_
      refine W.lcmp hx hb dL_law_515 ?_
      refine lv_if_eq (tgt := 521) hx hb dL_law_516 (by decide) (fun hc => ?_) (fun hc => ?_)
      · have hw := hw.1 hc
        refine lv_goto (tgt := 1735) hx hb dL_law_521 (by decide) ?_
        refine W.widen (k := cells + 4) (n := slots + 24) (by omega) (by omega) ?_
        exact kk _ _ _ _ _ _ hw hW (lv_sub hl [2, 3, 4, 5, 6] rfl)
      · have hw := hw.2 hc
        refine lv_iconst (v := 0) hx hb dL_law_519 (by decide) ?_
        exact hw.elim
  · have hw := hw.2 hc
    refine lv_iconst (v := 0) hx hb dL_law_502 (by decide) ?_
    exact hw.elim
def wpl_5 (L : Nat) (xs : Nat → Int32) (σ : CS) (f : Nat → Int64) (μ : MS) (v4 : Int32) (K : CS → (Nat → Int64) → MS → Prop) : Prop := vp_in (v4 + 1) L ∧ wp_L_pause σ f (xs ((v4 + 1)).toNatClampNeg) (fun r_1 σ_2 f_3 => vp_in (v4 + 1) L ∧ wp_X5_pause μ (xs ((v4 + 1)).toNatClampNeg) (fun r_4 μ_5 => wp_X5_thrown μ_5 (fun r_6 => ((r_6 = r_1 → ((¬ r_1 = 0 → K σ_2 f_3 μ_5) ∧ (r_1 = 0 → (((lg_cmp (f_3 ((0 : Int32)).toNatClampNeg) (r_4).toInt64) = 0 → K σ_2 f_3 μ_5) ∧ (¬ (lg_cmp (f_3 ((0 : Int32)).toNatClampNeg) (r_4).toInt64) = 0 → False))))) ∧ (¬ r_6 = r_1 → False)))))
set_option maxHeartbeats 4000000 in
set_option maxRecDepth 100000 in
theorem law_c5 {p : Program} {l : Launch} {e : Env} {s : State} {m : MethodId} {below : List Frame} {meth : Method} {c : Code} {b L : Nat} {xs : Nat → Int32} (hst : l.stackTraces = false) (C0 : lw_At p s m meth c b L xs) {D : va_G} {cI cJ : ClassId} (hK : va_K D vwCl (tysIJ cI cJ) s) (hz : ZX (fun q : Nat => s.heap.size ≤ q) s s.heap) (hs : SX s) (hnc : NCX s) {a bb : Nat → Nat} {o : Nat} {Q : State → Prop} {cells slots : Nat} (hc1 : cells + 4 ≤ 601024) (hc2 : slots + 24 ≤ 7293034) {σ : CS} {f : Nat → Int64} {μ : MS} {v4 : Int32} {K : CS → (Nat → Int64) → MS → Prop} (hw : wpl_5 L xs σ f μ v4 K) {H : Heap} {locs : List Loc} {ls : Array Slot} (hW : Wd D (fun q : Nat => s.heap.size ≤ q) s.heap (hWW cI cJ a o σ f ++ mW cI cJ bb μ) H locs) (hl : lv_has ls 9 [(0, .ref b), (1, .ref (a 0)), (2, .ref (bb 0)), (3, .ref o), (4, .int v4)])
    (kk : ∀ (σ : CS) (f : Nat → Int64) (μ : MS) (H : Heap) (locs : List Loc) (ls : Array Slot), K σ f μ → Wd D (fun q : Nat => s.heap.size ≤ q) s.heap (hWW cI cJ a o σ f ++ mW cI cJ bb μ) H locs → lv_has ls 9 [(0, .ref b), (1, .ref (a 0)), (2, .ref (bb 0)), (3, .ref o), (4, .int v4)] → W p l e room_1 s m #[Value.ref b] below meth c H locs (cells + 4) (slots + 24) Q (F0 m 1735 ls [])) : W p l e room_1 s m #[Value.ref b] below meth c H locs cells slots Q (F0 m 524 ls []) := by
  obtain ⟨hx, hb, hr, hml, hown, hts0, hX, hbl, hlocks, hgv⟩ := C0
  have hts : ∀ w ∈ wsL_law, w.before #[Value.ref b] s = true := fun w h => hts0 w (wsL_law_in w h)
  have hA : ∀ q : Nat, s.heap.size ≤ q → (fun q : Nat => s.heap.size ≤ q) q := fun _ h => h
  have hbA : ¬ (fun q : Nat => s.heap.size ≤ q) b := Nat.not_le.mpr hbl
  refine lv_aload_n hx hb dL_law_524 rfl (lv_at hl 1 rfl) ?_
  refine lv_aload_n hx hb dL_law_525 rfl (lv_at hl 0 rfl) ?_
  refine lv_iload hx hb dL_law_526 (lv_at hl 4 rfl) ?_
  refine lv_iconst (v := 1) hx hb dL_law_528 (by decide) ?_
  refine lv_iadd hx hb dL_law_529 ?_
  refine va_sld hx hb hX hbl hbA hW.2.2 hw.1 dL_law_530 ?_
  have hw := hw.2
  refine lv_aload_n hx hb dL_law_531 rfl (lv_at hl 3 rfl) ?_
  refine kSL_H (w1 := hWW cI cJ a o σ f) (w2 := mW cI cJ bb μ) (As := [.ref (a 0), .int (xs ((v4 + 1)).toNatClampNeg), .ref o]) (rest := []) ⟨hx, hb, hml, hown, hts⟩ (ok_L_pause l hst D cI cJ a o _ _ _ _ _ hw) (vx_cwSW 3 hts gL_law_L_pause rfl rfl rfl (by decide +kernel) ⟨(Nat.le_of_ble_eq_true rfl), (Nat.le_of_ble_eq_true rfl)⟩) hK hW hA hz hs hnc rfl hl.1 rfl (Nat.le_of_ble_eq_true rfl) dL_law_532 ⟨by show cells + 1 ≤ 601024; omega, by show slots + 6 ≤ 7293034; omega⟩ (fun r_1 u H locs hw hW => ?_)
  obtain ⟨σ_2, f_3⟩ := u
  refine lv_istore (lv' := [(5, .int r_1), (0, .ref b), (1, .ref (a 0)), (2, .ref (bb 0)), (3, .ref o), (4, .int v4)]) hx hb dL_law_535 hl (by decide) rfl (fun ls hl => ?_)
  refine lv_aload_n hx hb dL_law_537 rfl (lv_at hl 3 rfl) ?_
  refine lv_aload_n hx hb dL_law_538 rfl (lv_at hl 1 rfl) ?_
  refine lv_iload hx hb dL_law_539 (lv_at hl 5 rfl) ?_
  refine lv_iconst (v := 1) hx hb dL_law_541 (by decide) ?_
  refine lv_iadd hx hb dL_law_542 ?_
  refine va_sld hx hb hX hbl hbA hW.2.2 hw.1 dL_law_543 ?_
  have hw := hw.2
  refine kVR_Mi (w1 := hWW cI cJ a o σ_2 f_3) (w2 := mW cI cJ bb μ) (As := [.int (xs ((v4 + 1)).toNatClampNeg)]) (rest := []) ⟨hx, hb, hml, hown, hts⟩ (ok_X5_pause l D cI cJ bb _ _ _ _ hw) (cwV 1 hts gL_law_X5_pause rfl rfl rfl (by decide +kernel) ⟨(Nat.le_of_ble_eq_true rfl), (Nat.le_of_ble_eq_true rfl)⟩) hK hW hA 0 rfl rfl rfl hl.1 rfl (Nat.le_of_ble_eq_true rfl) dL_law_544 ⟨by show cells + 1 + 0 ≤ 601024; omega, by show slots + 6 + 0 ≤ 7293034; omega⟩ (fun r_4 μ_5 H locs hw hW => ?_)
  refine lv_istore (lv' := [(6, .int r_4), (5, .int r_1), (0, .ref b), (1, .ref (a 0)), (2, .ref (bb 0)), (3, .ref o), (4, .int v4)]) hx hb dL_law_547 hl (by decide) rfl (fun ls hl => ?_)
  refine lv_aload_n hx hb dL_law_549 rfl (lv_at hl 4 rfl) ?_
  refine kVR_Mi (w1 := hWW cI cJ a o σ_2 f_3) (w2 := mW cI cJ bb μ_5) (As := []) (rest := []) ⟨hx, hb, hml, hown, hts⟩ (ok_X5_thrown l D cI cJ bb _ _ _ hw) (cwV 0 hts gL_law_X5_thrown rfl rfl rfl (by decide +kernel) ⟨(Nat.le_of_ble_eq_true rfl), (Nat.le_of_ble_eq_true rfl)⟩) hK hW hA 0 rfl rfl rfl hl.1 rfl (Nat.le_of_ble_eq_true rfl) dL_law_550 ⟨by show cells + 1 + 0 ≤ 601024; omega, by show slots + 6 + 0 ≤ 7293034; omega⟩ (fun r_6 _ H locs hw hW => ?_)
  refine lv_iload hx hb dL_law_553 (lv_at hl 1 rfl) ?_
  refine lv_icmp_eq (tgt := 560) hx hb dL_law_555 (by decide) (fun hc => ?_) (fun hc => ?_)
  · have hw := hw.1 hc
    refine lv_iload hx hb dL_law_560 (lv_at hl 1 rfl) ?_
    refine lv_if_ne (tgt := 577) hx hb dL_law_562 (by decide) (fun hc => ?_) (fun hc => ?_)
    · have hw := hw.1 hc
      refine lv_goto (tgt := 1735) hx hb dL_law_577 (by decide) ?_
      refine W.widen (k := cells + 4) (n := slots + 24) (by omega) (by omega) ?_
      exact kk _ _ _ _ _ _ hw hW (lv_sub hl [2, 3, 4, 5, 6] rfl)
    · have hw := hw.2 hc
      refine lv_aload_n hx hb dL_law_565 rfl (lv_at hl 5 rfl) ?_
      refine lv_iconst (v := 0) hx hb dL_law_566 (by decide) ?_
      refine va_lald hx hb hK hW.1 11 1 rfl rfl (by unfold vp_in; decide) dL_law_567 ?_
      refine lv_iload hx hb dL_law_568 (lv_at hl 0 rfl) ?_
      refine lv_i2l hx hb dL_law_570 rfl ?_
      refine W.lcmp hx hb dL_law_571 ?_
      refine lv_if_eq (tgt := 577) hx hb dL_law_572 (by decide) (fun hc => ?_) (fun hc => ?_)
      · have hw := hw.1 hc
        refine lv_goto (tgt := 1735) hx hb dL_law_577 (by decide) ?_
        refine W.widen (k := cells + 4) (n := slots + 24) (by omega) (by omega) ?_
        exact kk _ _ _ _ _ _ hw hW (lv_sub hl [2, 3, 4, 5, 6] rfl)
      · have hw := hw.2 hc
        refine lv_iconst (v := 0) hx hb dL_law_575 (by decide) ?_
        exact hw.elim
  · have hw := hw.2 hc
    refine lv_iconst (v := 0) hx hb dL_law_558 (by decide) ?_
    exact hw.elim
def wpl_6 (L : Nat) (xs : Nat → Int32) (σ : CS) (f : Nat → Int64) (μ : MS) (v4 : Int32) (K : CS → (Nat → Int64) → MS → Prop) : Prop := wp_L_open σ f (fun r_1 σ_2 f_3 => wp_X5_open μ (fun r_4 μ_5 => wp_X5_thrown μ_5 (fun r_6 => ((r_6 = r_1 → ((¬ r_1 = 0 → K σ_2 f_3 μ_5) ∧ (r_1 = 0 → (((lg_cmp (f_3 ((0 : Int32)).toNatClampNeg) (r_4).toInt64) = 0 → K σ_2 f_3 μ_5) ∧ (¬ (lg_cmp (f_3 ((0 : Int32)).toNatClampNeg) (r_4).toInt64) = 0 → False))))) ∧ (¬ r_6 = r_1 → False)))))
set_option maxHeartbeats 4000000 in
set_option maxRecDepth 100000 in
theorem law_c6 {p : Program} {l : Launch} {e : Env} {s : State} {m : MethodId} {below : List Frame} {meth : Method} {c : Code} {b L : Nat} {xs : Nat → Int32} (hst : l.stackTraces = false) (C0 : lw_At p s m meth c b L xs) {D : va_G} {cI cJ : ClassId} (hK : va_K D vwCl (tysIJ cI cJ) s) (hz : ZX (fun q : Nat => s.heap.size ≤ q) s s.heap) (hs : SX s) (hnc : NCX s) {a bb : Nat → Nat} {o : Nat} {Q : State → Prop} {cells slots : Nat} (hc1 : cells + 4 ≤ 601024) (hc2 : slots + 24 ≤ 7293034) {σ : CS} {f : Nat → Int64} {μ : MS} {v4 : Int32} {K : CS → (Nat → Int64) → MS → Prop} (hw : wpl_6 L xs σ f μ v4 K) {H : Heap} {locs : List Loc} {ls : Array Slot} (hW : Wd D (fun q : Nat => s.heap.size ≤ q) s.heap (hWW cI cJ a o σ f ++ mW cI cJ bb μ) H locs) (hl : lv_has ls 9 [(0, .ref b), (1, .ref (a 0)), (2, .ref (bb 0)), (3, .ref o), (4, .int v4)])
    (kk : ∀ (σ : CS) (f : Nat → Int64) (μ : MS) (H : Heap) (locs : List Loc) (ls : Array Slot), K σ f μ → Wd D (fun q : Nat => s.heap.size ≤ q) s.heap (hWW cI cJ a o σ f ++ mW cI cJ bb μ) H locs → lv_has ls 9 [(0, .ref b), (1, .ref (a 0)), (2, .ref (bb 0)), (3, .ref o), (4, .int v4)] → W p l e room_1 s m #[Value.ref b] below meth c H locs (cells + 4) (slots + 24) Q (F0 m 1735 ls [])) : W p l e room_1 s m #[Value.ref b] below meth c H locs cells slots Q (F0 m 580 ls []) := by
  obtain ⟨hx, hb, hr, hml, hown, hts0, hX, hbl, hlocks, hgv⟩ := C0
  have hts : ∀ w ∈ wsL_law, w.before #[Value.ref b] s = true := fun w h => hts0 w (wsL_law_in w h)
  have hA : ∀ q : Nat, s.heap.size ≤ q → (fun q : Nat => s.heap.size ≤ q) q := fun _ h => h
  have hbA : ¬ (fun q : Nat => s.heap.size ≤ q) b := Nat.not_le.mpr hbl
  refine lv_aload_n hx hb dL_law_580 rfl (lv_at hl 1 rfl) ?_
  refine lv_aload_n hx hb dL_law_581 rfl (lv_at hl 3 rfl) ?_
  refine kSL_H (w1 := hWW cI cJ a o σ f) (w2 := mW cI cJ bb μ) (As := [.ref (a 0), .ref o]) (rest := []) ⟨hx, hb, hml, hown, hts⟩ (ok_L_open l hst D cI cJ a o _ _ _ _ hw) (vx_cwSW 2 hts gL_law_L_open rfl rfl rfl (by decide +kernel) ⟨(Nat.le_of_ble_eq_true rfl), (Nat.le_of_ble_eq_true rfl)⟩) hK hW hA hz hs hnc rfl hl.1 rfl (Nat.le_of_ble_eq_true rfl) dL_law_582 ⟨by show cells + 1 ≤ 601024; omega, by show slots + 6 ≤ 7293034; omega⟩ (fun r_1 u H locs hw hW => ?_)
  obtain ⟨σ_2, f_3⟩ := u
  refine lv_istore (lv' := [(5, .int r_1), (0, .ref b), (1, .ref (a 0)), (2, .ref (bb 0)), (3, .ref o), (4, .int v4)]) hx hb dL_law_585 hl (by decide) rfl (fun ls hl => ?_)
  refine lv_aload_n hx hb dL_law_587 rfl (lv_at hl 3 rfl) ?_
  refine kVR_Mi (w1 := hWW cI cJ a o σ_2 f_3) (w2 := mW cI cJ bb μ) (As := []) (rest := []) ⟨hx, hb, hml, hown, hts⟩ (ok_X5_open l D cI cJ bb _ _ _ hw) (cwV 0 hts gL_law_X5_open rfl rfl rfl (by decide +kernel) ⟨(Nat.le_of_ble_eq_true rfl), (Nat.le_of_ble_eq_true rfl)⟩) hK hW hA 0 rfl rfl rfl hl.1 rfl (Nat.le_of_ble_eq_true rfl) dL_law_588 ⟨by show cells + 1 + 0 ≤ 601024; omega, by show slots + 6 + 0 ≤ 7293034; omega⟩ (fun r_4 μ_5 H locs hw hW => ?_)
  refine lv_istore (lv' := [(6, .int r_4), (5, .int r_1), (0, .ref b), (1, .ref (a 0)), (2, .ref (bb 0)), (3, .ref o), (4, .int v4)]) hx hb dL_law_591 hl (by decide) rfl (fun ls hl => ?_)
  refine lv_aload_n hx hb dL_law_593 rfl (lv_at hl 4 rfl) ?_
  refine kVR_Mi (w1 := hWW cI cJ a o σ_2 f_3) (w2 := mW cI cJ bb μ_5) (As := []) (rest := []) ⟨hx, hb, hml, hown, hts⟩ (ok_X5_thrown l D cI cJ bb _ _ _ hw) (cwV 0 hts gL_law_X5_thrown rfl rfl rfl (by decide +kernel) ⟨(Nat.le_of_ble_eq_true rfl), (Nat.le_of_ble_eq_true rfl)⟩) hK hW hA 0 rfl rfl rfl hl.1 rfl (Nat.le_of_ble_eq_true rfl) dL_law_594 ⟨by show cells + 1 + 0 ≤ 601024; omega, by show slots + 6 + 0 ≤ 7293034; omega⟩ (fun r_6 _ H locs hw hW => ?_)
  refine lv_iload hx hb dL_law_597 (lv_at hl 1 rfl) ?_
  refine lv_icmp_eq (tgt := 604) hx hb dL_law_599 (by decide) (fun hc => ?_) (fun hc => ?_)
  · have hw := hw.1 hc
    refine lv_iload hx hb dL_law_604 (lv_at hl 1 rfl) ?_
    refine lv_if_ne (tgt := 621) hx hb dL_law_606 (by decide) (fun hc => ?_) (fun hc => ?_)
    · have hw := hw.1 hc
      refine lv_goto (tgt := 1735) hx hb dL_law_621 (by decide) ?_
      refine W.widen (k := cells + 4) (n := slots + 24) (by omega) (by omega) ?_
      exact kk _ _ _ _ _ _ hw hW (lv_sub hl [2, 3, 4, 5, 6] rfl)
    · have hw := hw.2 hc
      refine lv_aload_n hx hb dL_law_609 rfl (lv_at hl 5 rfl) ?_
      refine lv_iconst (v := 0) hx hb dL_law_610 (by decide) ?_
      refine va_lald hx hb hK hW.1 11 1 rfl rfl (by unfold vp_in; decide) dL_law_611 ?_
      refine lv_iload hx hb dL_law_612 (lv_at hl 0 rfl) ?_
      refine lv_i2l hx hb dL_law_614 rfl ?_
      refine W.lcmp hx hb dL_law_615 ?_
      refine lv_if_eq (tgt := 621) hx hb dL_law_616 (by decide) (fun hc => ?_) (fun hc => ?_)
      · have hw := hw.1 hc
        refine lv_goto (tgt := 1735) hx hb dL_law_621 (by decide) ?_
        refine W.widen (k := cells + 4) (n := slots + 24) (by omega) (by omega) ?_
        exact kk _ _ _ _ _ _ hw hW (lv_sub hl [2, 3, 4, 5, 6] rfl)
      · have hw := hw.2 hc
        refine lv_iconst (v := 0) hx hb dL_law_619 (by decide) ?_
        exact hw.elim
  · have hw := hw.2 hc
    refine lv_iconst (v := 0) hx hb dL_law_602 (by decide) ?_
    exact hw.elim
def wpl_7 (L : Nat) (xs : Nat → Int32) (σ : CS) (f : Nat → Int64) (μ : MS) (v4 : Int32) (K : CS → (Nat → Int64) → MS → Prop) : Prop := vp_in (v4 + 1) L ∧ wp_L_fish σ f (xs ((v4 + 1)).toNatClampNeg) (fun r_1 σ_2 f_3 => vp_in (v4 + 1) L ∧ wp_X5_fish μ (xs ((v4 + 1)).toNatClampNeg) (fun r_4 μ_5 => wp_X5_thrown μ_5 (fun r_6 => ((r_6 = r_1 → ((¬ r_1 = 0 → K σ_2 f_3 μ_5) ∧ (r_1 = 0 → (((lg_cmp (f_3 ((0 : Int32)).toNatClampNeg) (r_4).toInt64) = 0 → K σ_2 f_3 μ_5) ∧ (¬ (lg_cmp (f_3 ((0 : Int32)).toNatClampNeg) (r_4).toInt64) = 0 → False))))) ∧ (¬ r_6 = r_1 → False)))))
set_option maxHeartbeats 4000000 in
set_option maxRecDepth 100000 in
theorem law_c7 {p : Program} {l : Launch} {e : Env} {s : State} {m : MethodId} {below : List Frame} {meth : Method} {c : Code} {b L : Nat} {xs : Nat → Int32} (hst : l.stackTraces = false) (C0 : lw_At p s m meth c b L xs) {D : va_G} {cI cJ : ClassId} (hK : va_K D vwCl (tysIJ cI cJ) s) (hz : ZX (fun q : Nat => s.heap.size ≤ q) s s.heap) (hs : SX s) (hnc : NCX s) {a bb : Nat → Nat} {o : Nat} {Q : State → Prop} {cells slots : Nat} (hc1 : cells + 4 ≤ 601024) (hc2 : slots + 24 ≤ 7293034) {σ : CS} {f : Nat → Int64} {μ : MS} {v4 : Int32} {K : CS → (Nat → Int64) → MS → Prop} (hw : wpl_7 L xs σ f μ v4 K) {H : Heap} {locs : List Loc} {ls : Array Slot} (hW : Wd D (fun q : Nat => s.heap.size ≤ q) s.heap (hWW cI cJ a o σ f ++ mW cI cJ bb μ) H locs) (hl : lv_has ls 9 [(0, .ref b), (1, .ref (a 0)), (2, .ref (bb 0)), (3, .ref o), (4, .int v4)])
    (kk : ∀ (σ : CS) (f : Nat → Int64) (μ : MS) (H : Heap) (locs : List Loc) (ls : Array Slot), K σ f μ → Wd D (fun q : Nat => s.heap.size ≤ q) s.heap (hWW cI cJ a o σ f ++ mW cI cJ bb μ) H locs → lv_has ls 9 [(0, .ref b), (1, .ref (a 0)), (2, .ref (bb 0)), (3, .ref o), (4, .int v4)] → W p l e room_1 s m #[Value.ref b] below meth c H locs (cells + 4) (slots + 24) Q (F0 m 1735 ls [])) : W p l e room_1 s m #[Value.ref b] below meth c H locs cells slots Q (F0 m 624 ls []) := by
  obtain ⟨hx, hb, hr, hml, hown, hts0, hX, hbl, hlocks, hgv⟩ := C0
  have hts : ∀ w ∈ wsL_law, w.before #[Value.ref b] s = true := fun w h => hts0 w (wsL_law_in w h)
  have hA : ∀ q : Nat, s.heap.size ≤ q → (fun q : Nat => s.heap.size ≤ q) q := fun _ h => h
  have hbA : ¬ (fun q : Nat => s.heap.size ≤ q) b := Nat.not_le.mpr hbl
  refine lv_aload_n hx hb dL_law_624 rfl (lv_at hl 1 rfl) ?_
  refine lv_aload_n hx hb dL_law_625 rfl (lv_at hl 0 rfl) ?_
  refine lv_iload hx hb dL_law_626 (lv_at hl 4 rfl) ?_
  refine lv_iconst (v := 1) hx hb dL_law_628 (by decide) ?_
  refine lv_iadd hx hb dL_law_629 ?_
  refine va_sld hx hb hX hbl hbA hW.2.2 hw.1 dL_law_630 ?_
  have hw := hw.2
  refine lv_aload_n hx hb dL_law_631 rfl (lv_at hl 3 rfl) ?_
  refine kSL_H (w1 := hWW cI cJ a o σ f) (w2 := mW cI cJ bb μ) (As := [.ref (a 0), .int (xs ((v4 + 1)).toNatClampNeg), .ref o]) (rest := []) ⟨hx, hb, hml, hown, hts⟩ (ok_L_fish l hst D cI cJ a o _ _ _ _ _ hw) (vx_cwSW 3 hts gL_law_L_fish rfl rfl rfl (by decide +kernel) ⟨(Nat.le_of_ble_eq_true rfl), (Nat.le_of_ble_eq_true rfl)⟩) hK hW hA hz hs hnc rfl hl.1 rfl (Nat.le_of_ble_eq_true rfl) dL_law_632 ⟨by show cells + 2 ≤ 601024; omega, by show slots + 12 ≤ 7293034; omega⟩ (fun r_1 u H locs hw hW => ?_)
  obtain ⟨σ_2, f_3⟩ := u
  refine lv_istore (lv' := [(5, .int r_1), (0, .ref b), (1, .ref (a 0)), (2, .ref (bb 0)), (3, .ref o), (4, .int v4)]) hx hb dL_law_635 hl (by decide) rfl (fun ls hl => ?_)
  refine lv_aload_n hx hb dL_law_637 rfl (lv_at hl 3 rfl) ?_
  refine lv_aload_n hx hb dL_law_638 rfl (lv_at hl 1 rfl) ?_
  refine lv_iload hx hb dL_law_639 (lv_at hl 5 rfl) ?_
  refine lv_iconst (v := 1) hx hb dL_law_641 (by decide) ?_
  refine lv_iadd hx hb dL_law_642 ?_
  refine va_sld hx hb hX hbl hbA hW.2.2 hw.1 dL_law_643 ?_
  have hw := hw.2
  refine kVR_Mi (w1 := hWW cI cJ a o σ_2 f_3) (w2 := mW cI cJ bb μ) (As := [.int (xs ((v4 + 1)).toNatClampNeg)]) (rest := []) ⟨hx, hb, hml, hown, hts⟩ (ok_X5_fish l D cI cJ bb _ _ _ _ hw) (cwV 1 hts gL_law_X5_fish rfl rfl rfl (by decide +kernel) ⟨(Nat.le_of_ble_eq_true rfl), (Nat.le_of_ble_eq_true rfl)⟩) hK hW hA 0 rfl rfl rfl hl.1 rfl (Nat.le_of_ble_eq_true rfl) dL_law_644 ⟨by show cells + 2 + 0 ≤ 601024; omega, by show slots + 12 + 0 ≤ 7293034; omega⟩ (fun r_4 μ_5 H locs hw hW => ?_)
  refine lv_istore (lv' := [(6, .int r_4), (5, .int r_1), (0, .ref b), (1, .ref (a 0)), (2, .ref (bb 0)), (3, .ref o), (4, .int v4)]) hx hb dL_law_647 hl (by decide) rfl (fun ls hl => ?_)
  refine lv_aload_n hx hb dL_law_649 rfl (lv_at hl 4 rfl) ?_
  refine kVR_Mi (w1 := hWW cI cJ a o σ_2 f_3) (w2 := mW cI cJ bb μ_5) (As := []) (rest := []) ⟨hx, hb, hml, hown, hts⟩ (ok_X5_thrown l D cI cJ bb _ _ _ hw) (cwV 0 hts gL_law_X5_thrown rfl rfl rfl (by decide +kernel) ⟨(Nat.le_of_ble_eq_true rfl), (Nat.le_of_ble_eq_true rfl)⟩) hK hW hA 0 rfl rfl rfl hl.1 rfl (Nat.le_of_ble_eq_true rfl) dL_law_650 ⟨by show cells + 2 + 0 ≤ 601024; omega, by show slots + 12 + 0 ≤ 7293034; omega⟩ (fun r_6 _ H locs hw hW => ?_)
  refine lv_iload hx hb dL_law_653 (lv_at hl 1 rfl) ?_
  refine lv_icmp_eq (tgt := 660) hx hb dL_law_655 (by decide) (fun hc => ?_) (fun hc => ?_)
  · have hw := hw.1 hc
    refine lv_iload hx hb dL_law_660 (lv_at hl 1 rfl) ?_
    refine lv_if_ne (tgt := 677) hx hb dL_law_662 (by decide) (fun hc => ?_) (fun hc => ?_)
    · have hw := hw.1 hc
      refine lv_goto (tgt := 1735) hx hb dL_law_677 (by decide) ?_
      refine W.widen (k := cells + 4) (n := slots + 24) (by omega) (by omega) ?_
      exact kk _ _ _ _ _ _ hw hW (lv_sub hl [2, 3, 4, 5, 6] rfl)
    · have hw := hw.2 hc
      refine lv_aload_n hx hb dL_law_665 rfl (lv_at hl 5 rfl) ?_
      refine lv_iconst (v := 0) hx hb dL_law_666 (by decide) ?_
      refine va_lald hx hb hK hW.1 11 1 rfl rfl (by unfold vp_in; decide) dL_law_667 ?_
      refine lv_iload hx hb dL_law_668 (lv_at hl 0 rfl) ?_
      refine lv_i2l hx hb dL_law_670 rfl ?_
      refine W.lcmp hx hb dL_law_671 ?_
      refine lv_if_eq (tgt := 677) hx hb dL_law_672 (by decide) (fun hc => ?_) (fun hc => ?_)
      · have hw := hw.1 hc
        refine lv_goto (tgt := 1735) hx hb dL_law_677 (by decide) ?_
        refine W.widen (k := cells + 4) (n := slots + 24) (by omega) (by omega) ?_
        exact kk _ _ _ _ _ _ hw hW (lv_sub hl [2, 3, 4, 5, 6] rfl)
      · have hw := hw.2 hc
        refine lv_iconst (v := 0) hx hb dL_law_675 (by decide) ?_
        exact hw.elim
  · have hw := hw.2 hc
    refine lv_iconst (v := 0) hx hb dL_law_658 (by decide) ?_
    exact hw.elim
def wpl_8 (L : Nat) (xs : Nat → Int32) (σ : CS) (f : Nat → Int64) (μ : MS) (v4 : Int32) (K : CS → (Nat → Int64) → MS → Prop) : Prop := wp_X4_nextDay σ (fun r_1 σ_2 => wp_X5_nextDay μ (fun r_3 μ_4 => ((r_1 = r_3 → K σ_2 f μ_4) ∧ (¬ r_1 = r_3 → False))))
set_option maxHeartbeats 4000000 in
set_option maxRecDepth 100000 in
theorem law_c8 {p : Program} {l : Launch} {e : Env} {s : State} {m : MethodId} {below : List Frame} {meth : Method} {c : Code} {b L : Nat} {xs : Nat → Int32} (hst : l.stackTraces = false) (C0 : lw_At p s m meth c b L xs) {D : va_G} {cI cJ : ClassId} (hK : va_K D vwCl (tysIJ cI cJ) s) (hz : ZX (fun q : Nat => s.heap.size ≤ q) s s.heap) (hs : SX s) (hnc : NCX s) {a bb : Nat → Nat} {o : Nat} {Q : State → Prop} {cells slots : Nat} (hc1 : cells + 4 ≤ 601024) (hc2 : slots + 24 ≤ 7293034) {σ : CS} {f : Nat → Int64} {μ : MS} {v4 : Int32} {K : CS → (Nat → Int64) → MS → Prop} (hw : wpl_8 L xs σ f μ v4 K) {H : Heap} {locs : List Loc} {ls : Array Slot} (hW : Wd D (fun q : Nat => s.heap.size ≤ q) s.heap (hWW cI cJ a o σ f ++ mW cI cJ bb μ) H locs) (hl : lv_has ls 9 [(0, .ref b), (1, .ref (a 0)), (2, .ref (bb 0)), (3, .ref o), (4, .int v4)])
    (kk : ∀ (σ : CS) (f : Nat → Int64) (μ : MS) (H : Heap) (locs : List Loc) (ls : Array Slot), K σ f μ → Wd D (fun q : Nat => s.heap.size ≤ q) s.heap (hWW cI cJ a o σ f ++ mW cI cJ bb μ) H locs → lv_has ls 9 [(0, .ref b), (1, .ref (a 0)), (2, .ref (bb 0)), (3, .ref o), (4, .int v4)] → W p l e room_1 s m #[Value.ref b] below meth c H locs (cells + 4) (slots + 24) Q (F0 m 1735 ls [])) : W p l e room_1 s m #[Value.ref b] below meth c H locs cells slots Q (F0 m 680 ls []) := by
  obtain ⟨hx, hb, hr, hml, hown, hts0, hX, hbl, hlocks, hgv⟩ := C0
  have hts : ∀ w ∈ wsL_law, w.before #[Value.ref b] s = true := fun w h => hts0 w (wsL_law_in w h)
  have hA : ∀ q : Nat, s.heap.size ≤ q → (fun q : Nat => s.heap.size ≤ q) q := fun _ h => h
  have hbA : ¬ (fun q : Nat => s.heap.size ≤ q) b := Nat.not_le.mpr hbl
  refine lv_aload_n hx hb dL_law_680 rfl (lv_at hl 1 rfl) ?_
  rw [hWW_assoc] at hW
  refine kVL_Mi (w1 := cW cI cJ a σ) (w2 := [(o, .inl (cJ, 1, .inr (.inl f)))] ++ mW cI cJ bb μ) (As := []) (rest := []) ⟨hx, hb, hml, hown, hts⟩ (ok_X4_nextDay l D cI cJ a _ _ _ hw) (cwV 0 hts gL_law_X4_nextDay rfl rfl rfl (by decide +kernel) ⟨(Nat.le_of_ble_eq_true rfl), (Nat.le_of_ble_eq_true rfl)⟩) hK hW hA 0 rfl rfl rfl hl.1 rfl (Nat.le_of_ble_eq_true rfl) dL_law_681 ⟨by show cells + 0 ≤ 601024; omega, by show slots + 0 ≤ 7293034; omega⟩ (fun r_1 σ_2 H locs hw hW => ?_)
  rw [← hWW_assoc] at hW
  refine lv_aload_n hx hb dL_law_684 rfl (lv_at hl 2 rfl) ?_
  refine kVR_Mi (w1 := hWW cI cJ a o σ_2 f) (w2 := mW cI cJ bb μ) (As := []) (rest := [.int r_1]) ⟨hx, hb, hml, hown, hts⟩ (ok_X5_nextDay l D cI cJ bb _ _ _ hw) (cwV 0 hts gL_law_X5_nextDay rfl rfl rfl (by decide +kernel) ⟨(Nat.le_of_ble_eq_true rfl), (Nat.le_of_ble_eq_true rfl)⟩) hK hW hA 0 rfl rfl rfl hl.1 rfl (Nat.le_of_ble_eq_true rfl) dL_law_685 ⟨by show cells + 0 ≤ 601024; omega, by show slots + 0 ≤ 7293034; omega⟩ (fun r_3 μ_4 H locs hw hW => ?_)
  refine lv_icmp_eq (tgt := 1735) hx hb dL_law_688 (by decide) (fun hc => ?_) (fun hc => ?_)
  · have hw := hw.1 hc
    refine W.widen (k := cells + 4) (n := slots + 24) (by omega) (by omega) ?_
    exact kk _ _ _ _ _ _ hw hW (lv_sub hl [0, 1, 2, 3, 4] rfl)
  · have hw := hw.2 hc
    refine lv_iconst (v := 0) hx hb dL_law_691 (by decide) ?_
    exact hw.elim
def wpl_9 (L : Nat) (xs : Nat → Int32) (σ : CS) (f : Nat → Int64) (μ : MS) (v4 : Int32) (K : CS → (Nat → Int64) → MS → Prop) : Prop := vp_in (v4 + 1) L ∧ wp_L_append σ f (xs ((v4 + 1)).toNatClampNeg) (fun r_1 σ_2 f_3 => vp_in (v4 + 1) L ∧ wp_X5_append μ (xs ((v4 + 1)).toNatClampNeg) (fun r_4 μ_5 => wp_X5_thrown μ_5 (fun r_6 => ((r_6 = r_1 → ((¬ r_1 = 0 → K σ_2 f_3 μ_5) ∧ (r_1 = 0 → (((lg_cmp (f_3 ((0 : Int32)).toNatClampNeg) (r_4).toInt64) = 0 → K σ_2 f_3 μ_5) ∧ (¬ (lg_cmp (f_3 ((0 : Int32)).toNatClampNeg) (r_4).toInt64) = 0 → False))))) ∧ (¬ r_6 = r_1 → False)))))
set_option maxHeartbeats 4000000 in
set_option maxRecDepth 100000 in
theorem law_c9 {p : Program} {l : Launch} {e : Env} {s : State} {m : MethodId} {below : List Frame} {meth : Method} {c : Code} {b L : Nat} {xs : Nat → Int32} (hst : l.stackTraces = false) (C0 : lw_At p s m meth c b L xs) {D : va_G} {cI cJ : ClassId} (hK : va_K D vwCl (tysIJ cI cJ) s) (hz : ZX (fun q : Nat => s.heap.size ≤ q) s s.heap) (hs : SX s) (hnc : NCX s) {a bb : Nat → Nat} {o : Nat} {Q : State → Prop} {cells slots : Nat} (hc1 : cells + 4 ≤ 601024) (hc2 : slots + 24 ≤ 7293034) {σ : CS} {f : Nat → Int64} {μ : MS} {v4 : Int32} {K : CS → (Nat → Int64) → MS → Prop} (hw : wpl_9 L xs σ f μ v4 K) {H : Heap} {locs : List Loc} {ls : Array Slot} (hW : Wd D (fun q : Nat => s.heap.size ≤ q) s.heap (hWW cI cJ a o σ f ++ mW cI cJ bb μ) H locs) (hl : lv_has ls 9 [(0, .ref b), (1, .ref (a 0)), (2, .ref (bb 0)), (3, .ref o), (4, .int v4)])
    (kk : ∀ (σ : CS) (f : Nat → Int64) (μ : MS) (H : Heap) (locs : List Loc) (ls : Array Slot), K σ f μ → Wd D (fun q : Nat => s.heap.size ≤ q) s.heap (hWW cI cJ a o σ f ++ mW cI cJ bb μ) H locs → lv_has ls 9 [(0, .ref b), (1, .ref (a 0)), (2, .ref (bb 0)), (3, .ref o), (4, .int v4)] → W p l e room_1 s m #[Value.ref b] below meth c H locs (cells + 4) (slots + 24) Q (F0 m 1735 ls [])) : W p l e room_1 s m #[Value.ref b] below meth c H locs cells slots Q (F0 m 693 ls []) := by
  obtain ⟨hx, hb, hr, hml, hown, hts0, hX, hbl, hlocks, hgv⟩ := C0
  have hts : ∀ w ∈ wsL_law, w.before #[Value.ref b] s = true := fun w h => hts0 w (wsL_law_in w h)
  have hA : ∀ q : Nat, s.heap.size ≤ q → (fun q : Nat => s.heap.size ≤ q) q := fun _ h => h
  have hbA : ¬ (fun q : Nat => s.heap.size ≤ q) b := Nat.not_le.mpr hbl
  refine lv_aload_n hx hb dL_law_693 rfl (lv_at hl 1 rfl) ?_
  refine lv_aload_n hx hb dL_law_694 rfl (lv_at hl 0 rfl) ?_
  refine lv_iload hx hb dL_law_695 (lv_at hl 4 rfl) ?_
  refine lv_iconst (v := 1) hx hb dL_law_697 (by decide) ?_
  refine lv_iadd hx hb dL_law_698 ?_
  refine va_sld hx hb hX hbl hbA hW.2.2 hw.1 dL_law_699 ?_
  have hw := hw.2
  refine lv_aload_n hx hb dL_law_700 rfl (lv_at hl 3 rfl) ?_
  refine kSL_H (w1 := hWW cI cJ a o σ f) (w2 := mW cI cJ bb μ) (As := [.ref (a 0), .int (xs ((v4 + 1)).toNatClampNeg), .ref o]) (rest := []) ⟨hx, hb, hml, hown, hts⟩ (ok_L_append l hst D cI cJ a o _ _ _ _ _ hw) (vx_cwSW 3 hts gL_law_L_append rfl rfl rfl (by decide +kernel) ⟨(Nat.le_of_ble_eq_true rfl), (Nat.le_of_ble_eq_true rfl)⟩) hK hW hA hz hs hnc rfl hl.1 rfl (Nat.le_of_ble_eq_true rfl) dL_law_701 ⟨by show cells + 2 ≤ 601024; omega, by show slots + 12 ≤ 7293034; omega⟩ (fun r_1 u H locs hw hW => ?_)
  obtain ⟨σ_2, f_3⟩ := u
  refine lv_istore (lv' := [(5, .int r_1), (0, .ref b), (1, .ref (a 0)), (2, .ref (bb 0)), (3, .ref o), (4, .int v4)]) hx hb dL_law_704 hl (by decide) rfl (fun ls hl => ?_)
  refine lv_aload_n hx hb dL_law_706 rfl (lv_at hl 3 rfl) ?_
  refine lv_aload_n hx hb dL_law_707 rfl (lv_at hl 1 rfl) ?_
  refine lv_iload hx hb dL_law_708 (lv_at hl 5 rfl) ?_
  refine lv_iconst (v := 1) hx hb dL_law_710 (by decide) ?_
  refine lv_iadd hx hb dL_law_711 ?_
  refine va_sld hx hb hX hbl hbA hW.2.2 hw.1 dL_law_712 ?_
  have hw := hw.2
  refine kVR_Mi (w1 := hWW cI cJ a o σ_2 f_3) (w2 := mW cI cJ bb μ) (As := [.int (xs ((v4 + 1)).toNatClampNeg)]) (rest := []) ⟨hx, hb, hml, hown, hts⟩ (ok_X5_append l D cI cJ bb _ _ _ _ hw) (cwV 1 hts gL_law_X5_append rfl rfl rfl (by decide +kernel) ⟨(Nat.le_of_ble_eq_true rfl), (Nat.le_of_ble_eq_true rfl)⟩) hK hW hA 0 rfl rfl rfl hl.1 rfl (Nat.le_of_ble_eq_true rfl) dL_law_713 ⟨by show cells + 2 + 0 ≤ 601024; omega, by show slots + 12 + 0 ≤ 7293034; omega⟩ (fun r_4 μ_5 H locs hw hW => ?_)
  refine lv_istore (lv' := [(6, .int r_4), (5, .int r_1), (0, .ref b), (1, .ref (a 0)), (2, .ref (bb 0)), (3, .ref o), (4, .int v4)]) hx hb dL_law_716 hl (by decide) rfl (fun ls hl => ?_)
  refine lv_aload_n hx hb dL_law_718 rfl (lv_at hl 4 rfl) ?_
  refine kVR_Mi (w1 := hWW cI cJ a o σ_2 f_3) (w2 := mW cI cJ bb μ_5) (As := []) (rest := []) ⟨hx, hb, hml, hown, hts⟩ (ok_X5_thrown l D cI cJ bb _ _ _ hw) (cwV 0 hts gL_law_X5_thrown rfl rfl rfl (by decide +kernel) ⟨(Nat.le_of_ble_eq_true rfl), (Nat.le_of_ble_eq_true rfl)⟩) hK hW hA 0 rfl rfl rfl hl.1 rfl (Nat.le_of_ble_eq_true rfl) dL_law_719 ⟨by show cells + 2 + 0 ≤ 601024; omega, by show slots + 12 + 0 ≤ 7293034; omega⟩ (fun r_6 _ H locs hw hW => ?_)
  refine lv_iload hx hb dL_law_722 (lv_at hl 1 rfl) ?_
  refine lv_icmp_eq (tgt := 729) hx hb dL_law_724 (by decide) (fun hc => ?_) (fun hc => ?_)
  · have hw := hw.1 hc
    refine lv_iload hx hb dL_law_729 (lv_at hl 1 rfl) ?_
    refine lv_if_ne (tgt := 746) hx hb dL_law_731 (by decide) (fun hc => ?_) (fun hc => ?_)
    · have hw := hw.1 hc
      refine lv_goto (tgt := 1735) hx hb dL_law_746 (by decide) ?_
      refine W.widen (k := cells + 4) (n := slots + 24) (by omega) (by omega) ?_
      exact kk _ _ _ _ _ _ hw hW (lv_sub hl [2, 3, 4, 5, 6] rfl)
    · have hw := hw.2 hc
      refine lv_aload_n hx hb dL_law_734 rfl (lv_at hl 5 rfl) ?_
      refine lv_iconst (v := 0) hx hb dL_law_735 (by decide) ?_
      refine va_lald hx hb hK hW.1 11 1 rfl rfl (by unfold vp_in; decide) dL_law_736 ?_
      refine lv_iload hx hb dL_law_737 (lv_at hl 0 rfl) ?_
      refine lv_i2l hx hb dL_law_739 rfl ?_
      refine W.lcmp hx hb dL_law_740 ?_
      refine lv_if_eq (tgt := 746) hx hb dL_law_741 (by decide) (fun hc => ?_) (fun hc => ?_)
      · have hw := hw.1 hc
        refine lv_goto (tgt := 1735) hx hb dL_law_746 (by decide) ?_
        refine W.widen (k := cells + 4) (n := slots + 24) (by omega) (by omega) ?_
        exact kk _ _ _ _ _ _ hw hW (lv_sub hl [2, 3, 4, 5, 6] rfl)
      · have hw := hw.2 hc
        refine lv_iconst (v := 0) hx hb dL_law_744 (by decide) ?_
        exact hw.elim
  · have hw := hw.2 hc
    refine lv_iconst (v := 0) hx hb dL_law_727 (by decide) ?_
    exact hw.elim
def wpl_10 (L : Nat) (xs : Nat → Int32) (σ : CS) (f : Nat → Int64) (μ : MS) (v4 : Int32) (K : CS → (Nat → Int64) → MS → Prop) : Prop := wp_X4_clearBuffer σ (fun r_1 σ_2 => wp_X5_clearBuffer μ (fun r_3 μ_4 => ((r_1 = r_3 → K σ_2 f μ_4) ∧ (¬ r_1 = r_3 → False))))
set_option maxHeartbeats 4000000 in
set_option maxRecDepth 100000 in
theorem law_c10 {p : Program} {l : Launch} {e : Env} {s : State} {m : MethodId} {below : List Frame} {meth : Method} {c : Code} {b L : Nat} {xs : Nat → Int32} (hst : l.stackTraces = false) (C0 : lw_At p s m meth c b L xs) {D : va_G} {cI cJ : ClassId} (hK : va_K D vwCl (tysIJ cI cJ) s) (hz : ZX (fun q : Nat => s.heap.size ≤ q) s s.heap) (hs : SX s) (hnc : NCX s) {a bb : Nat → Nat} {o : Nat} {Q : State → Prop} {cells slots : Nat} (hc1 : cells + 4 ≤ 601024) (hc2 : slots + 24 ≤ 7293034) {σ : CS} {f : Nat → Int64} {μ : MS} {v4 : Int32} {K : CS → (Nat → Int64) → MS → Prop} (hw : wpl_10 L xs σ f μ v4 K) {H : Heap} {locs : List Loc} {ls : Array Slot} (hW : Wd D (fun q : Nat => s.heap.size ≤ q) s.heap (hWW cI cJ a o σ f ++ mW cI cJ bb μ) H locs) (hl : lv_has ls 9 [(0, .ref b), (1, .ref (a 0)), (2, .ref (bb 0)), (3, .ref o), (4, .int v4)])
    (kk : ∀ (σ : CS) (f : Nat → Int64) (μ : MS) (H : Heap) (locs : List Loc) (ls : Array Slot), K σ f μ → Wd D (fun q : Nat => s.heap.size ≤ q) s.heap (hWW cI cJ a o σ f ++ mW cI cJ bb μ) H locs → lv_has ls 9 [(0, .ref b), (1, .ref (a 0)), (2, .ref (bb 0)), (3, .ref o), (4, .int v4)] → W p l e room_1 s m #[Value.ref b] below meth c H locs (cells + 4) (slots + 24) Q (F0 m 1735 ls [])) : W p l e room_1 s m #[Value.ref b] below meth c H locs cells slots Q (F0 m 749 ls []) := by
  obtain ⟨hx, hb, hr, hml, hown, hts0, hX, hbl, hlocks, hgv⟩ := C0
  have hts : ∀ w ∈ wsL_law, w.before #[Value.ref b] s = true := fun w h => hts0 w (wsL_law_in w h)
  have hA : ∀ q : Nat, s.heap.size ≤ q → (fun q : Nat => s.heap.size ≤ q) q := fun _ h => h
  have hbA : ¬ (fun q : Nat => s.heap.size ≤ q) b := Nat.not_le.mpr hbl
  refine lv_aload_n hx hb dL_law_749 rfl (lv_at hl 1 rfl) ?_
  rw [hWW_assoc] at hW
  refine kVL_Mi (w1 := cW cI cJ a σ) (w2 := [(o, .inl (cJ, 1, .inr (.inl f)))] ++ mW cI cJ bb μ) (As := []) (rest := []) ⟨hx, hb, hml, hown, hts⟩ (ok_X4_clearBuffer l D cI cJ a _ _ _ hw) (cwV 0 hts gL_law_X4_clearBuffer rfl rfl rfl (by decide +kernel) ⟨(Nat.le_of_ble_eq_true rfl), (Nat.le_of_ble_eq_true rfl)⟩) hK hW hA 0 rfl rfl rfl hl.1 rfl (Nat.le_of_ble_eq_true rfl) dL_law_750 ⟨by show cells + 0 ≤ 601024; omega, by show slots + 0 ≤ 7293034; omega⟩ (fun r_1 σ_2 H locs hw hW => ?_)
  rw [← hWW_assoc] at hW
  refine lv_aload_n hx hb dL_law_753 rfl (lv_at hl 2 rfl) ?_
  refine kVR_Mi (w1 := hWW cI cJ a o σ_2 f) (w2 := mW cI cJ bb μ) (As := []) (rest := [.int r_1]) ⟨hx, hb, hml, hown, hts⟩ (ok_X5_clearBuffer l D cI cJ bb _ _ _ hw) (cwV 0 hts gL_law_X5_clearBuffer rfl rfl rfl (by decide +kernel) ⟨(Nat.le_of_ble_eq_true rfl), (Nat.le_of_ble_eq_true rfl)⟩) hK hW hA 0 rfl rfl rfl hl.1 rfl (Nat.le_of_ble_eq_true rfl) dL_law_754 ⟨by show cells + 0 ≤ 601024; omega, by show slots + 0 ≤ 7293034; omega⟩ (fun r_3 μ_4 H locs hw hW => ?_)
  refine lv_icmp_eq (tgt := 1735) hx hb dL_law_757 (by decide) (fun hc => ?_) (fun hc => ?_)
  · have hw := hw.1 hc
    refine W.widen (k := cells + 4) (n := slots + 24) (by omega) (by omega) ?_
    exact kk _ _ _ _ _ _ hw hW (lv_sub hl [0, 1, 2, 3, 4] rfl)
  · have hw := hw.2 hc
    refine lv_iconst (v := 0) hx hb dL_law_760 (by decide) ?_
    exact hw.elim
def wpl_11 (L : Nat) (xs : Nat → Int32) (σ : CS) (f : Nat → Int64) (μ : MS) (v4 : Int32) (K : CS → (Nat → Int64) → MS → Prop) : Prop := wp_X4_firstError σ (fun r_1 => wp_X5_firstError μ (fun r_2 μ_3 => ((r_1 = r_2 → K σ f μ_3) ∧ (¬ r_1 = r_2 → False))))
set_option maxHeartbeats 4000000 in
set_option maxRecDepth 100000 in
theorem law_c11 {p : Program} {l : Launch} {e : Env} {s : State} {m : MethodId} {below : List Frame} {meth : Method} {c : Code} {b L : Nat} {xs : Nat → Int32} (hst : l.stackTraces = false) (C0 : lw_At p s m meth c b L xs) {D : va_G} {cI cJ : ClassId} (hK : va_K D vwCl (tysIJ cI cJ) s) (hz : ZX (fun q : Nat => s.heap.size ≤ q) s s.heap) (hs : SX s) (hnc : NCX s) {a bb : Nat → Nat} {o : Nat} {Q : State → Prop} {cells slots : Nat} (hc1 : cells + 4 ≤ 601024) (hc2 : slots + 24 ≤ 7293034) {σ : CS} {f : Nat → Int64} {μ : MS} {v4 : Int32} {K : CS → (Nat → Int64) → MS → Prop} (hw : wpl_11 L xs σ f μ v4 K) {H : Heap} {locs : List Loc} {ls : Array Slot} (hW : Wd D (fun q : Nat => s.heap.size ≤ q) s.heap (hWW cI cJ a o σ f ++ mW cI cJ bb μ) H locs) (hl : lv_has ls 9 [(0, .ref b), (1, .ref (a 0)), (2, .ref (bb 0)), (3, .ref o), (4, .int v4)])
    (kk : ∀ (σ : CS) (f : Nat → Int64) (μ : MS) (H : Heap) (locs : List Loc) (ls : Array Slot), K σ f μ → Wd D (fun q : Nat => s.heap.size ≤ q) s.heap (hWW cI cJ a o σ f ++ mW cI cJ bb μ) H locs → lv_has ls 9 [(0, .ref b), (1, .ref (a 0)), (2, .ref (bb 0)), (3, .ref o), (4, .int v4)] → W p l e room_1 s m #[Value.ref b] below meth c H locs (cells + 4) (slots + 24) Q (F0 m 1735 ls [])) : W p l e room_1 s m #[Value.ref b] below meth c H locs cells slots Q (F0 m 762 ls []) := by
  obtain ⟨hx, hb, hr, hml, hown, hts0, hX, hbl, hlocks, hgv⟩ := C0
  have hts : ∀ w ∈ wsL_law, w.before #[Value.ref b] s = true := fun w h => hts0 w (wsL_law_in w h)
  have hA : ∀ q : Nat, s.heap.size ≤ q → (fun q : Nat => s.heap.size ≤ q) q := fun _ h => h
  have hbA : ¬ (fun q : Nat => s.heap.size ≤ q) b := Nat.not_le.mpr hbl
  refine lv_aload_n hx hb dL_law_762 rfl (lv_at hl 1 rfl) ?_
  rw [hWW_assoc] at hW
  refine kVL_Mi (w1 := cW cI cJ a σ) (w2 := [(o, .inl (cJ, 1, .inr (.inl f)))] ++ mW cI cJ bb μ) (As := []) (rest := []) ⟨hx, hb, hml, hown, hts⟩ (ok_X4_firstError l D cI cJ a _ _ _ hw) (cwV 0 hts gL_law_X4_firstError rfl rfl rfl (by decide +kernel) ⟨(Nat.le_of_ble_eq_true rfl), (Nat.le_of_ble_eq_true rfl)⟩) hK hW hA 0 rfl rfl rfl hl.1 rfl (Nat.le_of_ble_eq_true rfl) dL_law_763 ⟨by show cells + 0 ≤ 601024; omega, by show slots + 0 ≤ 7293034; omega⟩ (fun r_1 _ H locs hw hW => ?_)
  rw [← hWW_assoc] at hW
  refine lv_aload_n hx hb dL_law_766 rfl (lv_at hl 2 rfl) ?_
  refine kVR_Mi (w1 := hWW cI cJ a o σ f) (w2 := mW cI cJ bb μ) (As := []) (rest := [.int r_1]) ⟨hx, hb, hml, hown, hts⟩ (ok_X5_firstError l D cI cJ bb _ _ _ hw) (cwV 0 hts gL_law_X5_firstError rfl rfl rfl (by decide +kernel) ⟨(Nat.le_of_ble_eq_true rfl), (Nat.le_of_ble_eq_true rfl)⟩) hK hW hA 0 rfl rfl rfl hl.1 rfl (Nat.le_of_ble_eq_true rfl) dL_law_767 ⟨by show cells + 0 ≤ 601024; omega, by show slots + 0 ≤ 7293034; omega⟩ (fun r_2 μ_3 H locs hw hW => ?_)
  refine lv_icmp_eq (tgt := 1735) hx hb dL_law_770 (by decide) (fun hc => ?_) (fun hc => ?_)
  · have hw := hw.1 hc
    refine W.widen (k := cells + 4) (n := slots + 24) (by omega) (by omega) ?_
    exact kk _ _ _ _ _ _ hw hW (lv_sub hl [0, 1, 2, 3, 4] rfl)
  · have hw := hw.2 hc
    refine lv_iconst (v := 0) hx hb dL_law_773 (by decide) ?_
    exact hw.elim
def wpl_12 (L : Nat) (xs : Nat → Int32) (σ : CS) (f : Nat → Int64) (μ : MS) (v4 : Int32) (K : CS → (Nat → Int64) → MS → Prop) : Prop := wp_L_run σ f (fun r_1 σ_2 f_3 => wp_X5_run μ (fun r_4 μ_5 => wp_X5_thrown μ_5 (fun r_6 => ((r_6 = r_1 → ((¬ r_1 = 0 → K σ_2 f_3 μ_5) ∧ (r_1 = 0 → (((lg_cmp (f_3 ((0 : Int32)).toNatClampNeg) (r_4).toInt64) = 0 → K σ_2 f_3 μ_5) ∧ (¬ (lg_cmp (f_3 ((0 : Int32)).toNatClampNeg) (r_4).toInt64) = 0 → False))))) ∧ (¬ r_6 = r_1 → False)))))
set_option maxHeartbeats 4000000 in
set_option maxRecDepth 100000 in
theorem law_c12 {p : Program} {l : Launch} {e : Env} {s : State} {m : MethodId} {below : List Frame} {meth : Method} {c : Code} {b L : Nat} {xs : Nat → Int32} (hst : l.stackTraces = false) (C0 : lw_At p s m meth c b L xs) {D : va_G} {cI cJ : ClassId} (hK : va_K D vwCl (tysIJ cI cJ) s) (hz : ZX (fun q : Nat => s.heap.size ≤ q) s s.heap) (hs : SX s) (hnc : NCX s) {a bb : Nat → Nat} {o : Nat} {Q : State → Prop} {cells slots : Nat} (hc1 : cells + 4 ≤ 601024) (hc2 : slots + 24 ≤ 7293034) {σ : CS} {f : Nat → Int64} {μ : MS} {v4 : Int32} {K : CS → (Nat → Int64) → MS → Prop} (hw : wpl_12 L xs σ f μ v4 K) {H : Heap} {locs : List Loc} {ls : Array Slot} (hW : Wd D (fun q : Nat => s.heap.size ≤ q) s.heap (hWW cI cJ a o σ f ++ mW cI cJ bb μ) H locs) (hl : lv_has ls 9 [(0, .ref b), (1, .ref (a 0)), (2, .ref (bb 0)), (3, .ref o), (4, .int v4)])
    (kk : ∀ (σ : CS) (f : Nat → Int64) (μ : MS) (H : Heap) (locs : List Loc) (ls : Array Slot), K σ f μ → Wd D (fun q : Nat => s.heap.size ≤ q) s.heap (hWW cI cJ a o σ f ++ mW cI cJ bb μ) H locs → lv_has ls 9 [(0, .ref b), (1, .ref (a 0)), (2, .ref (bb 0)), (3, .ref o), (4, .int v4)] → W p l e room_1 s m #[Value.ref b] below meth c H locs (cells + 4) (slots + 24) Q (F0 m 1735 ls [])) : W p l e room_1 s m #[Value.ref b] below meth c H locs cells slots Q (F0 m 775 ls []) := by
  obtain ⟨hx, hb, hr, hml, hown, hts0, hX, hbl, hlocks, hgv⟩ := C0
  have hts : ∀ w ∈ wsL_law, w.before #[Value.ref b] s = true := fun w h => hts0 w (wsL_law_in w h)
  have hA : ∀ q : Nat, s.heap.size ≤ q → (fun q : Nat => s.heap.size ≤ q) q := fun _ h => h
  have hbA : ¬ (fun q : Nat => s.heap.size ≤ q) b := Nat.not_le.mpr hbl
  refine lv_aload_n hx hb dL_law_775 rfl (lv_at hl 1 rfl) ?_
  refine lv_aload_n hx hb dL_law_776 rfl (lv_at hl 3 rfl) ?_
  refine kSL_H (w1 := hWW cI cJ a o σ f) (w2 := mW cI cJ bb μ) (As := [.ref (a 0), .ref o]) (rest := []) ⟨hx, hb, hml, hown, hts⟩ (ok_L_run l hst D cI cJ a o _ _ _ _ hw) (vx_cwSW 2 hts gL_law_L_run rfl rfl rfl (by decide +kernel) ⟨(Nat.le_of_ble_eq_true rfl), (Nat.le_of_ble_eq_true rfl)⟩) hK hW hA hz hs hnc rfl hl.1 rfl (Nat.le_of_ble_eq_true rfl) dL_law_777 ⟨by show cells + 1 ≤ 601024; omega, by show slots + 6 ≤ 7293034; omega⟩ (fun r_1 u H locs hw hW => ?_)
  obtain ⟨σ_2, f_3⟩ := u
  refine lv_istore (lv' := [(5, .int r_1), (0, .ref b), (1, .ref (a 0)), (2, .ref (bb 0)), (3, .ref o), (4, .int v4)]) hx hb dL_law_780 hl (by decide) rfl (fun ls hl => ?_)
  refine lv_aload_n hx hb dL_law_782 rfl (lv_at hl 3 rfl) ?_
  refine kVR_Mi (w1 := hWW cI cJ a o σ_2 f_3) (w2 := mW cI cJ bb μ) (As := []) (rest := []) ⟨hx, hb, hml, hown, hts⟩ (ok_X5_run l D cI cJ bb _ _ _ hw) (cwV 0 hts gL_law_X5_run rfl rfl rfl (by decide +kernel) ⟨(Nat.le_of_ble_eq_true rfl), (Nat.le_of_ble_eq_true rfl)⟩) hK hW hA 0 rfl rfl rfl hl.1 rfl (Nat.le_of_ble_eq_true rfl) dL_law_783 ⟨by show cells + 1 + 0 ≤ 601024; omega, by show slots + 6 + 0 ≤ 7293034; omega⟩ (fun r_4 μ_5 H locs hw hW => ?_)
  refine lv_istore (lv' := [(6, .int r_4), (5, .int r_1), (0, .ref b), (1, .ref (a 0)), (2, .ref (bb 0)), (3, .ref o), (4, .int v4)]) hx hb dL_law_786 hl (by decide) rfl (fun ls hl => ?_)
  refine lv_aload_n hx hb dL_law_788 rfl (lv_at hl 4 rfl) ?_
  refine kVR_Mi (w1 := hWW cI cJ a o σ_2 f_3) (w2 := mW cI cJ bb μ_5) (As := []) (rest := []) ⟨hx, hb, hml, hown, hts⟩ (ok_X5_thrown l D cI cJ bb _ _ _ hw) (cwV 0 hts gL_law_X5_thrown rfl rfl rfl (by decide +kernel) ⟨(Nat.le_of_ble_eq_true rfl), (Nat.le_of_ble_eq_true rfl)⟩) hK hW hA 0 rfl rfl rfl hl.1 rfl (Nat.le_of_ble_eq_true rfl) dL_law_789 ⟨by show cells + 1 + 0 ≤ 601024; omega, by show slots + 6 + 0 ≤ 7293034; omega⟩ (fun r_6 _ H locs hw hW => ?_)
  refine lv_iload hx hb dL_law_792 (lv_at hl 1 rfl) ?_
  refine lv_icmp_eq (tgt := 799) hx hb dL_law_794 (by decide) (fun hc => ?_) (fun hc => ?_)
  · have hw := hw.1 hc
    refine lv_iload hx hb dL_law_799 (lv_at hl 1 rfl) ?_
    refine lv_if_ne (tgt := 816) hx hb dL_law_801 (by decide) (fun hc => ?_) (fun hc => ?_)
    · have hw := hw.1 hc
      refine lv_goto (tgt := 1735) hx hb dL_law_816 (by decide) ?_
      refine W.widen (k := cells + 4) (n := slots + 24) (by omega) (by omega) ?_
      exact kk _ _ _ _ _ _ hw hW (lv_sub hl [2, 3, 4, 5, 6] rfl)
    · have hw := hw.2 hc
      refine lv_aload_n hx hb dL_law_804 rfl (lv_at hl 5 rfl) ?_
      refine lv_iconst (v := 0) hx hb dL_law_805 (by decide) ?_
      refine va_lald hx hb hK hW.1 11 1 rfl rfl (by unfold vp_in; decide) dL_law_806 ?_
      refine lv_iload hx hb dL_law_807 (lv_at hl 0 rfl) ?_
      refine lv_i2l hx hb dL_law_809 rfl ?_
      refine W.lcmp hx hb dL_law_810 ?_
      refine lv_if_eq (tgt := 816) hx hb dL_law_811 (by decide) (fun hc => ?_) (fun hc => ?_)
      · have hw := hw.1 hc
        refine lv_goto (tgt := 1735) hx hb dL_law_816 (by decide) ?_
        refine W.widen (k := cells + 4) (n := slots + 24) (by omega) (by omega) ?_
        exact kk _ _ _ _ _ _ hw hW (lv_sub hl [2, 3, 4, 5, 6] rfl)
      · have hw := hw.2 hc
        refine lv_iconst (v := 0) hx hb dL_law_814 (by decide) ?_
        exact hw.elim
  · have hw := hw.2 hc
    refine lv_iconst (v := 0) hx hb dL_law_797 (by decide) ?_
    exact hw.elim
def wpl_13 (L : Nat) (xs : Nat → Int32) (σ : CS) (f : Nat → Int64) (μ : MS) (v4 : Int32) (K : CS → (Nat → Int64) → MS → Prop) : Prop := wp_X4_keep σ (fun r_1 σ_2 => wp_X5_keep μ (fun r_3 μ_4 => ((r_1 = r_3 → K σ_2 f μ_4) ∧ (¬ r_1 = r_3 → False))))
set_option maxHeartbeats 4000000 in
set_option maxRecDepth 100000 in
theorem law_c13 {p : Program} {l : Launch} {e : Env} {s : State} {m : MethodId} {below : List Frame} {meth : Method} {c : Code} {b L : Nat} {xs : Nat → Int32} (hst : l.stackTraces = false) (C0 : lw_At p s m meth c b L xs) {D : va_G} {cI cJ : ClassId} (hK : va_K D vwCl (tysIJ cI cJ) s) (hz : ZX (fun q : Nat => s.heap.size ≤ q) s s.heap) (hs : SX s) (hnc : NCX s) {a bb : Nat → Nat} {o : Nat} {Q : State → Prop} {cells slots : Nat} (hc1 : cells + 4 ≤ 601024) (hc2 : slots + 24 ≤ 7293034) {σ : CS} {f : Nat → Int64} {μ : MS} {v4 : Int32} {K : CS → (Nat → Int64) → MS → Prop} (hw : wpl_13 L xs σ f μ v4 K) {H : Heap} {locs : List Loc} {ls : Array Slot} (hW : Wd D (fun q : Nat => s.heap.size ≤ q) s.heap (hWW cI cJ a o σ f ++ mW cI cJ bb μ) H locs) (hl : lv_has ls 9 [(0, .ref b), (1, .ref (a 0)), (2, .ref (bb 0)), (3, .ref o), (4, .int v4)])
    (kk : ∀ (σ : CS) (f : Nat → Int64) (μ : MS) (H : Heap) (locs : List Loc) (ls : Array Slot), K σ f μ → Wd D (fun q : Nat => s.heap.size ≤ q) s.heap (hWW cI cJ a o σ f ++ mW cI cJ bb μ) H locs → lv_has ls 9 [(0, .ref b), (1, .ref (a 0)), (2, .ref (bb 0)), (3, .ref o), (4, .int v4)] → W p l e room_1 s m #[Value.ref b] below meth c H locs (cells + 4) (slots + 24) Q (F0 m 1735 ls [])) : W p l e room_1 s m #[Value.ref b] below meth c H locs cells slots Q (F0 m 819 ls []) := by
  obtain ⟨hx, hb, hr, hml, hown, hts0, hX, hbl, hlocks, hgv⟩ := C0
  have hts : ∀ w ∈ wsL_law, w.before #[Value.ref b] s = true := fun w h => hts0 w (wsL_law_in w h)
  have hA : ∀ q : Nat, s.heap.size ≤ q → (fun q : Nat => s.heap.size ≤ q) q := fun _ h => h
  have hbA : ¬ (fun q : Nat => s.heap.size ≤ q) b := Nat.not_le.mpr hbl
  refine lv_aload_n hx hb dL_law_819 rfl (lv_at hl 1 rfl) ?_
  rw [hWW_assoc] at hW
  refine kVL_Mi (w1 := cW cI cJ a σ) (w2 := [(o, .inl (cJ, 1, .inr (.inl f)))] ++ mW cI cJ bb μ) (As := []) (rest := []) ⟨hx, hb, hml, hown, hts⟩ (ok_X4_keep l D cI cJ a _ _ _ hw) (cwV 0 hts gL_law_X4_keep rfl rfl rfl (by decide +kernel) ⟨(Nat.le_of_ble_eq_true rfl), (Nat.le_of_ble_eq_true rfl)⟩) hK hW hA 0 rfl rfl rfl hl.1 rfl (Nat.le_of_ble_eq_true rfl) dL_law_820 ⟨by show cells + 0 ≤ 601024; omega, by show slots + 0 ≤ 7293034; omega⟩ (fun r_1 σ_2 H locs hw hW => ?_)
  rw [← hWW_assoc] at hW
  refine lv_aload_n hx hb dL_law_823 rfl (lv_at hl 2 rfl) ?_
  refine kVR_Mi (w1 := hWW cI cJ a o σ_2 f) (w2 := mW cI cJ bb μ) (As := []) (rest := [.int r_1]) ⟨hx, hb, hml, hown, hts⟩ (ok_X5_keep l D cI cJ bb _ _ _ hw) (cwV 0 hts gL_law_X5_keep rfl rfl rfl (by decide +kernel) ⟨(Nat.le_of_ble_eq_true rfl), (Nat.le_of_ble_eq_true rfl)⟩) hK hW hA 0 rfl rfl rfl hl.1 rfl (Nat.le_of_ble_eq_true rfl) dL_law_824 ⟨by show cells + 0 ≤ 601024; omega, by show slots + 0 ≤ 7293034; omega⟩ (fun r_3 μ_4 H locs hw hW => ?_)
  refine lv_icmp_eq (tgt := 1735) hx hb dL_law_827 (by decide) (fun hc => ?_) (fun hc => ?_)
  · have hw := hw.1 hc
    refine W.widen (k := cells + 4) (n := slots + 24) (by omega) (by omega) ?_
    exact kk _ _ _ _ _ _ hw hW (lv_sub hl [0, 1, 2, 3, 4] rfl)
  · have hw := hw.2 hc
    refine lv_iconst (v := 0) hx hb dL_law_830 (by decide) ?_
    exact hw.elim
def wpl_14 (L : Nat) (xs : Nat → Int32) (σ : CS) (f : Nat → Int64) (μ : MS) (v4 : Int32) (K : CS → (Nat → Int64) → MS → Prop) : Prop := wp_L_goBack σ f (fun r_1 σ_2 f_3 => wp_X5_goBack μ (fun r_4 μ_5 => wp_X5_thrown μ_5 (fun r_6 => ((r_6 = r_1 → ((¬ r_1 = 0 → K σ_2 f_3 μ_5) ∧ (r_1 = 0 → (((lg_cmp (f_3 ((0 : Int32)).toNatClampNeg) (r_4).toInt64) = 0 → K σ_2 f_3 μ_5) ∧ (¬ (lg_cmp (f_3 ((0 : Int32)).toNatClampNeg) (r_4).toInt64) = 0 → False))))) ∧ (¬ r_6 = r_1 → False)))))
set_option maxHeartbeats 4000000 in
set_option maxRecDepth 100000 in
theorem law_c14 {p : Program} {l : Launch} {e : Env} {s : State} {m : MethodId} {below : List Frame} {meth : Method} {c : Code} {b L : Nat} {xs : Nat → Int32} (hst : l.stackTraces = false) (C0 : lw_At p s m meth c b L xs) {D : va_G} {cI cJ : ClassId} (hK : va_K D vwCl (tysIJ cI cJ) s) (hz : ZX (fun q : Nat => s.heap.size ≤ q) s s.heap) (hs : SX s) (hnc : NCX s) {a bb : Nat → Nat} {o : Nat} {Q : State → Prop} {cells slots : Nat} (hc1 : cells + 4 ≤ 601024) (hc2 : slots + 24 ≤ 7293034) {σ : CS} {f : Nat → Int64} {μ : MS} {v4 : Int32} {K : CS → (Nat → Int64) → MS → Prop} (hw : wpl_14 L xs σ f μ v4 K) {H : Heap} {locs : List Loc} {ls : Array Slot} (hW : Wd D (fun q : Nat => s.heap.size ≤ q) s.heap (hWW cI cJ a o σ f ++ mW cI cJ bb μ) H locs) (hl : lv_has ls 9 [(0, .ref b), (1, .ref (a 0)), (2, .ref (bb 0)), (3, .ref o), (4, .int v4)])
    (kk : ∀ (σ : CS) (f : Nat → Int64) (μ : MS) (H : Heap) (locs : List Loc) (ls : Array Slot), K σ f μ → Wd D (fun q : Nat => s.heap.size ≤ q) s.heap (hWW cI cJ a o σ f ++ mW cI cJ bb μ) H locs → lv_has ls 9 [(0, .ref b), (1, .ref (a 0)), (2, .ref (bb 0)), (3, .ref o), (4, .int v4)] → W p l e room_1 s m #[Value.ref b] below meth c H locs (cells + 4) (slots + 24) Q (F0 m 1735 ls [])) : W p l e room_1 s m #[Value.ref b] below meth c H locs cells slots Q (F0 m 832 ls []) := by
  obtain ⟨hx, hb, hr, hml, hown, hts0, hX, hbl, hlocks, hgv⟩ := C0
  have hts : ∀ w ∈ wsL_law, w.before #[Value.ref b] s = true := fun w h => hts0 w (wsL_law_in w h)
  have hA : ∀ q : Nat, s.heap.size ≤ q → (fun q : Nat => s.heap.size ≤ q) q := fun _ h => h
  have hbA : ¬ (fun q : Nat => s.heap.size ≤ q) b := Nat.not_le.mpr hbl
  refine lv_aload_n hx hb dL_law_832 rfl (lv_at hl 1 rfl) ?_
  refine lv_aload_n hx hb dL_law_833 rfl (lv_at hl 3 rfl) ?_
  refine kSL_H (w1 := hWW cI cJ a o σ f) (w2 := mW cI cJ bb μ) (As := [.ref (a 0), .ref o]) (rest := []) ⟨hx, hb, hml, hown, hts⟩ (ok_L_goBack l hst D cI cJ a o _ _ _ _ hw) (vx_cwSW 2 hts gL_law_L_goBack rfl rfl rfl (by decide +kernel) ⟨(Nat.le_of_ble_eq_true rfl), (Nat.le_of_ble_eq_true rfl)⟩) hK hW hA hz hs hnc rfl hl.1 rfl (Nat.le_of_ble_eq_true rfl) dL_law_834 ⟨by show cells + 1 ≤ 601024; omega, by show slots + 6 ≤ 7293034; omega⟩ (fun r_1 u H locs hw hW => ?_)
  obtain ⟨σ_2, f_3⟩ := u
  refine lv_istore (lv' := [(5, .int r_1), (0, .ref b), (1, .ref (a 0)), (2, .ref (bb 0)), (3, .ref o), (4, .int v4)]) hx hb dL_law_837 hl (by decide) rfl (fun ls hl => ?_)
  refine lv_aload_n hx hb dL_law_839 rfl (lv_at hl 3 rfl) ?_
  refine kVR_Mi (w1 := hWW cI cJ a o σ_2 f_3) (w2 := mW cI cJ bb μ) (As := []) (rest := []) ⟨hx, hb, hml, hown, hts⟩ (ok_X5_goBack l D cI cJ bb _ _ _ hw) (cwV 0 hts gL_law_X5_goBack rfl rfl rfl (by decide +kernel) ⟨(Nat.le_of_ble_eq_true rfl), (Nat.le_of_ble_eq_true rfl)⟩) hK hW hA 0 rfl rfl rfl hl.1 rfl (Nat.le_of_ble_eq_true rfl) dL_law_840 ⟨by show cells + 1 + 0 ≤ 601024; omega, by show slots + 6 + 0 ≤ 7293034; omega⟩ (fun r_4 μ_5 H locs hw hW => ?_)
  refine lv_istore (lv' := [(6, .int r_4), (5, .int r_1), (0, .ref b), (1, .ref (a 0)), (2, .ref (bb 0)), (3, .ref o), (4, .int v4)]) hx hb dL_law_843 hl (by decide) rfl (fun ls hl => ?_)
  refine lv_aload_n hx hb dL_law_845 rfl (lv_at hl 4 rfl) ?_
  refine kVR_Mi (w1 := hWW cI cJ a o σ_2 f_3) (w2 := mW cI cJ bb μ_5) (As := []) (rest := []) ⟨hx, hb, hml, hown, hts⟩ (ok_X5_thrown l D cI cJ bb _ _ _ hw) (cwV 0 hts gL_law_X5_thrown rfl rfl rfl (by decide +kernel) ⟨(Nat.le_of_ble_eq_true rfl), (Nat.le_of_ble_eq_true rfl)⟩) hK hW hA 0 rfl rfl rfl hl.1 rfl (Nat.le_of_ble_eq_true rfl) dL_law_846 ⟨by show cells + 1 + 0 ≤ 601024; omega, by show slots + 6 + 0 ≤ 7293034; omega⟩ (fun r_6 _ H locs hw hW => ?_)
  refine lv_iload hx hb dL_law_849 (lv_at hl 1 rfl) ?_
  refine lv_icmp_eq (tgt := 856) hx hb dL_law_851 (by decide) (fun hc => ?_) (fun hc => ?_)
  · have hw := hw.1 hc
    refine lv_iload hx hb dL_law_856 (lv_at hl 1 rfl) ?_
    refine lv_if_ne (tgt := 873) hx hb dL_law_858 (by decide) (fun hc => ?_) (fun hc => ?_)
    · have hw := hw.1 hc
      refine lv_goto (tgt := 1735) hx hb dL_law_873 (by decide) ?_
      refine W.widen (k := cells + 4) (n := slots + 24) (by omega) (by omega) ?_
      exact kk _ _ _ _ _ _ hw hW (lv_sub hl [2, 3, 4, 5, 6] rfl)
    · have hw := hw.2 hc
      refine lv_aload_n hx hb dL_law_861 rfl (lv_at hl 5 rfl) ?_
      refine lv_iconst (v := 0) hx hb dL_law_862 (by decide) ?_
      refine va_lald hx hb hK hW.1 11 1 rfl rfl (by unfold vp_in; decide) dL_law_863 ?_
      refine lv_iload hx hb dL_law_864 (lv_at hl 0 rfl) ?_
      refine lv_i2l hx hb dL_law_866 rfl ?_
      refine W.lcmp hx hb dL_law_867 ?_
      refine lv_if_eq (tgt := 873) hx hb dL_law_868 (by decide) (fun hc => ?_) (fun hc => ?_)
      · have hw := hw.1 hc
        refine lv_goto (tgt := 1735) hx hb dL_law_873 (by decide) ?_
        refine W.widen (k := cells + 4) (n := slots + 24) (by omega) (by omega) ?_
        exact kk _ _ _ _ _ _ hw hW (lv_sub hl [2, 3, 4, 5, 6] rfl)
      · have hw := hw.2 hc
        refine lv_iconst (v := 0) hx hb dL_law_871 (by decide) ?_
        exact hw.elim
  · have hw := hw.2 hc
    refine lv_iconst (v := 0) hx hb dL_law_854 (by decide) ?_
    exact hw.elim
def wpl_15 (L : Nat) (xs : Nat → Int32) (σ : CS) (f : Nat → Int64) (μ : MS) (v4 : Int32) (K : CS → (Nat → Int64) → MS → Prop) : Prop := wp_L_undo σ f (fun r_1 σ_2 f_3 => wp_X5_undo μ (fun r_4 μ_5 => wp_X5_thrown μ_5 (fun r_6 => ((r_6 = r_1 → ((¬ r_1 = 0 → K σ_2 f_3 μ_5) ∧ (r_1 = 0 → (((lg_cmp (f_3 ((0 : Int32)).toNatClampNeg) (r_4).toInt64) = 0 → K σ_2 f_3 μ_5) ∧ (¬ (lg_cmp (f_3 ((0 : Int32)).toNatClampNeg) (r_4).toInt64) = 0 → False))))) ∧ (¬ r_6 = r_1 → False)))))
set_option maxHeartbeats 4000000 in
set_option maxRecDepth 100000 in
theorem law_c15 {p : Program} {l : Launch} {e : Env} {s : State} {m : MethodId} {below : List Frame} {meth : Method} {c : Code} {b L : Nat} {xs : Nat → Int32} (hst : l.stackTraces = false) (C0 : lw_At p s m meth c b L xs) {D : va_G} {cI cJ : ClassId} (hK : va_K D vwCl (tysIJ cI cJ) s) (hz : ZX (fun q : Nat => s.heap.size ≤ q) s s.heap) (hs : SX s) (hnc : NCX s) {a bb : Nat → Nat} {o : Nat} {Q : State → Prop} {cells slots : Nat} (hc1 : cells + 4 ≤ 601024) (hc2 : slots + 24 ≤ 7293034) {σ : CS} {f : Nat → Int64} {μ : MS} {v4 : Int32} {K : CS → (Nat → Int64) → MS → Prop} (hw : wpl_15 L xs σ f μ v4 K) {H : Heap} {locs : List Loc} {ls : Array Slot} (hW : Wd D (fun q : Nat => s.heap.size ≤ q) s.heap (hWW cI cJ a o σ f ++ mW cI cJ bb μ) H locs) (hl : lv_has ls 9 [(0, .ref b), (1, .ref (a 0)), (2, .ref (bb 0)), (3, .ref o), (4, .int v4)])
    (kk : ∀ (σ : CS) (f : Nat → Int64) (μ : MS) (H : Heap) (locs : List Loc) (ls : Array Slot), K σ f μ → Wd D (fun q : Nat => s.heap.size ≤ q) s.heap (hWW cI cJ a o σ f ++ mW cI cJ bb μ) H locs → lv_has ls 9 [(0, .ref b), (1, .ref (a 0)), (2, .ref (bb 0)), (3, .ref o), (4, .int v4)] → W p l e room_1 s m #[Value.ref b] below meth c H locs (cells + 4) (slots + 24) Q (F0 m 1735 ls [])) : W p l e room_1 s m #[Value.ref b] below meth c H locs cells slots Q (F0 m 876 ls []) := by
  obtain ⟨hx, hb, hr, hml, hown, hts0, hX, hbl, hlocks, hgv⟩ := C0
  have hts : ∀ w ∈ wsL_law, w.before #[Value.ref b] s = true := fun w h => hts0 w (wsL_law_in w h)
  have hA : ∀ q : Nat, s.heap.size ≤ q → (fun q : Nat => s.heap.size ≤ q) q := fun _ h => h
  have hbA : ¬ (fun q : Nat => s.heap.size ≤ q) b := Nat.not_le.mpr hbl
  refine lv_aload_n hx hb dL_law_876 rfl (lv_at hl 1 rfl) ?_
  refine lv_aload_n hx hb dL_law_877 rfl (lv_at hl 3 rfl) ?_
  refine kSL_H (w1 := hWW cI cJ a o σ f) (w2 := mW cI cJ bb μ) (As := [.ref (a 0), .ref o]) (rest := []) ⟨hx, hb, hml, hown, hts⟩ (ok_L_undo l hst D cI cJ a o _ _ _ _ hw) (vx_cwSW 2 hts gL_law_L_undo rfl rfl rfl (by decide +kernel) ⟨(Nat.le_of_ble_eq_true rfl), (Nat.le_of_ble_eq_true rfl)⟩) hK hW hA hz hs hnc rfl hl.1 rfl (Nat.le_of_ble_eq_true rfl) dL_law_878 ⟨by show cells + 1 ≤ 601024; omega, by show slots + 6 ≤ 7293034; omega⟩ (fun r_1 u H locs hw hW => ?_)
  obtain ⟨σ_2, f_3⟩ := u
  refine lv_istore (lv' := [(5, .int r_1), (0, .ref b), (1, .ref (a 0)), (2, .ref (bb 0)), (3, .ref o), (4, .int v4)]) hx hb dL_law_881 hl (by decide) rfl (fun ls hl => ?_)
  refine lv_aload_n hx hb dL_law_883 rfl (lv_at hl 3 rfl) ?_
  refine kVR_Mi (w1 := hWW cI cJ a o σ_2 f_3) (w2 := mW cI cJ bb μ) (As := []) (rest := []) ⟨hx, hb, hml, hown, hts⟩ (ok_X5_undo l D cI cJ bb _ _ _ hw) (cwV 0 hts gL_law_X5_undo rfl rfl rfl (by decide +kernel) ⟨(Nat.le_of_ble_eq_true rfl), (Nat.le_of_ble_eq_true rfl)⟩) hK hW hA 0 rfl rfl rfl hl.1 rfl (Nat.le_of_ble_eq_true rfl) dL_law_884 ⟨by show cells + 1 + 0 ≤ 601024; omega, by show slots + 6 + 0 ≤ 7293034; omega⟩ (fun r_4 μ_5 H locs hw hW => ?_)
  refine lv_istore (lv' := [(6, .int r_4), (5, .int r_1), (0, .ref b), (1, .ref (a 0)), (2, .ref (bb 0)), (3, .ref o), (4, .int v4)]) hx hb dL_law_887 hl (by decide) rfl (fun ls hl => ?_)
  refine lv_aload_n hx hb dL_law_889 rfl (lv_at hl 4 rfl) ?_
  refine kVR_Mi (w1 := hWW cI cJ a o σ_2 f_3) (w2 := mW cI cJ bb μ_5) (As := []) (rest := []) ⟨hx, hb, hml, hown, hts⟩ (ok_X5_thrown l D cI cJ bb _ _ _ hw) (cwV 0 hts gL_law_X5_thrown rfl rfl rfl (by decide +kernel) ⟨(Nat.le_of_ble_eq_true rfl), (Nat.le_of_ble_eq_true rfl)⟩) hK hW hA 0 rfl rfl rfl hl.1 rfl (Nat.le_of_ble_eq_true rfl) dL_law_890 ⟨by show cells + 1 + 0 ≤ 601024; omega, by show slots + 6 + 0 ≤ 7293034; omega⟩ (fun r_6 _ H locs hw hW => ?_)
  refine lv_iload hx hb dL_law_893 (lv_at hl 1 rfl) ?_
  refine lv_icmp_eq (tgt := 900) hx hb dL_law_895 (by decide) (fun hc => ?_) (fun hc => ?_)
  · have hw := hw.1 hc
    refine lv_iload hx hb dL_law_900 (lv_at hl 1 rfl) ?_
    refine lv_if_ne (tgt := 917) hx hb dL_law_902 (by decide) (fun hc => ?_) (fun hc => ?_)
    · have hw := hw.1 hc
      refine lv_goto (tgt := 1735) hx hb dL_law_917 (by decide) ?_
      refine W.widen (k := cells + 4) (n := slots + 24) (by omega) (by omega) ?_
      exact kk _ _ _ _ _ _ hw hW (lv_sub hl [2, 3, 4, 5, 6] rfl)
    · have hw := hw.2 hc
      refine lv_aload_n hx hb dL_law_905 rfl (lv_at hl 5 rfl) ?_
      refine lv_iconst (v := 0) hx hb dL_law_906 (by decide) ?_
      refine va_lald hx hb hK hW.1 11 1 rfl rfl (by unfold vp_in; decide) dL_law_907 ?_
      refine lv_iload hx hb dL_law_908 (lv_at hl 0 rfl) ?_
      refine lv_i2l hx hb dL_law_910 rfl ?_
      refine W.lcmp hx hb dL_law_911 ?_
      refine lv_if_eq (tgt := 917) hx hb dL_law_912 (by decide) (fun hc => ?_) (fun hc => ?_)
      · have hw := hw.1 hc
        refine lv_goto (tgt := 1735) hx hb dL_law_917 (by decide) ?_
        refine W.widen (k := cells + 4) (n := slots + 24) (by omega) (by omega) ?_
        exact kk _ _ _ _ _ _ hw hW (lv_sub hl [2, 3, 4, 5, 6] rfl)
      · have hw := hw.2 hc
        refine lv_iconst (v := 0) hx hb dL_law_915 (by decide) ?_
        exact hw.elim
  · have hw := hw.2 hc
    refine lv_iconst (v := 0) hx hb dL_law_898 (by decide) ?_
    exact hw.elim
def wpl_16 (L : Nat) (xs : Nat → Int32) (σ : CS) (f : Nat → Int64) (μ : MS) (v4 : Int32) (K : CS → (Nat → Int64) → MS → Prop) : Prop := vp_in (v4 + 1) L ∧ vp_in (v4 + 2) L ∧ wp_L_spot σ f (xs ((v4 + 1)).toNatClampNeg) (xs ((v4 + 2)).toNatClampNeg) (fun r_1 σ_2 f_3 => vp_in (v4 + 1) L ∧ vp_in (v4 + 2) L ∧ wp_X5_spot μ (xs ((v4 + 1)).toNatClampNeg) (xs ((v4 + 2)).toNatClampNeg) (fun r_4 μ_5 => wp_X5_thrown μ_5 (fun r_6 => ((r_6 = r_1 → ((¬ r_1 = 0 → K σ_2 f_3 μ_5) ∧ (r_1 = 0 → (((lg_cmp (f_3 ((0 : Int32)).toNatClampNeg) (r_4).toInt64) = 0 → K σ_2 f_3 μ_5) ∧ (¬ (lg_cmp (f_3 ((0 : Int32)).toNatClampNeg) (r_4).toInt64) = 0 → False))))) ∧ (¬ r_6 = r_1 → False)))))
set_option maxHeartbeats 4000000 in
set_option maxRecDepth 100000 in
theorem law_c16 {p : Program} {l : Launch} {e : Env} {s : State} {m : MethodId} {below : List Frame} {meth : Method} {c : Code} {b L : Nat} {xs : Nat → Int32} (hst : l.stackTraces = false) (C0 : lw_At p s m meth c b L xs) {D : va_G} {cI cJ : ClassId} (hK : va_K D vwCl (tysIJ cI cJ) s) (hz : ZX (fun q : Nat => s.heap.size ≤ q) s s.heap) (hs : SX s) (hnc : NCX s) {a bb : Nat → Nat} {o : Nat} {Q : State → Prop} {cells slots : Nat} (hc1 : cells + 4 ≤ 601024) (hc2 : slots + 24 ≤ 7293034) {σ : CS} {f : Nat → Int64} {μ : MS} {v4 : Int32} {K : CS → (Nat → Int64) → MS → Prop} (hw : wpl_16 L xs σ f μ v4 K) {H : Heap} {locs : List Loc} {ls : Array Slot} (hW : Wd D (fun q : Nat => s.heap.size ≤ q) s.heap (hWW cI cJ a o σ f ++ mW cI cJ bb μ) H locs) (hl : lv_has ls 9 [(0, .ref b), (1, .ref (a 0)), (2, .ref (bb 0)), (3, .ref o), (4, .int v4)])
    (kk : ∀ (σ : CS) (f : Nat → Int64) (μ : MS) (H : Heap) (locs : List Loc) (ls : Array Slot), K σ f μ → Wd D (fun q : Nat => s.heap.size ≤ q) s.heap (hWW cI cJ a o σ f ++ mW cI cJ bb μ) H locs → lv_has ls 9 [(0, .ref b), (1, .ref (a 0)), (2, .ref (bb 0)), (3, .ref o), (4, .int v4)] → W p l e room_1 s m #[Value.ref b] below meth c H locs (cells + 4) (slots + 24) Q (F0 m 1735 ls [])) : W p l e room_1 s m #[Value.ref b] below meth c H locs cells slots Q (F0 m 920 ls []) := by
  obtain ⟨hx, hb, hr, hml, hown, hts0, hX, hbl, hlocks, hgv⟩ := C0
  have hts : ∀ w ∈ wsL_law, w.before #[Value.ref b] s = true := fun w h => hts0 w (wsL_law_in w h)
  have hA : ∀ q : Nat, s.heap.size ≤ q → (fun q : Nat => s.heap.size ≤ q) q := fun _ h => h
  have hbA : ¬ (fun q : Nat => s.heap.size ≤ q) b := Nat.not_le.mpr hbl
  refine lv_aload_n hx hb dL_law_920 rfl (lv_at hl 1 rfl) ?_
  refine lv_aload_n hx hb dL_law_921 rfl (lv_at hl 0 rfl) ?_
  refine lv_iload hx hb dL_law_922 (lv_at hl 4 rfl) ?_
  refine lv_iconst (v := 1) hx hb dL_law_924 (by decide) ?_
  refine lv_iadd hx hb dL_law_925 ?_
  refine va_sld hx hb hX hbl hbA hW.2.2 hw.1 dL_law_926 ?_
  have hw := hw.2
  refine lv_aload_n hx hb dL_law_927 rfl (lv_at hl 0 rfl) ?_
  refine lv_iload hx hb dL_law_928 (lv_at hl 4 rfl) ?_
  refine lv_iconst (v := 2) hx hb dL_law_930 (by decide) ?_
  refine lv_iadd hx hb dL_law_931 ?_
  refine va_sld hx hb hX hbl hbA hW.2.2 hw.1 dL_law_932 ?_
  have hw := hw.2
  refine lv_aload_n hx hb dL_law_933 rfl (lv_at hl 3 rfl) ?_
  refine kSL_H (w1 := hWW cI cJ a o σ f) (w2 := mW cI cJ bb μ) (As := [.ref (a 0), .int (xs ((v4 + 1)).toNatClampNeg), .int (xs ((v4 + 2)).toNatClampNeg), .ref o]) (rest := []) ⟨hx, hb, hml, hown, hts⟩ (ok_L_spot l hst D cI cJ a o _ _ _ _ _ _ hw) (vx_cwSW 4 hts gL_law_L_spot rfl rfl rfl (by decide +kernel) ⟨(Nat.le_of_ble_eq_true rfl), (Nat.le_of_ble_eq_true rfl)⟩) hK hW hA hz hs hnc rfl hl.1 rfl (Nat.le_of_ble_eq_true rfl) dL_law_934 ⟨by show cells + 2 ≤ 601024; omega, by show slots + 12 ≤ 7293034; omega⟩ (fun r_1 u H locs hw hW => ?_)
  obtain ⟨σ_2, f_3⟩ := u
  refine lv_istore (lv' := [(5, .int r_1), (0, .ref b), (1, .ref (a 0)), (2, .ref (bb 0)), (3, .ref o), (4, .int v4)]) hx hb dL_law_937 hl (by decide) rfl (fun ls hl => ?_)
  refine lv_aload_n hx hb dL_law_939 rfl (lv_at hl 3 rfl) ?_
  refine lv_aload_n hx hb dL_law_940 rfl (lv_at hl 1 rfl) ?_
  refine lv_iload hx hb dL_law_941 (lv_at hl 5 rfl) ?_
  refine lv_iconst (v := 1) hx hb dL_law_943 (by decide) ?_
  refine lv_iadd hx hb dL_law_944 ?_
  refine va_sld hx hb hX hbl hbA hW.2.2 hw.1 dL_law_945 ?_
  have hw := hw.2
  refine lv_aload_n hx hb dL_law_946 rfl (lv_at hl 1 rfl) ?_
  refine lv_iload hx hb dL_law_947 (lv_at hl 5 rfl) ?_
  refine lv_iconst (v := 2) hx hb dL_law_949 (by decide) ?_
  refine lv_iadd hx hb dL_law_950 ?_
  refine va_sld hx hb hX hbl hbA hW.2.2 hw.1 dL_law_951 ?_
  have hw := hw.2
  refine kVR_Mi (w1 := hWW cI cJ a o σ_2 f_3) (w2 := mW cI cJ bb μ) (As := [.int (xs ((v4 + 1)).toNatClampNeg), .int (xs ((v4 + 2)).toNatClampNeg)]) (rest := []) ⟨hx, hb, hml, hown, hts⟩ (ok_X5_spot l D cI cJ bb _ _ _ _ _ hw) (cwV 2 hts gL_law_X5_spot rfl rfl rfl (by decide +kernel) ⟨(Nat.le_of_ble_eq_true rfl), (Nat.le_of_ble_eq_true rfl)⟩) hK hW hA 0 rfl rfl rfl hl.1 rfl (Nat.le_of_ble_eq_true rfl) dL_law_952 ⟨by show cells + 2 + 0 ≤ 601024; omega, by show slots + 12 + 0 ≤ 7293034; omega⟩ (fun r_4 μ_5 H locs hw hW => ?_)
  refine lv_istore (lv' := [(6, .int r_4), (5, .int r_1), (0, .ref b), (1, .ref (a 0)), (2, .ref (bb 0)), (3, .ref o), (4, .int v4)]) hx hb dL_law_955 hl (by decide) rfl (fun ls hl => ?_)
  refine lv_aload_n hx hb dL_law_957 rfl (lv_at hl 4 rfl) ?_
  refine kVR_Mi (w1 := hWW cI cJ a o σ_2 f_3) (w2 := mW cI cJ bb μ_5) (As := []) (rest := []) ⟨hx, hb, hml, hown, hts⟩ (ok_X5_thrown l D cI cJ bb _ _ _ hw) (cwV 0 hts gL_law_X5_thrown rfl rfl rfl (by decide +kernel) ⟨(Nat.le_of_ble_eq_true rfl), (Nat.le_of_ble_eq_true rfl)⟩) hK hW hA 0 rfl rfl rfl hl.1 rfl (Nat.le_of_ble_eq_true rfl) dL_law_958 ⟨by show cells + 2 + 0 ≤ 601024; omega, by show slots + 12 + 0 ≤ 7293034; omega⟩ (fun r_6 _ H locs hw hW => ?_)
  refine lv_iload hx hb dL_law_961 (lv_at hl 1 rfl) ?_
  refine lv_icmp_eq (tgt := 968) hx hb dL_law_963 (by decide) (fun hc => ?_) (fun hc => ?_)
  · have hw := hw.1 hc
    refine lv_iload hx hb dL_law_968 (lv_at hl 1 rfl) ?_
    refine lv_if_ne (tgt := 985) hx hb dL_law_970 (by decide) (fun hc => ?_) (fun hc => ?_)
    · have hw := hw.1 hc
      refine lv_goto (tgt := 1735) hx hb dL_law_985 (by decide) ?_
      refine W.widen (k := cells + 4) (n := slots + 24) (by omega) (by omega) ?_
      exact kk _ _ _ _ _ _ hw hW (lv_sub hl [2, 3, 4, 5, 6] rfl)
    · have hw := hw.2 hc
      refine lv_aload_n hx hb dL_law_973 rfl (lv_at hl 5 rfl) ?_
      refine lv_iconst (v := 0) hx hb dL_law_974 (by decide) ?_
      refine va_lald hx hb hK hW.1 11 1 rfl rfl (by unfold vp_in; decide) dL_law_975 ?_
      refine lv_iload hx hb dL_law_976 (lv_at hl 0 rfl) ?_
      refine lv_i2l hx hb dL_law_978 rfl ?_
      refine W.lcmp hx hb dL_law_979 ?_
      refine lv_if_eq (tgt := 985) hx hb dL_law_980 (by decide) (fun hc => ?_) (fun hc => ?_)
      · have hw := hw.1 hc
        refine lv_goto (tgt := 1735) hx hb dL_law_985 (by decide) ?_
        refine W.widen (k := cells + 4) (n := slots + 24) (by omega) (by omega) ?_
        exact kk _ _ _ _ _ _ hw hW (lv_sub hl [2, 3, 4, 5, 6] rfl)
      · have hw := hw.2 hc
        refine lv_iconst (v := 0) hx hb dL_law_983 (by decide) ?_
        exact hw.elim
  · have hw := hw.2 hc
    refine lv_iconst (v := 0) hx hb dL_law_966 (by decide) ?_
    exact hw.elim
def wpl_17 (L : Nat) (xs : Nat → Int32) (σ : CS) (f : Nat → Int64) (μ : MS) (v4 : Int32) (K : CS → (Nat → Int64) → MS → Prop) : Prop := vp_in (v4 + 1) L ∧ vp_in (v4 + 2) L ∧ wp_L_bidder σ f (xs ((v4 + 1)).toNatClampNeg) (xs ((v4 + 2)).toNatClampNeg) (fun r_1 σ_2 f_3 => vp_in (v4 + 1) L ∧ vp_in (v4 + 2) L ∧ wp_X5_bidder μ (xs ((v4 + 1)).toNatClampNeg) (xs ((v4 + 2)).toNatClampNeg) (fun r_4 μ_5 => wp_X5_thrown μ_5 (fun r_6 => ((r_6 = r_1 → ((¬ r_1 = 0 → K σ_2 f_3 μ_5) ∧ (r_1 = 0 → (((lg_cmp (f_3 ((0 : Int32)).toNatClampNeg) (r_4).toInt64) = 0 → K σ_2 f_3 μ_5) ∧ (¬ (lg_cmp (f_3 ((0 : Int32)).toNatClampNeg) (r_4).toInt64) = 0 → False))))) ∧ (¬ r_6 = r_1 → False)))))
set_option maxHeartbeats 4000000 in
set_option maxRecDepth 100000 in
theorem law_c17 {p : Program} {l : Launch} {e : Env} {s : State} {m : MethodId} {below : List Frame} {meth : Method} {c : Code} {b L : Nat} {xs : Nat → Int32} (hst : l.stackTraces = false) (C0 : lw_At p s m meth c b L xs) {D : va_G} {cI cJ : ClassId} (hK : va_K D vwCl (tysIJ cI cJ) s) (hz : ZX (fun q : Nat => s.heap.size ≤ q) s s.heap) (hs : SX s) (hnc : NCX s) {a bb : Nat → Nat} {o : Nat} {Q : State → Prop} {cells slots : Nat} (hc1 : cells + 4 ≤ 601024) (hc2 : slots + 24 ≤ 7293034) {σ : CS} {f : Nat → Int64} {μ : MS} {v4 : Int32} {K : CS → (Nat → Int64) → MS → Prop} (hw : wpl_17 L xs σ f μ v4 K) {H : Heap} {locs : List Loc} {ls : Array Slot} (hW : Wd D (fun q : Nat => s.heap.size ≤ q) s.heap (hWW cI cJ a o σ f ++ mW cI cJ bb μ) H locs) (hl : lv_has ls 9 [(0, .ref b), (1, .ref (a 0)), (2, .ref (bb 0)), (3, .ref o), (4, .int v4)])
    (kk : ∀ (σ : CS) (f : Nat → Int64) (μ : MS) (H : Heap) (locs : List Loc) (ls : Array Slot), K σ f μ → Wd D (fun q : Nat => s.heap.size ≤ q) s.heap (hWW cI cJ a o σ f ++ mW cI cJ bb μ) H locs → lv_has ls 9 [(0, .ref b), (1, .ref (a 0)), (2, .ref (bb 0)), (3, .ref o), (4, .int v4)] → W p l e room_1 s m #[Value.ref b] below meth c H locs (cells + 4) (slots + 24) Q (F0 m 1735 ls [])) : W p l e room_1 s m #[Value.ref b] below meth c H locs cells slots Q (F0 m 988 ls []) := by
  obtain ⟨hx, hb, hr, hml, hown, hts0, hX, hbl, hlocks, hgv⟩ := C0
  have hts : ∀ w ∈ wsL_law, w.before #[Value.ref b] s = true := fun w h => hts0 w (wsL_law_in w h)
  have hA : ∀ q : Nat, s.heap.size ≤ q → (fun q : Nat => s.heap.size ≤ q) q := fun _ h => h
  have hbA : ¬ (fun q : Nat => s.heap.size ≤ q) b := Nat.not_le.mpr hbl
  refine lv_aload_n hx hb dL_law_988 rfl (lv_at hl 1 rfl) ?_
  refine lv_aload_n hx hb dL_law_989 rfl (lv_at hl 0 rfl) ?_
  refine lv_iload hx hb dL_law_990 (lv_at hl 4 rfl) ?_
  refine lv_iconst (v := 1) hx hb dL_law_992 (by decide) ?_
  refine lv_iadd hx hb dL_law_993 ?_
  refine va_sld hx hb hX hbl hbA hW.2.2 hw.1 dL_law_994 ?_
  have hw := hw.2
  refine lv_aload_n hx hb dL_law_995 rfl (lv_at hl 0 rfl) ?_
  refine lv_iload hx hb dL_law_996 (lv_at hl 4 rfl) ?_
  refine lv_iconst (v := 2) hx hb dL_law_998 (by decide) ?_
  refine lv_iadd hx hb dL_law_999 ?_
  refine va_sld hx hb hX hbl hbA hW.2.2 hw.1 dL_law_1000 ?_
  have hw := hw.2
  refine lv_aload_n hx hb dL_law_1001 rfl (lv_at hl 3 rfl) ?_
  refine kSL_H (w1 := hWW cI cJ a o σ f) (w2 := mW cI cJ bb μ) (As := [.ref (a 0), .int (xs ((v4 + 1)).toNatClampNeg), .int (xs ((v4 + 2)).toNatClampNeg), .ref o]) (rest := []) ⟨hx, hb, hml, hown, hts⟩ (ok_L_bidder l hst D cI cJ a o _ _ _ _ _ _ hw) (vx_cwSW 4 hts gL_law_L_bidder rfl rfl rfl (by decide +kernel) ⟨(Nat.le_of_ble_eq_true rfl), (Nat.le_of_ble_eq_true rfl)⟩) hK hW hA hz hs hnc rfl hl.1 rfl (Nat.le_of_ble_eq_true rfl) dL_law_1002 ⟨by show cells + 2 ≤ 601024; omega, by show slots + 12 ≤ 7293034; omega⟩ (fun r_1 u H locs hw hW => ?_)
  obtain ⟨σ_2, f_3⟩ := u
  refine lv_istore (lv' := [(5, .int r_1), (0, .ref b), (1, .ref (a 0)), (2, .ref (bb 0)), (3, .ref o), (4, .int v4)]) hx hb dL_law_1005 hl (by decide) rfl (fun ls hl => ?_)
  refine lv_aload_n hx hb dL_law_1007 rfl (lv_at hl 3 rfl) ?_
  refine lv_aload_n hx hb dL_law_1008 rfl (lv_at hl 1 rfl) ?_
  refine lv_iload hx hb dL_law_1009 (lv_at hl 5 rfl) ?_
  refine lv_iconst (v := 1) hx hb dL_law_1011 (by decide) ?_
  refine lv_iadd hx hb dL_law_1012 ?_
  refine va_sld hx hb hX hbl hbA hW.2.2 hw.1 dL_law_1013 ?_
  have hw := hw.2
  refine lv_aload_n hx hb dL_law_1014 rfl (lv_at hl 1 rfl) ?_
  refine lv_iload hx hb dL_law_1015 (lv_at hl 5 rfl) ?_
  refine lv_iconst (v := 2) hx hb dL_law_1017 (by decide) ?_
  refine lv_iadd hx hb dL_law_1018 ?_
  refine va_sld hx hb hX hbl hbA hW.2.2 hw.1 dL_law_1019 ?_
  have hw := hw.2
  refine kVR_Mi (w1 := hWW cI cJ a o σ_2 f_3) (w2 := mW cI cJ bb μ) (As := [.int (xs ((v4 + 1)).toNatClampNeg), .int (xs ((v4 + 2)).toNatClampNeg)]) (rest := []) ⟨hx, hb, hml, hown, hts⟩ (ok_X5_bidder l D cI cJ bb _ _ _ _ _ hw) (cwV 2 hts gL_law_X5_bidder rfl rfl rfl (by decide +kernel) ⟨(Nat.le_of_ble_eq_true rfl), (Nat.le_of_ble_eq_true rfl)⟩) hK hW hA 0 rfl rfl rfl hl.1 rfl (Nat.le_of_ble_eq_true rfl) dL_law_1020 ⟨by show cells + 2 + 0 ≤ 601024; omega, by show slots + 12 + 0 ≤ 7293034; omega⟩ (fun r_4 μ_5 H locs hw hW => ?_)
  refine lv_istore (lv' := [(6, .int r_4), (5, .int r_1), (0, .ref b), (1, .ref (a 0)), (2, .ref (bb 0)), (3, .ref o), (4, .int v4)]) hx hb dL_law_1023 hl (by decide) rfl (fun ls hl => ?_)
  refine lv_aload_n hx hb dL_law_1025 rfl (lv_at hl 4 rfl) ?_
  refine kVR_Mi (w1 := hWW cI cJ a o σ_2 f_3) (w2 := mW cI cJ bb μ_5) (As := []) (rest := []) ⟨hx, hb, hml, hown, hts⟩ (ok_X5_thrown l D cI cJ bb _ _ _ hw) (cwV 0 hts gL_law_X5_thrown rfl rfl rfl (by decide +kernel) ⟨(Nat.le_of_ble_eq_true rfl), (Nat.le_of_ble_eq_true rfl)⟩) hK hW hA 0 rfl rfl rfl hl.1 rfl (Nat.le_of_ble_eq_true rfl) dL_law_1026 ⟨by show cells + 2 + 0 ≤ 601024; omega, by show slots + 12 + 0 ≤ 7293034; omega⟩ (fun r_6 _ H locs hw hW => ?_)
  refine lv_iload hx hb dL_law_1029 (lv_at hl 1 rfl) ?_
  refine lv_icmp_eq (tgt := 1036) hx hb dL_law_1031 (by decide) (fun hc => ?_) (fun hc => ?_)
  · have hw := hw.1 hc
    refine lv_iload hx hb dL_law_1036 (lv_at hl 1 rfl) ?_
    refine lv_if_ne (tgt := 1053) hx hb dL_law_1038 (by decide) (fun hc => ?_) (fun hc => ?_)
    · have hw := hw.1 hc
      refine lv_goto (tgt := 1735) hx hb dL_law_1053 (by decide) ?_
      refine W.widen (k := cells + 4) (n := slots + 24) (by omega) (by omega) ?_
      exact kk _ _ _ _ _ _ hw hW (lv_sub hl [2, 3, 4, 5, 6] rfl)
    · have hw := hw.2 hc
      refine lv_aload_n hx hb dL_law_1041 rfl (lv_at hl 5 rfl) ?_
      refine lv_iconst (v := 0) hx hb dL_law_1042 (by decide) ?_
      refine va_lald hx hb hK hW.1 11 1 rfl rfl (by unfold vp_in; decide) dL_law_1043 ?_
      refine lv_iload hx hb dL_law_1044 (lv_at hl 0 rfl) ?_
      refine lv_i2l hx hb dL_law_1046 rfl ?_
      refine W.lcmp hx hb dL_law_1047 ?_
      refine lv_if_eq (tgt := 1053) hx hb dL_law_1048 (by decide) (fun hc => ?_) (fun hc => ?_)
      · have hw := hw.1 hc
        refine lv_goto (tgt := 1735) hx hb dL_law_1053 (by decide) ?_
        refine W.widen (k := cells + 4) (n := slots + 24) (by omega) (by omega) ?_
        exact kk _ _ _ _ _ _ hw hW (lv_sub hl [2, 3, 4, 5, 6] rfl)
      · have hw := hw.2 hc
        refine lv_iconst (v := 0) hx hb dL_law_1051 (by decide) ?_
        exact hw.elim
  · have hw := hw.2 hc
    refine lv_iconst (v := 0) hx hb dL_law_1034 (by decide) ?_
    exact hw.elim
def wpl_18 (L : Nat) (xs : Nat → Int32) (σ : CS) (f : Nat → Int64) (μ : MS) (v4 : Int32) (K : CS → (Nat → Int64) → MS → Prop) : Prop := vp_in (v4 + 1) L ∧ vp_in (v4 + 2) L ∧ vp_in (v4 + 3) L ∧ wp_L_sealed σ f (xs ((v4 + 1)).toNatClampNeg) (xs ((v4 + 2)).toNatClampNeg) (xs ((v4 + 3)).toNatClampNeg) (fun r_1 σ_2 f_3 => vp_in (v4 + 1) L ∧ vp_in (v4 + 2) L ∧ vp_in (v4 + 3) L ∧ wp_X5_sealed μ (xs ((v4 + 1)).toNatClampNeg) (xs ((v4 + 2)).toNatClampNeg) (xs ((v4 + 3)).toNatClampNeg) (fun r_4 μ_5 => wp_X5_thrown μ_5 (fun r_6 => ((r_6 = r_1 → ((¬ r_1 = 0 → K σ_2 f_3 μ_5) ∧ (r_1 = 0 → (((lg_cmp (f_3 ((0 : Int32)).toNatClampNeg) (r_4).toInt64) = 0 → K σ_2 f_3 μ_5) ∧ (¬ (lg_cmp (f_3 ((0 : Int32)).toNatClampNeg) (r_4).toInt64) = 0 → False))))) ∧ (¬ r_6 = r_1 → False)))))
set_option maxHeartbeats 4000000 in
set_option maxRecDepth 100000 in
theorem law_c18 {p : Program} {l : Launch} {e : Env} {s : State} {m : MethodId} {below : List Frame} {meth : Method} {c : Code} {b L : Nat} {xs : Nat → Int32} (hst : l.stackTraces = false) (C0 : lw_At p s m meth c b L xs) {D : va_G} {cI cJ : ClassId} (hK : va_K D vwCl (tysIJ cI cJ) s) (hz : ZX (fun q : Nat => s.heap.size ≤ q) s s.heap) (hs : SX s) (hnc : NCX s) {a bb : Nat → Nat} {o : Nat} {Q : State → Prop} {cells slots : Nat} (hc1 : cells + 4 ≤ 601024) (hc2 : slots + 24 ≤ 7293034) {σ : CS} {f : Nat → Int64} {μ : MS} {v4 : Int32} {K : CS → (Nat → Int64) → MS → Prop} (hw : wpl_18 L xs σ f μ v4 K) {H : Heap} {locs : List Loc} {ls : Array Slot} (hW : Wd D (fun q : Nat => s.heap.size ≤ q) s.heap (hWW cI cJ a o σ f ++ mW cI cJ bb μ) H locs) (hl : lv_has ls 9 [(0, .ref b), (1, .ref (a 0)), (2, .ref (bb 0)), (3, .ref o), (4, .int v4)])
    (kk : ∀ (σ : CS) (f : Nat → Int64) (μ : MS) (H : Heap) (locs : List Loc) (ls : Array Slot), K σ f μ → Wd D (fun q : Nat => s.heap.size ≤ q) s.heap (hWW cI cJ a o σ f ++ mW cI cJ bb μ) H locs → lv_has ls 9 [(0, .ref b), (1, .ref (a 0)), (2, .ref (bb 0)), (3, .ref o), (4, .int v4)] → W p l e room_1 s m #[Value.ref b] below meth c H locs (cells + 4) (slots + 24) Q (F0 m 1735 ls [])) : W p l e room_1 s m #[Value.ref b] below meth c H locs cells slots Q (F0 m 1056 ls []) := by
  obtain ⟨hx, hb, hr, hml, hown, hts0, hX, hbl, hlocks, hgv⟩ := C0
  have hts : ∀ w ∈ wsL_law, w.before #[Value.ref b] s = true := fun w h => hts0 w (wsL_law_in w h)
  have hA : ∀ q : Nat, s.heap.size ≤ q → (fun q : Nat => s.heap.size ≤ q) q := fun _ h => h
  have hbA : ¬ (fun q : Nat => s.heap.size ≤ q) b := Nat.not_le.mpr hbl
  refine lv_aload_n hx hb dL_law_1056 rfl (lv_at hl 1 rfl) ?_
  refine lv_aload_n hx hb dL_law_1057 rfl (lv_at hl 0 rfl) ?_
  refine lv_iload hx hb dL_law_1058 (lv_at hl 4 rfl) ?_
  refine lv_iconst (v := 1) hx hb dL_law_1060 (by decide) ?_
  refine lv_iadd hx hb dL_law_1061 ?_
  refine va_sld hx hb hX hbl hbA hW.2.2 hw.1 dL_law_1062 ?_
  have hw := hw.2
  refine lv_aload_n hx hb dL_law_1063 rfl (lv_at hl 0 rfl) ?_
  refine lv_iload hx hb dL_law_1064 (lv_at hl 4 rfl) ?_
  refine lv_iconst (v := 2) hx hb dL_law_1066 (by decide) ?_
  refine lv_iadd hx hb dL_law_1067 ?_
  refine va_sld hx hb hX hbl hbA hW.2.2 hw.1 dL_law_1068 ?_
  have hw := hw.2
  refine lv_aload_n hx hb dL_law_1069 rfl (lv_at hl 0 rfl) ?_
  refine lv_iload hx hb dL_law_1070 (lv_at hl 4 rfl) ?_
  refine lv_iconst (v := 3) hx hb dL_law_1072 (by decide) ?_
  refine lv_iadd hx hb dL_law_1073 ?_
  refine va_sld hx hb hX hbl hbA hW.2.2 hw.1 dL_law_1074 ?_
  have hw := hw.2
  refine lv_aload_n hx hb dL_law_1075 rfl (lv_at hl 3 rfl) ?_
  refine kSL_H (w1 := hWW cI cJ a o σ f) (w2 := mW cI cJ bb μ) (As := [.ref (a 0), .int (xs ((v4 + 1)).toNatClampNeg), .int (xs ((v4 + 2)).toNatClampNeg), .int (xs ((v4 + 3)).toNatClampNeg), .ref o]) (rest := []) ⟨hx, hb, hml, hown, hts⟩ (ok_L_sealed l hst D cI cJ a o _ _ _ _ _ _ _ hw) (vx_cwSW 5 hts gL_law_L_sealed rfl rfl rfl (by decide +kernel) ⟨(Nat.le_of_ble_eq_true rfl), (Nat.le_of_ble_eq_true rfl)⟩) hK hW hA hz hs hnc rfl hl.1 rfl (Nat.le_of_ble_eq_true rfl) dL_law_1076 ⟨by show cells + 3 ≤ 601024; omega, by show slots + 18 ≤ 7293034; omega⟩ (fun r_1 u H locs hw hW => ?_)
  obtain ⟨σ_2, f_3⟩ := u
  refine lv_istore (lv' := [(5, .int r_1), (0, .ref b), (1, .ref (a 0)), (2, .ref (bb 0)), (3, .ref o), (4, .int v4)]) hx hb dL_law_1079 hl (by decide) rfl (fun ls hl => ?_)
  refine lv_aload_n hx hb dL_law_1081 rfl (lv_at hl 3 rfl) ?_
  refine lv_aload_n hx hb dL_law_1082 rfl (lv_at hl 1 rfl) ?_
  refine lv_iload hx hb dL_law_1083 (lv_at hl 5 rfl) ?_
  refine lv_iconst (v := 1) hx hb dL_law_1085 (by decide) ?_
  refine lv_iadd hx hb dL_law_1086 ?_
  refine va_sld hx hb hX hbl hbA hW.2.2 hw.1 dL_law_1087 ?_
  have hw := hw.2
  refine lv_aload_n hx hb dL_law_1088 rfl (lv_at hl 1 rfl) ?_
  refine lv_iload hx hb dL_law_1089 (lv_at hl 5 rfl) ?_
  refine lv_iconst (v := 2) hx hb dL_law_1091 (by decide) ?_
  refine lv_iadd hx hb dL_law_1092 ?_
  refine va_sld hx hb hX hbl hbA hW.2.2 hw.1 dL_law_1093 ?_
  have hw := hw.2
  refine lv_aload_n hx hb dL_law_1094 rfl (lv_at hl 1 rfl) ?_
  refine lv_iload hx hb dL_law_1095 (lv_at hl 5 rfl) ?_
  refine lv_iconst (v := 3) hx hb dL_law_1097 (by decide) ?_
  refine lv_iadd hx hb dL_law_1098 ?_
  refine va_sld hx hb hX hbl hbA hW.2.2 hw.1 dL_law_1099 ?_
  have hw := hw.2
  refine kVR_Mi (w1 := hWW cI cJ a o σ_2 f_3) (w2 := mW cI cJ bb μ) (As := [.int (xs ((v4 + 1)).toNatClampNeg), .int (xs ((v4 + 2)).toNatClampNeg), .int (xs ((v4 + 3)).toNatClampNeg)]) (rest := []) ⟨hx, hb, hml, hown, hts⟩ (ok_X5_sealed l D cI cJ bb _ _ _ _ _ _ hw) (cwV 3 hts gL_law_X5_sealed rfl rfl rfl (by decide +kernel) ⟨(Nat.le_of_ble_eq_true rfl), (Nat.le_of_ble_eq_true rfl)⟩) hK hW hA 0 rfl rfl rfl hl.1 rfl (Nat.le_of_ble_eq_true rfl) dL_law_1100 ⟨by show cells + 3 + 0 ≤ 601024; omega, by show slots + 18 + 0 ≤ 7293034; omega⟩ (fun r_4 μ_5 H locs hw hW => ?_)
  refine lv_istore (lv' := [(6, .int r_4), (5, .int r_1), (0, .ref b), (1, .ref (a 0)), (2, .ref (bb 0)), (3, .ref o), (4, .int v4)]) hx hb dL_law_1103 hl (by decide) rfl (fun ls hl => ?_)
  refine lv_aload_n hx hb dL_law_1105 rfl (lv_at hl 4 rfl) ?_
  refine kVR_Mi (w1 := hWW cI cJ a o σ_2 f_3) (w2 := mW cI cJ bb μ_5) (As := []) (rest := []) ⟨hx, hb, hml, hown, hts⟩ (ok_X5_thrown l D cI cJ bb _ _ _ hw) (cwV 0 hts gL_law_X5_thrown rfl rfl rfl (by decide +kernel) ⟨(Nat.le_of_ble_eq_true rfl), (Nat.le_of_ble_eq_true rfl)⟩) hK hW hA 0 rfl rfl rfl hl.1 rfl (Nat.le_of_ble_eq_true rfl) dL_law_1106 ⟨by show cells + 3 + 0 ≤ 601024; omega, by show slots + 18 + 0 ≤ 7293034; omega⟩ (fun r_6 _ H locs hw hW => ?_)
  refine lv_iload hx hb dL_law_1109 (lv_at hl 1 rfl) ?_
  refine lv_icmp_eq (tgt := 1116) hx hb dL_law_1111 (by decide) (fun hc => ?_) (fun hc => ?_)
  · have hw := hw.1 hc
    refine lv_iload hx hb dL_law_1116 (lv_at hl 1 rfl) ?_
    refine lv_if_ne (tgt := 1133) hx hb dL_law_1118 (by decide) (fun hc => ?_) (fun hc => ?_)
    · have hw := hw.1 hc
      refine lv_goto (tgt := 1735) hx hb dL_law_1133 (by decide) ?_
      refine W.widen (k := cells + 4) (n := slots + 24) (by omega) (by omega) ?_
      exact kk _ _ _ _ _ _ hw hW (lv_sub hl [2, 3, 4, 5, 6] rfl)
    · have hw := hw.2 hc
      refine lv_aload_n hx hb dL_law_1121 rfl (lv_at hl 5 rfl) ?_
      refine lv_iconst (v := 0) hx hb dL_law_1122 (by decide) ?_
      refine va_lald hx hb hK hW.1 11 1 rfl rfl (by unfold vp_in; decide) dL_law_1123 ?_
      refine lv_iload hx hb dL_law_1124 (lv_at hl 0 rfl) ?_
      refine lv_i2l hx hb dL_law_1126 rfl ?_
      refine W.lcmp hx hb dL_law_1127 ?_
      refine lv_if_eq (tgt := 1133) hx hb dL_law_1128 (by decide) (fun hc => ?_) (fun hc => ?_)
      · have hw := hw.1 hc
        refine lv_goto (tgt := 1735) hx hb dL_law_1133 (by decide) ?_
        refine W.widen (k := cells + 4) (n := slots + 24) (by omega) (by omega) ?_
        exact kk _ _ _ _ _ _ hw hW (lv_sub hl [2, 3, 4, 5, 6] rfl)
      · have hw := hw.2 hc
        refine lv_iconst (v := 0) hx hb dL_law_1131 (by decide) ?_
        exact hw.elim
  · have hw := hw.2 hc
    refine lv_iconst (v := 0) hx hb dL_law_1114 (by decide) ?_
    exact hw.elim
def wpl_19 (L : Nat) (xs : Nat → Int32) (σ : CS) (f : Nat → Int64) (μ : MS) (v4 : Int32) (K : CS → (Nat → Int64) → MS → Prop) : Prop := vp_in (v4 + 1) L ∧ wp_L_count σ f (xs ((v4 + 1)).toNatClampNeg) (fun r_1 σ_2 f_3 => vp_in (v4 + 1) L ∧ wp_X5_count μ (xs ((v4 + 1)).toNatClampNeg) (fun r_4 μ_5 => wp_X5_thrown μ_5 (fun r_6 => ((r_6 = r_1 → ((¬ r_1 = 0 → K σ_2 f_3 μ_5) ∧ (r_1 = 0 → (((lg_cmp (f_3 ((0 : Int32)).toNatClampNeg) (r_4).toInt64) = 0 → K σ_2 f_3 μ_5) ∧ (¬ (lg_cmp (f_3 ((0 : Int32)).toNatClampNeg) (r_4).toInt64) = 0 → False))))) ∧ (¬ r_6 = r_1 → False)))))
set_option maxHeartbeats 4000000 in
set_option maxRecDepth 100000 in
theorem law_c19 {p : Program} {l : Launch} {e : Env} {s : State} {m : MethodId} {below : List Frame} {meth : Method} {c : Code} {b L : Nat} {xs : Nat → Int32} (hst : l.stackTraces = false) (C0 : lw_At p s m meth c b L xs) {D : va_G} {cI cJ : ClassId} (hK : va_K D vwCl (tysIJ cI cJ) s) (hz : ZX (fun q : Nat => s.heap.size ≤ q) s s.heap) (hs : SX s) (hnc : NCX s) {a bb : Nat → Nat} {o : Nat} {Q : State → Prop} {cells slots : Nat} (hc1 : cells + 4 ≤ 601024) (hc2 : slots + 24 ≤ 7293034) {σ : CS} {f : Nat → Int64} {μ : MS} {v4 : Int32} {K : CS → (Nat → Int64) → MS → Prop} (hw : wpl_19 L xs σ f μ v4 K) {H : Heap} {locs : List Loc} {ls : Array Slot} (hW : Wd D (fun q : Nat => s.heap.size ≤ q) s.heap (hWW cI cJ a o σ f ++ mW cI cJ bb μ) H locs) (hl : lv_has ls 9 [(0, .ref b), (1, .ref (a 0)), (2, .ref (bb 0)), (3, .ref o), (4, .int v4)])
    (kk : ∀ (σ : CS) (f : Nat → Int64) (μ : MS) (H : Heap) (locs : List Loc) (ls : Array Slot), K σ f μ → Wd D (fun q : Nat => s.heap.size ≤ q) s.heap (hWW cI cJ a o σ f ++ mW cI cJ bb μ) H locs → lv_has ls 9 [(0, .ref b), (1, .ref (a 0)), (2, .ref (bb 0)), (3, .ref o), (4, .int v4)] → W p l e room_1 s m #[Value.ref b] below meth c H locs (cells + 4) (slots + 24) Q (F0 m 1735 ls [])) : W p l e room_1 s m #[Value.ref b] below meth c H locs cells slots Q (F0 m 1136 ls []) := by
  obtain ⟨hx, hb, hr, hml, hown, hts0, hX, hbl, hlocks, hgv⟩ := C0
  have hts : ∀ w ∈ wsL_law, w.before #[Value.ref b] s = true := fun w h => hts0 w (wsL_law_in w h)
  have hA : ∀ q : Nat, s.heap.size ≤ q → (fun q : Nat => s.heap.size ≤ q) q := fun _ h => h
  have hbA : ¬ (fun q : Nat => s.heap.size ≤ q) b := Nat.not_le.mpr hbl
  refine lv_aload_n hx hb dL_law_1136 rfl (lv_at hl 1 rfl) ?_
  refine lv_aload_n hx hb dL_law_1137 rfl (lv_at hl 0 rfl) ?_
  refine lv_iload hx hb dL_law_1138 (lv_at hl 4 rfl) ?_
  refine lv_iconst (v := 1) hx hb dL_law_1140 (by decide) ?_
  refine lv_iadd hx hb dL_law_1141 ?_
  refine va_sld hx hb hX hbl hbA hW.2.2 hw.1 dL_law_1142 ?_
  have hw := hw.2
  refine lv_aload_n hx hb dL_law_1143 rfl (lv_at hl 3 rfl) ?_
  refine kSL_H (w1 := hWW cI cJ a o σ f) (w2 := mW cI cJ bb μ) (As := [.ref (a 0), .int (xs ((v4 + 1)).toNatClampNeg), .ref o]) (rest := []) ⟨hx, hb, hml, hown, hts⟩ (ok_L_count l hst D cI cJ a o _ _ _ _ _ hw) (vx_cwSW 3 hts gL_law_L_count rfl rfl rfl (by decide +kernel) ⟨(Nat.le_of_ble_eq_true rfl), (Nat.le_of_ble_eq_true rfl)⟩) hK hW hA hz hs hnc rfl hl.1 rfl (Nat.le_of_ble_eq_true rfl) dL_law_1144 ⟨by show cells + 1 ≤ 601024; omega, by show slots + 6 ≤ 7293034; omega⟩ (fun r_1 u H locs hw hW => ?_)
  obtain ⟨σ_2, f_3⟩ := u
  refine lv_istore (lv' := [(5, .int r_1), (0, .ref b), (1, .ref (a 0)), (2, .ref (bb 0)), (3, .ref o), (4, .int v4)]) hx hb dL_law_1147 hl (by decide) rfl (fun ls hl => ?_)
  refine lv_aload_n hx hb dL_law_1149 rfl (lv_at hl 3 rfl) ?_
  refine lv_aload_n hx hb dL_law_1150 rfl (lv_at hl 1 rfl) ?_
  refine lv_iload hx hb dL_law_1151 (lv_at hl 5 rfl) ?_
  refine lv_iconst (v := 1) hx hb dL_law_1153 (by decide) ?_
  refine lv_iadd hx hb dL_law_1154 ?_
  refine va_sld hx hb hX hbl hbA hW.2.2 hw.1 dL_law_1155 ?_
  have hw := hw.2
  refine kVR_Mi (w1 := hWW cI cJ a o σ_2 f_3) (w2 := mW cI cJ bb μ) (As := [.int (xs ((v4 + 1)).toNatClampNeg)]) (rest := []) ⟨hx, hb, hml, hown, hts⟩ (ok_X5_count l D cI cJ bb _ _ _ _ hw) (cwV 1 hts gL_law_X5_count rfl rfl rfl (by decide +kernel) ⟨(Nat.le_of_ble_eq_true rfl), (Nat.le_of_ble_eq_true rfl)⟩) hK hW hA 0 rfl rfl rfl hl.1 rfl (Nat.le_of_ble_eq_true rfl) dL_law_1156 ⟨by show cells + 1 + 0 ≤ 601024; omega, by show slots + 6 + 0 ≤ 7293034; omega⟩ (fun r_4 μ_5 H locs hw hW => ?_)
  refine lv_istore (lv' := [(6, .int r_4), (5, .int r_1), (0, .ref b), (1, .ref (a 0)), (2, .ref (bb 0)), (3, .ref o), (4, .int v4)]) hx hb dL_law_1159 hl (by decide) rfl (fun ls hl => ?_)
  refine lv_aload_n hx hb dL_law_1161 rfl (lv_at hl 4 rfl) ?_
  refine kVR_Mi (w1 := hWW cI cJ a o σ_2 f_3) (w2 := mW cI cJ bb μ_5) (As := []) (rest := []) ⟨hx, hb, hml, hown, hts⟩ (ok_X5_thrown l D cI cJ bb _ _ _ hw) (cwV 0 hts gL_law_X5_thrown rfl rfl rfl (by decide +kernel) ⟨(Nat.le_of_ble_eq_true rfl), (Nat.le_of_ble_eq_true rfl)⟩) hK hW hA 0 rfl rfl rfl hl.1 rfl (Nat.le_of_ble_eq_true rfl) dL_law_1162 ⟨by show cells + 1 + 0 ≤ 601024; omega, by show slots + 6 + 0 ≤ 7293034; omega⟩ (fun r_6 _ H locs hw hW => ?_)
  refine lv_iload hx hb dL_law_1165 (lv_at hl 1 rfl) ?_
  refine lv_icmp_eq (tgt := 1172) hx hb dL_law_1167 (by decide) (fun hc => ?_) (fun hc => ?_)
  · have hw := hw.1 hc
    refine lv_iload hx hb dL_law_1172 (lv_at hl 1 rfl) ?_
    refine lv_if_ne (tgt := 1189) hx hb dL_law_1174 (by decide) (fun hc => ?_) (fun hc => ?_)
    · have hw := hw.1 hc
      refine lv_goto (tgt := 1735) hx hb dL_law_1189 (by decide) ?_
      refine W.widen (k := cells + 4) (n := slots + 24) (by omega) (by omega) ?_
      exact kk _ _ _ _ _ _ hw hW (lv_sub hl [2, 3, 4, 5, 6] rfl)
    · have hw := hw.2 hc
      refine lv_aload_n hx hb dL_law_1177 rfl (lv_at hl 5 rfl) ?_
      refine lv_iconst (v := 0) hx hb dL_law_1178 (by decide) ?_
      refine va_lald hx hb hK hW.1 11 1 rfl rfl (by unfold vp_in; decide) dL_law_1179 ?_
      refine lv_iload hx hb dL_law_1180 (lv_at hl 0 rfl) ?_
      refine lv_i2l hx hb dL_law_1182 rfl ?_
      refine W.lcmp hx hb dL_law_1183 ?_
      refine lv_if_eq (tgt := 1189) hx hb dL_law_1184 (by decide) (fun hc => ?_) (fun hc => ?_)
      · have hw := hw.1 hc
        refine lv_goto (tgt := 1735) hx hb dL_law_1189 (by decide) ?_
        refine W.widen (k := cells + 4) (n := slots + 24) (by omega) (by omega) ?_
        exact kk _ _ _ _ _ _ hw hW (lv_sub hl [2, 3, 4, 5, 6] rfl)
      · have hw := hw.2 hc
        refine lv_iconst (v := 0) hx hb dL_law_1187 (by decide) ?_
        exact hw.elim
  · have hw := hw.2 hc
    refine lv_iconst (v := 0) hx hb dL_law_1170 (by decide) ?_
    exact hw.elim
def wpl_20 (L : Nat) (xs : Nat → Int32) (σ : CS) (f : Nat → Int64) (μ : MS) (v4 : Int32) (K : CS → (Nat → Int64) → MS → Prop) : Prop := vp_in (v4 + 1) L ∧ wp_L_setting σ f (xs ((v4 + 1)).toNatClampNeg) (fun r_1 σ_2 f_3 => vp_in (v4 + 1) L ∧ wp_X5_setting μ (xs ((v4 + 1)).toNatClampNeg) (fun r_4 μ_5 => wp_X5_thrown μ_5 (fun r_6 => ((r_6 = r_1 → ((¬ r_1 = 0 → K σ_2 f_3 μ_5) ∧ (r_1 = 0 → (((lg_cmp (f_3 ((0 : Int32)).toNatClampNeg) (r_4).toInt64) = 0 → K σ_2 f_3 μ_5) ∧ (¬ (lg_cmp (f_3 ((0 : Int32)).toNatClampNeg) (r_4).toInt64) = 0 → False))))) ∧ (¬ r_6 = r_1 → False)))))
set_option maxHeartbeats 4000000 in
set_option maxRecDepth 100000 in
theorem law_c20 {p : Program} {l : Launch} {e : Env} {s : State} {m : MethodId} {below : List Frame} {meth : Method} {c : Code} {b L : Nat} {xs : Nat → Int32} (hst : l.stackTraces = false) (C0 : lw_At p s m meth c b L xs) {D : va_G} {cI cJ : ClassId} (hK : va_K D vwCl (tysIJ cI cJ) s) (hz : ZX (fun q : Nat => s.heap.size ≤ q) s s.heap) (hs : SX s) (hnc : NCX s) {a bb : Nat → Nat} {o : Nat} {Q : State → Prop} {cells slots : Nat} (hc1 : cells + 4 ≤ 601024) (hc2 : slots + 24 ≤ 7293034) {σ : CS} {f : Nat → Int64} {μ : MS} {v4 : Int32} {K : CS → (Nat → Int64) → MS → Prop} (hw : wpl_20 L xs σ f μ v4 K) {H : Heap} {locs : List Loc} {ls : Array Slot} (hW : Wd D (fun q : Nat => s.heap.size ≤ q) s.heap (hWW cI cJ a o σ f ++ mW cI cJ bb μ) H locs) (hl : lv_has ls 9 [(0, .ref b), (1, .ref (a 0)), (2, .ref (bb 0)), (3, .ref o), (4, .int v4)])
    (kk : ∀ (σ : CS) (f : Nat → Int64) (μ : MS) (H : Heap) (locs : List Loc) (ls : Array Slot), K σ f μ → Wd D (fun q : Nat => s.heap.size ≤ q) s.heap (hWW cI cJ a o σ f ++ mW cI cJ bb μ) H locs → lv_has ls 9 [(0, .ref b), (1, .ref (a 0)), (2, .ref (bb 0)), (3, .ref o), (4, .int v4)] → W p l e room_1 s m #[Value.ref b] below meth c H locs (cells + 4) (slots + 24) Q (F0 m 1735 ls [])) : W p l e room_1 s m #[Value.ref b] below meth c H locs cells slots Q (F0 m 1192 ls []) := by
  obtain ⟨hx, hb, hr, hml, hown, hts0, hX, hbl, hlocks, hgv⟩ := C0
  have hts : ∀ w ∈ wsL_law, w.before #[Value.ref b] s = true := fun w h => hts0 w (wsL_law_in w h)
  have hA : ∀ q : Nat, s.heap.size ≤ q → (fun q : Nat => s.heap.size ≤ q) q := fun _ h => h
  have hbA : ¬ (fun q : Nat => s.heap.size ≤ q) b := Nat.not_le.mpr hbl
  refine lv_aload_n hx hb dL_law_1192 rfl (lv_at hl 1 rfl) ?_
  refine lv_aload_n hx hb dL_law_1193 rfl (lv_at hl 0 rfl) ?_
  refine lv_iload hx hb dL_law_1194 (lv_at hl 4 rfl) ?_
  refine lv_iconst (v := 1) hx hb dL_law_1196 (by decide) ?_
  refine lv_iadd hx hb dL_law_1197 ?_
  refine va_sld hx hb hX hbl hbA hW.2.2 hw.1 dL_law_1198 ?_
  have hw := hw.2
  refine lv_aload_n hx hb dL_law_1199 rfl (lv_at hl 3 rfl) ?_
  refine kSL_H (w1 := hWW cI cJ a o σ f) (w2 := mW cI cJ bb μ) (As := [.ref (a 0), .int (xs ((v4 + 1)).toNatClampNeg), .ref o]) (rest := []) ⟨hx, hb, hml, hown, hts⟩ (ok_L_setting l hst D cI cJ a o _ _ _ _ _ hw) (vx_cwSW 3 hts gL_law_L_setting rfl rfl rfl (by decide +kernel) ⟨(Nat.le_of_ble_eq_true rfl), (Nat.le_of_ble_eq_true rfl)⟩) hK hW hA hz hs hnc rfl hl.1 rfl (Nat.le_of_ble_eq_true rfl) dL_law_1200 ⟨by show cells + 1 ≤ 601024; omega, by show slots + 6 ≤ 7293034; omega⟩ (fun r_1 u H locs hw hW => ?_)
  obtain ⟨σ_2, f_3⟩ := u
  refine lv_istore (lv' := [(5, .int r_1), (0, .ref b), (1, .ref (a 0)), (2, .ref (bb 0)), (3, .ref o), (4, .int v4)]) hx hb dL_law_1203 hl (by decide) rfl (fun ls hl => ?_)
  refine lv_aload_n hx hb dL_law_1205 rfl (lv_at hl 3 rfl) ?_
  refine lv_aload_n hx hb dL_law_1206 rfl (lv_at hl 1 rfl) ?_
  refine lv_iload hx hb dL_law_1207 (lv_at hl 5 rfl) ?_
  refine lv_iconst (v := 1) hx hb dL_law_1209 (by decide) ?_
  refine lv_iadd hx hb dL_law_1210 ?_
  refine va_sld hx hb hX hbl hbA hW.2.2 hw.1 dL_law_1211 ?_
  have hw := hw.2
  refine kVR_Mi (w1 := hWW cI cJ a o σ_2 f_3) (w2 := mW cI cJ bb μ) (As := [.int (xs ((v4 + 1)).toNatClampNeg)]) (rest := []) ⟨hx, hb, hml, hown, hts⟩ (ok_X5_setting l D cI cJ bb _ _ _ _ hw) (cwV 1 hts gL_law_X5_setting rfl rfl rfl (by decide +kernel) ⟨(Nat.le_of_ble_eq_true rfl), (Nat.le_of_ble_eq_true rfl)⟩) hK hW hA 0 rfl rfl rfl hl.1 rfl (Nat.le_of_ble_eq_true rfl) dL_law_1212 ⟨by show cells + 1 + 0 ≤ 601024; omega, by show slots + 6 + 0 ≤ 7293034; omega⟩ (fun r_4 μ_5 H locs hw hW => ?_)
  refine lv_istore (lv' := [(6, .int r_4), (5, .int r_1), (0, .ref b), (1, .ref (a 0)), (2, .ref (bb 0)), (3, .ref o), (4, .int v4)]) hx hb dL_law_1215 hl (by decide) rfl (fun ls hl => ?_)
  refine lv_aload_n hx hb dL_law_1217 rfl (lv_at hl 4 rfl) ?_
  refine kVR_Mi (w1 := hWW cI cJ a o σ_2 f_3) (w2 := mW cI cJ bb μ_5) (As := []) (rest := []) ⟨hx, hb, hml, hown, hts⟩ (ok_X5_thrown l D cI cJ bb _ _ _ hw) (cwV 0 hts gL_law_X5_thrown rfl rfl rfl (by decide +kernel) ⟨(Nat.le_of_ble_eq_true rfl), (Nat.le_of_ble_eq_true rfl)⟩) hK hW hA 0 rfl rfl rfl hl.1 rfl (Nat.le_of_ble_eq_true rfl) dL_law_1218 ⟨by show cells + 1 + 0 ≤ 601024; omega, by show slots + 6 + 0 ≤ 7293034; omega⟩ (fun r_6 _ H locs hw hW => ?_)
  refine lv_iload hx hb dL_law_1221 (lv_at hl 1 rfl) ?_
  refine lv_icmp_eq (tgt := 1228) hx hb dL_law_1223 (by decide) (fun hc => ?_) (fun hc => ?_)
  · have hw := hw.1 hc
    refine lv_iload hx hb dL_law_1228 (lv_at hl 1 rfl) ?_
    refine lv_if_ne (tgt := 1245) hx hb dL_law_1230 (by decide) (fun hc => ?_) (fun hc => ?_)
    · have hw := hw.1 hc
      refine lv_goto (tgt := 1735) hx hb dL_law_1245 (by decide) ?_
      refine W.widen (k := cells + 4) (n := slots + 24) (by omega) (by omega) ?_
      exact kk _ _ _ _ _ _ hw hW (lv_sub hl [2, 3, 4, 5, 6] rfl)
    · have hw := hw.2 hc
      refine lv_aload_n hx hb dL_law_1233 rfl (lv_at hl 5 rfl) ?_
      refine lv_iconst (v := 0) hx hb dL_law_1234 (by decide) ?_
      refine va_lald hx hb hK hW.1 11 1 rfl rfl (by unfold vp_in; decide) dL_law_1235 ?_
      refine lv_iload hx hb dL_law_1236 (lv_at hl 0 rfl) ?_
      refine lv_i2l hx hb dL_law_1238 rfl ?_
      refine W.lcmp hx hb dL_law_1239 ?_
      refine lv_if_eq (tgt := 1245) hx hb dL_law_1240 (by decide) (fun hc => ?_) (fun hc => ?_)
      · have hw := hw.1 hc
        refine lv_goto (tgt := 1735) hx hb dL_law_1245 (by decide) ?_
        refine W.widen (k := cells + 4) (n := slots + 24) (by omega) (by omega) ?_
        exact kk _ _ _ _ _ _ hw hW (lv_sub hl [2, 3, 4, 5, 6] rfl)
      · have hw := hw.2 hc
        refine lv_iconst (v := 0) hx hb dL_law_1243 (by decide) ?_
        exact hw.elim
  · have hw := hw.2 hc
    refine lv_iconst (v := 0) hx hb dL_law_1226 (by decide) ?_
    exact hw.elim
def wpl_21 (L : Nat) (xs : Nat → Int32) (σ : CS) (f : Nat → Int64) (μ : MS) (v4 : Int32) (K : CS → (Nat → Int64) → MS → Prop) : Prop := vp_in (v4 + 1) L ∧ vp_in (v4 + 2) L ∧ vp_in (v4 + 3) L ∧ wp_L_why σ f (xs ((v4 + 1)).toNatClampNeg) (xs ((v4 + 2)).toNatClampNeg) (xs ((v4 + 3)).toNatClampNeg) (fun r_1 σ_2 f_3 => vp_in (v4 + 1) L ∧ vp_in (v4 + 2) L ∧ vp_in (v4 + 3) L ∧ wp_X5_why μ (xs ((v4 + 1)).toNatClampNeg) (xs ((v4 + 2)).toNatClampNeg) (xs ((v4 + 3)).toNatClampNeg) (fun r_4 μ_5 => wp_X5_thrown μ_5 (fun r_6 => ((r_6 = r_1 → ((¬ r_1 = 0 → K σ_2 f_3 μ_5) ∧ (r_1 = 0 → (((lg_cmp (f_3 ((0 : Int32)).toNatClampNeg) (r_4).toInt64) = 0 → K σ_2 f_3 μ_5) ∧ (¬ (lg_cmp (f_3 ((0 : Int32)).toNatClampNeg) (r_4).toInt64) = 0 → False))))) ∧ (¬ r_6 = r_1 → False)))))
set_option maxHeartbeats 4000000 in
set_option maxRecDepth 100000 in
theorem law_c21 {p : Program} {l : Launch} {e : Env} {s : State} {m : MethodId} {below : List Frame} {meth : Method} {c : Code} {b L : Nat} {xs : Nat → Int32} (hst : l.stackTraces = false) (C0 : lw_At p s m meth c b L xs) {D : va_G} {cI cJ : ClassId} (hK : va_K D vwCl (tysIJ cI cJ) s) (hz : ZX (fun q : Nat => s.heap.size ≤ q) s s.heap) (hs : SX s) (hnc : NCX s) {a bb : Nat → Nat} {o : Nat} {Q : State → Prop} {cells slots : Nat} (hc1 : cells + 4 ≤ 601024) (hc2 : slots + 24 ≤ 7293034) {σ : CS} {f : Nat → Int64} {μ : MS} {v4 : Int32} {K : CS → (Nat → Int64) → MS → Prop} (hw : wpl_21 L xs σ f μ v4 K) {H : Heap} {locs : List Loc} {ls : Array Slot} (hW : Wd D (fun q : Nat => s.heap.size ≤ q) s.heap (hWW cI cJ a o σ f ++ mW cI cJ bb μ) H locs) (hl : lv_has ls 9 [(0, .ref b), (1, .ref (a 0)), (2, .ref (bb 0)), (3, .ref o), (4, .int v4)])
    (kk : ∀ (σ : CS) (f : Nat → Int64) (μ : MS) (H : Heap) (locs : List Loc) (ls : Array Slot), K σ f μ → Wd D (fun q : Nat => s.heap.size ≤ q) s.heap (hWW cI cJ a o σ f ++ mW cI cJ bb μ) H locs → lv_has ls 9 [(0, .ref b), (1, .ref (a 0)), (2, .ref (bb 0)), (3, .ref o), (4, .int v4)] → W p l e room_1 s m #[Value.ref b] below meth c H locs (cells + 4) (slots + 24) Q (F0 m 1735 ls [])) : W p l e room_1 s m #[Value.ref b] below meth c H locs cells slots Q (F0 m 1248 ls []) := by
  obtain ⟨hx, hb, hr, hml, hown, hts0, hX, hbl, hlocks, hgv⟩ := C0
  have hts : ∀ w ∈ wsL_law, w.before #[Value.ref b] s = true := fun w h => hts0 w (wsL_law_in w h)
  have hA : ∀ q : Nat, s.heap.size ≤ q → (fun q : Nat => s.heap.size ≤ q) q := fun _ h => h
  have hbA : ¬ (fun q : Nat => s.heap.size ≤ q) b := Nat.not_le.mpr hbl
  refine lv_aload_n hx hb dL_law_1248 rfl (lv_at hl 1 rfl) ?_
  refine lv_aload_n hx hb dL_law_1249 rfl (lv_at hl 0 rfl) ?_
  refine lv_iload hx hb dL_law_1250 (lv_at hl 4 rfl) ?_
  refine lv_iconst (v := 1) hx hb dL_law_1252 (by decide) ?_
  refine lv_iadd hx hb dL_law_1253 ?_
  refine va_sld hx hb hX hbl hbA hW.2.2 hw.1 dL_law_1254 ?_
  have hw := hw.2
  refine lv_aload_n hx hb dL_law_1255 rfl (lv_at hl 0 rfl) ?_
  refine lv_iload hx hb dL_law_1256 (lv_at hl 4 rfl) ?_
  refine lv_iconst (v := 2) hx hb dL_law_1258 (by decide) ?_
  refine lv_iadd hx hb dL_law_1259 ?_
  refine va_sld hx hb hX hbl hbA hW.2.2 hw.1 dL_law_1260 ?_
  have hw := hw.2
  refine lv_aload_n hx hb dL_law_1261 rfl (lv_at hl 0 rfl) ?_
  refine lv_iload hx hb dL_law_1262 (lv_at hl 4 rfl) ?_
  refine lv_iconst (v := 3) hx hb dL_law_1264 (by decide) ?_
  refine lv_iadd hx hb dL_law_1265 ?_
  refine va_sld hx hb hX hbl hbA hW.2.2 hw.1 dL_law_1266 ?_
  have hw := hw.2
  refine lv_aload_n hx hb dL_law_1267 rfl (lv_at hl 3 rfl) ?_
  refine kSL_H (w1 := hWW cI cJ a o σ f) (w2 := mW cI cJ bb μ) (As := [.ref (a 0), .int (xs ((v4 + 1)).toNatClampNeg), .int (xs ((v4 + 2)).toNatClampNeg), .int (xs ((v4 + 3)).toNatClampNeg), .ref o]) (rest := []) ⟨hx, hb, hml, hown, hts⟩ (ok_L_why l hst D cI cJ a o _ _ _ _ _ _ _ hw) (vx_cwSW 5 hts gL_law_L_why rfl rfl rfl (by decide +kernel) ⟨(Nat.le_of_ble_eq_true rfl), (Nat.le_of_ble_eq_true rfl)⟩) hK hW hA hz hs hnc rfl hl.1 rfl (Nat.le_of_ble_eq_true rfl) dL_law_1268 ⟨by show cells + 3 ≤ 601024; omega, by show slots + 18 ≤ 7293034; omega⟩ (fun r_1 u H locs hw hW => ?_)
  obtain ⟨σ_2, f_3⟩ := u
  refine lv_istore (lv' := [(5, .int r_1), (0, .ref b), (1, .ref (a 0)), (2, .ref (bb 0)), (3, .ref o), (4, .int v4)]) hx hb dL_law_1271 hl (by decide) rfl (fun ls hl => ?_)
  refine lv_aload_n hx hb dL_law_1273 rfl (lv_at hl 3 rfl) ?_
  refine lv_aload_n hx hb dL_law_1274 rfl (lv_at hl 1 rfl) ?_
  refine lv_iload hx hb dL_law_1275 (lv_at hl 5 rfl) ?_
  refine lv_iconst (v := 1) hx hb dL_law_1277 (by decide) ?_
  refine lv_iadd hx hb dL_law_1278 ?_
  refine va_sld hx hb hX hbl hbA hW.2.2 hw.1 dL_law_1279 ?_
  have hw := hw.2
  refine lv_aload_n hx hb dL_law_1280 rfl (lv_at hl 1 rfl) ?_
  refine lv_iload hx hb dL_law_1281 (lv_at hl 5 rfl) ?_
  refine lv_iconst (v := 2) hx hb dL_law_1283 (by decide) ?_
  refine lv_iadd hx hb dL_law_1284 ?_
  refine va_sld hx hb hX hbl hbA hW.2.2 hw.1 dL_law_1285 ?_
  have hw := hw.2
  refine lv_aload_n hx hb dL_law_1286 rfl (lv_at hl 1 rfl) ?_
  refine lv_iload hx hb dL_law_1287 (lv_at hl 5 rfl) ?_
  refine lv_iconst (v := 3) hx hb dL_law_1289 (by decide) ?_
  refine lv_iadd hx hb dL_law_1290 ?_
  refine va_sld hx hb hX hbl hbA hW.2.2 hw.1 dL_law_1291 ?_
  have hw := hw.2
  refine kVR_Mi (w1 := hWW cI cJ a o σ_2 f_3) (w2 := mW cI cJ bb μ) (As := [.int (xs ((v4 + 1)).toNatClampNeg), .int (xs ((v4 + 2)).toNatClampNeg), .int (xs ((v4 + 3)).toNatClampNeg)]) (rest := []) ⟨hx, hb, hml, hown, hts⟩ (ok_X5_why l D cI cJ bb _ _ _ _ _ _ hw) (cwV 3 hts gL_law_X5_why rfl rfl rfl (by decide +kernel) ⟨(Nat.le_of_ble_eq_true rfl), (Nat.le_of_ble_eq_true rfl)⟩) hK hW hA 0 rfl rfl rfl hl.1 rfl (Nat.le_of_ble_eq_true rfl) dL_law_1292 ⟨by show cells + 3 + 0 ≤ 601024; omega, by show slots + 18 + 0 ≤ 7293034; omega⟩ (fun r_4 μ_5 H locs hw hW => ?_)
  refine lv_istore (lv' := [(6, .int r_4), (5, .int r_1), (0, .ref b), (1, .ref (a 0)), (2, .ref (bb 0)), (3, .ref o), (4, .int v4)]) hx hb dL_law_1295 hl (by decide) rfl (fun ls hl => ?_)
  refine lv_aload_n hx hb dL_law_1297 rfl (lv_at hl 4 rfl) ?_
  refine kVR_Mi (w1 := hWW cI cJ a o σ_2 f_3) (w2 := mW cI cJ bb μ_5) (As := []) (rest := []) ⟨hx, hb, hml, hown, hts⟩ (ok_X5_thrown l D cI cJ bb _ _ _ hw) (cwV 0 hts gL_law_X5_thrown rfl rfl rfl (by decide +kernel) ⟨(Nat.le_of_ble_eq_true rfl), (Nat.le_of_ble_eq_true rfl)⟩) hK hW hA 0 rfl rfl rfl hl.1 rfl (Nat.le_of_ble_eq_true rfl) dL_law_1298 ⟨by show cells + 3 + 0 ≤ 601024; omega, by show slots + 18 + 0 ≤ 7293034; omega⟩ (fun r_6 _ H locs hw hW => ?_)
  refine lv_iload hx hb dL_law_1301 (lv_at hl 1 rfl) ?_
  refine lv_icmp_eq (tgt := 1308) hx hb dL_law_1303 (by decide) (fun hc => ?_) (fun hc => ?_)
  · have hw := hw.1 hc
    refine lv_iload hx hb dL_law_1308 (lv_at hl 1 rfl) ?_
    refine lv_if_ne (tgt := 1325) hx hb dL_law_1310 (by decide) (fun hc => ?_) (fun hc => ?_)
    · have hw := hw.1 hc
      refine lv_goto (tgt := 1735) hx hb dL_law_1325 (by decide) ?_
      refine W.widen (k := cells + 4) (n := slots + 24) (by omega) (by omega) ?_
      exact kk _ _ _ _ _ _ hw hW (lv_sub hl [2, 3, 4, 5, 6] rfl)
    · have hw := hw.2 hc
      refine lv_aload_n hx hb dL_law_1313 rfl (lv_at hl 5 rfl) ?_
      refine lv_iconst (v := 0) hx hb dL_law_1314 (by decide) ?_
      refine va_lald hx hb hK hW.1 11 1 rfl rfl (by unfold vp_in; decide) dL_law_1315 ?_
      refine lv_iload hx hb dL_law_1316 (lv_at hl 0 rfl) ?_
      refine lv_i2l hx hb dL_law_1318 rfl ?_
      refine W.lcmp hx hb dL_law_1319 ?_
      refine lv_if_eq (tgt := 1325) hx hb dL_law_1320 (by decide) (fun hc => ?_) (fun hc => ?_)
      · have hw := hw.1 hc
        refine lv_goto (tgt := 1735) hx hb dL_law_1325 (by decide) ?_
        refine W.widen (k := cells + 4) (n := slots + 24) (by omega) (by omega) ?_
        exact kk _ _ _ _ _ _ hw hW (lv_sub hl [2, 3, 4, 5, 6] rfl)
      · have hw := hw.2 hc
        refine lv_iconst (v := 0) hx hb dL_law_1323 (by decide) ?_
        exact hw.elim
  · have hw := hw.2 hc
    refine lv_iconst (v := 0) hx hb dL_law_1306 (by decide) ?_
    exact hw.elim
def wpl_22 (L : Nat) (xs : Nat → Int32) (σ : CS) (f : Nat → Int64) (μ : MS) (v4 : Int32) (K : CS → (Nat → Int64) → MS → Prop) : Prop := vp_in (v4 + 1) L ∧ vp_in (v4 + 2) L ∧ wp_L_worth σ f (xs ((v4 + 1)).toNatClampNeg) (xs ((v4 + 2)).toNatClampNeg) (fun r_1 σ_2 f_3 => vp_in (v4 + 1) L ∧ vp_in (v4 + 2) L ∧ wp_X5_worth μ (xs ((v4 + 1)).toNatClampNeg) (xs ((v4 + 2)).toNatClampNeg) (fun r_4 μ_5 => wp_X5_thrown μ_5 (fun r_6 => ((r_6 = r_1 → ((¬ r_1 = 0 → K σ_2 f_3 μ_5) ∧ (r_1 = 0 → (((lg_cmp (f_3 ((0 : Int32)).toNatClampNeg) (r_4).toInt64) = 0 → K σ_2 f_3 μ_5) ∧ (¬ (lg_cmp (f_3 ((0 : Int32)).toNatClampNeg) (r_4).toInt64) = 0 → False))))) ∧ (¬ r_6 = r_1 → False)))))
set_option maxHeartbeats 4000000 in
set_option maxRecDepth 100000 in
theorem law_c22 {p : Program} {l : Launch} {e : Env} {s : State} {m : MethodId} {below : List Frame} {meth : Method} {c : Code} {b L : Nat} {xs : Nat → Int32} (hst : l.stackTraces = false) (C0 : lw_At p s m meth c b L xs) {D : va_G} {cI cJ : ClassId} (hK : va_K D vwCl (tysIJ cI cJ) s) (hz : ZX (fun q : Nat => s.heap.size ≤ q) s s.heap) (hs : SX s) (hnc : NCX s) {a bb : Nat → Nat} {o : Nat} {Q : State → Prop} {cells slots : Nat} (hc1 : cells + 4 ≤ 601024) (hc2 : slots + 24 ≤ 7293034) {σ : CS} {f : Nat → Int64} {μ : MS} {v4 : Int32} {K : CS → (Nat → Int64) → MS → Prop} (hw : wpl_22 L xs σ f μ v4 K) {H : Heap} {locs : List Loc} {ls : Array Slot} (hW : Wd D (fun q : Nat => s.heap.size ≤ q) s.heap (hWW cI cJ a o σ f ++ mW cI cJ bb μ) H locs) (hl : lv_has ls 9 [(0, .ref b), (1, .ref (a 0)), (2, .ref (bb 0)), (3, .ref o), (4, .int v4)])
    (kk : ∀ (σ : CS) (f : Nat → Int64) (μ : MS) (H : Heap) (locs : List Loc) (ls : Array Slot), K σ f μ → Wd D (fun q : Nat => s.heap.size ≤ q) s.heap (hWW cI cJ a o σ f ++ mW cI cJ bb μ) H locs → lv_has ls 9 [(0, .ref b), (1, .ref (a 0)), (2, .ref (bb 0)), (3, .ref o), (4, .int v4)] → W p l e room_1 s m #[Value.ref b] below meth c H locs (cells + 4) (slots + 24) Q (F0 m 1735 ls [])) : W p l e room_1 s m #[Value.ref b] below meth c H locs cells slots Q (F0 m 1328 ls []) := by
  obtain ⟨hx, hb, hr, hml, hown, hts0, hX, hbl, hlocks, hgv⟩ := C0
  have hts : ∀ w ∈ wsL_law, w.before #[Value.ref b] s = true := fun w h => hts0 w (wsL_law_in w h)
  have hA : ∀ q : Nat, s.heap.size ≤ q → (fun q : Nat => s.heap.size ≤ q) q := fun _ h => h
  have hbA : ¬ (fun q : Nat => s.heap.size ≤ q) b := Nat.not_le.mpr hbl
  refine lv_aload_n hx hb dL_law_1328 rfl (lv_at hl 1 rfl) ?_
  refine lv_aload_n hx hb dL_law_1329 rfl (lv_at hl 0 rfl) ?_
  refine lv_iload hx hb dL_law_1330 (lv_at hl 4 rfl) ?_
  refine lv_iconst (v := 1) hx hb dL_law_1332 (by decide) ?_
  refine lv_iadd hx hb dL_law_1333 ?_
  refine va_sld hx hb hX hbl hbA hW.2.2 hw.1 dL_law_1334 ?_
  have hw := hw.2
  refine lv_aload_n hx hb dL_law_1335 rfl (lv_at hl 0 rfl) ?_
  refine lv_iload hx hb dL_law_1336 (lv_at hl 4 rfl) ?_
  refine lv_iconst (v := 2) hx hb dL_law_1338 (by decide) ?_
  refine lv_iadd hx hb dL_law_1339 ?_
  refine va_sld hx hb hX hbl hbA hW.2.2 hw.1 dL_law_1340 ?_
  have hw := hw.2
  refine lv_aload_n hx hb dL_law_1341 rfl (lv_at hl 3 rfl) ?_
  refine kSL_H (w1 := hWW cI cJ a o σ f) (w2 := mW cI cJ bb μ) (As := [.ref (a 0), .int (xs ((v4 + 1)).toNatClampNeg), .int (xs ((v4 + 2)).toNatClampNeg), .ref o]) (rest := []) ⟨hx, hb, hml, hown, hts⟩ (ok_L_worth l hst D cI cJ a o _ _ _ _ _ _ hw) (vx_cwSW 4 hts gL_law_L_worth rfl rfl rfl (by decide +kernel) ⟨(Nat.le_of_ble_eq_true rfl), (Nat.le_of_ble_eq_true rfl)⟩) hK hW hA hz hs hnc rfl hl.1 rfl (Nat.le_of_ble_eq_true rfl) dL_law_1342 ⟨by show cells + 2 ≤ 601024; omega, by show slots + 12 ≤ 7293034; omega⟩ (fun r_1 u H locs hw hW => ?_)
  obtain ⟨σ_2, f_3⟩ := u
  refine lv_istore (lv' := [(5, .int r_1), (0, .ref b), (1, .ref (a 0)), (2, .ref (bb 0)), (3, .ref o), (4, .int v4)]) hx hb dL_law_1345 hl (by decide) rfl (fun ls hl => ?_)
  refine lv_aload_n hx hb dL_law_1347 rfl (lv_at hl 3 rfl) ?_
  refine lv_aload_n hx hb dL_law_1348 rfl (lv_at hl 1 rfl) ?_
  refine lv_iload hx hb dL_law_1349 (lv_at hl 5 rfl) ?_
  refine lv_iconst (v := 1) hx hb dL_law_1351 (by decide) ?_
  refine lv_iadd hx hb dL_law_1352 ?_
  refine va_sld hx hb hX hbl hbA hW.2.2 hw.1 dL_law_1353 ?_
  have hw := hw.2
  refine lv_aload_n hx hb dL_law_1354 rfl (lv_at hl 1 rfl) ?_
  refine lv_iload hx hb dL_law_1355 (lv_at hl 5 rfl) ?_
  refine lv_iconst (v := 2) hx hb dL_law_1357 (by decide) ?_
  refine lv_iadd hx hb dL_law_1358 ?_
  refine va_sld hx hb hX hbl hbA hW.2.2 hw.1 dL_law_1359 ?_
  have hw := hw.2
  refine kVR_Mi (w1 := hWW cI cJ a o σ_2 f_3) (w2 := mW cI cJ bb μ) (As := [.int (xs ((v4 + 1)).toNatClampNeg), .int (xs ((v4 + 2)).toNatClampNeg)]) (rest := []) ⟨hx, hb, hml, hown, hts⟩ (ok_X5_worth l D cI cJ bb _ _ _ _ _ hw) (cwV 2 hts gL_law_X5_worth rfl rfl rfl (by decide +kernel) ⟨(Nat.le_of_ble_eq_true rfl), (Nat.le_of_ble_eq_true rfl)⟩) hK hW hA 0 rfl rfl rfl hl.1 rfl (Nat.le_of_ble_eq_true rfl) dL_law_1360 ⟨by show cells + 2 + 0 ≤ 601024; omega, by show slots + 12 + 0 ≤ 7293034; omega⟩ (fun r_4 μ_5 H locs hw hW => ?_)
  refine lv_istore (lv' := [(6, .int r_4), (5, .int r_1), (0, .ref b), (1, .ref (a 0)), (2, .ref (bb 0)), (3, .ref o), (4, .int v4)]) hx hb dL_law_1363 hl (by decide) rfl (fun ls hl => ?_)
  refine lv_aload_n hx hb dL_law_1365 rfl (lv_at hl 4 rfl) ?_
  refine kVR_Mi (w1 := hWW cI cJ a o σ_2 f_3) (w2 := mW cI cJ bb μ_5) (As := []) (rest := []) ⟨hx, hb, hml, hown, hts⟩ (ok_X5_thrown l D cI cJ bb _ _ _ hw) (cwV 0 hts gL_law_X5_thrown rfl rfl rfl (by decide +kernel) ⟨(Nat.le_of_ble_eq_true rfl), (Nat.le_of_ble_eq_true rfl)⟩) hK hW hA 0 rfl rfl rfl hl.1 rfl (Nat.le_of_ble_eq_true rfl) dL_law_1366 ⟨by show cells + 2 + 0 ≤ 601024; omega, by show slots + 12 + 0 ≤ 7293034; omega⟩ (fun r_6 _ H locs hw hW => ?_)
  refine lv_iload hx hb dL_law_1369 (lv_at hl 1 rfl) ?_
  refine lv_icmp_eq (tgt := 1376) hx hb dL_law_1371 (by decide) (fun hc => ?_) (fun hc => ?_)
  · have hw := hw.1 hc
    refine lv_iload hx hb dL_law_1376 (lv_at hl 1 rfl) ?_
    refine lv_if_ne (tgt := 1393) hx hb dL_law_1378 (by decide) (fun hc => ?_) (fun hc => ?_)
    · have hw := hw.1 hc
      refine lv_goto (tgt := 1735) hx hb dL_law_1393 (by decide) ?_
      refine W.widen (k := cells + 4) (n := slots + 24) (by omega) (by omega) ?_
      exact kk _ _ _ _ _ _ hw hW (lv_sub hl [2, 3, 4, 5, 6] rfl)
    · have hw := hw.2 hc
      refine lv_aload_n hx hb dL_law_1381 rfl (lv_at hl 5 rfl) ?_
      refine lv_iconst (v := 0) hx hb dL_law_1382 (by decide) ?_
      refine va_lald hx hb hK hW.1 11 1 rfl rfl (by unfold vp_in; decide) dL_law_1383 ?_
      refine lv_iload hx hb dL_law_1384 (lv_at hl 0 rfl) ?_
      refine lv_i2l hx hb dL_law_1386 rfl ?_
      refine W.lcmp hx hb dL_law_1387 ?_
      refine lv_if_eq (tgt := 1393) hx hb dL_law_1388 (by decide) (fun hc => ?_) (fun hc => ?_)
      · have hw := hw.1 hc
        refine lv_goto (tgt := 1735) hx hb dL_law_1393 (by decide) ?_
        refine W.widen (k := cells + 4) (n := slots + 24) (by omega) (by omega) ?_
        exact kk _ _ _ _ _ _ hw hW (lv_sub hl [2, 3, 4, 5, 6] rfl)
      · have hw := hw.2 hc
        refine lv_iconst (v := 0) hx hb dL_law_1391 (by decide) ?_
        exact hw.elim
  · have hw := hw.2 hc
    refine lv_iconst (v := 0) hx hb dL_law_1374 (by decide) ?_
    exact hw.elim
def wpl_23 (L : Nat) (xs : Nat → Int32) (σ : CS) (f : Nat → Int64) (μ : MS) (v4 : Int32) (K : CS → (Nat → Int64) → MS → Prop) : Prop := vp_in (v4 + 1) L ∧ vp_in (v4 + 2) L ∧ wp_L_ifOpened σ f (xs ((v4 + 1)).toNatClampNeg) (xs ((v4 + 2)).toNatClampNeg) (fun r_1 σ_2 f_3 => vp_in (v4 + 1) L ∧ vp_in (v4 + 2) L ∧ wp_X5_ifOpened μ (xs ((v4 + 1)).toNatClampNeg) (xs ((v4 + 2)).toNatClampNeg) (fun r_4 μ_5 => wp_X5_thrown μ_5 (fun r_6 => ((r_6 = r_1 → ((¬ r_1 = 0 → K σ_2 f_3 μ_5) ∧ (r_1 = 0 → (((lg_cmp (f_3 ((0 : Int32)).toNatClampNeg) (r_4).toInt64) = 0 → K σ_2 f_3 μ_5) ∧ (¬ (lg_cmp (f_3 ((0 : Int32)).toNatClampNeg) (r_4).toInt64) = 0 → False))))) ∧ (¬ r_6 = r_1 → False)))))
set_option maxHeartbeats 4000000 in
set_option maxRecDepth 100000 in
theorem law_c23 {p : Program} {l : Launch} {e : Env} {s : State} {m : MethodId} {below : List Frame} {meth : Method} {c : Code} {b L : Nat} {xs : Nat → Int32} (hst : l.stackTraces = false) (C0 : lw_At p s m meth c b L xs) {D : va_G} {cI cJ : ClassId} (hK : va_K D vwCl (tysIJ cI cJ) s) (hz : ZX (fun q : Nat => s.heap.size ≤ q) s s.heap) (hs : SX s) (hnc : NCX s) {a bb : Nat → Nat} {o : Nat} {Q : State → Prop} {cells slots : Nat} (hc1 : cells + 4 ≤ 601024) (hc2 : slots + 24 ≤ 7293034) {σ : CS} {f : Nat → Int64} {μ : MS} {v4 : Int32} {K : CS → (Nat → Int64) → MS → Prop} (hw : wpl_23 L xs σ f μ v4 K) {H : Heap} {locs : List Loc} {ls : Array Slot} (hW : Wd D (fun q : Nat => s.heap.size ≤ q) s.heap (hWW cI cJ a o σ f ++ mW cI cJ bb μ) H locs) (hl : lv_has ls 9 [(0, .ref b), (1, .ref (a 0)), (2, .ref (bb 0)), (3, .ref o), (4, .int v4)])
    (kk : ∀ (σ : CS) (f : Nat → Int64) (μ : MS) (H : Heap) (locs : List Loc) (ls : Array Slot), K σ f μ → Wd D (fun q : Nat => s.heap.size ≤ q) s.heap (hWW cI cJ a o σ f ++ mW cI cJ bb μ) H locs → lv_has ls 9 [(0, .ref b), (1, .ref (a 0)), (2, .ref (bb 0)), (3, .ref o), (4, .int v4)] → W p l e room_1 s m #[Value.ref b] below meth c H locs (cells + 4) (slots + 24) Q (F0 m 1735 ls [])) : W p l e room_1 s m #[Value.ref b] below meth c H locs cells slots Q (F0 m 1396 ls []) := by
  obtain ⟨hx, hb, hr, hml, hown, hts0, hX, hbl, hlocks, hgv⟩ := C0
  have hts : ∀ w ∈ wsL_law, w.before #[Value.ref b] s = true := fun w h => hts0 w (wsL_law_in w h)
  have hA : ∀ q : Nat, s.heap.size ≤ q → (fun q : Nat => s.heap.size ≤ q) q := fun _ h => h
  have hbA : ¬ (fun q : Nat => s.heap.size ≤ q) b := Nat.not_le.mpr hbl
  refine lv_aload_n hx hb dL_law_1396 rfl (lv_at hl 1 rfl) ?_
  refine lv_aload_n hx hb dL_law_1397 rfl (lv_at hl 0 rfl) ?_
  refine lv_iload hx hb dL_law_1398 (lv_at hl 4 rfl) ?_
  refine lv_iconst (v := 1) hx hb dL_law_1400 (by decide) ?_
  refine lv_iadd hx hb dL_law_1401 ?_
  refine va_sld hx hb hX hbl hbA hW.2.2 hw.1 dL_law_1402 ?_
  have hw := hw.2
  refine lv_aload_n hx hb dL_law_1403 rfl (lv_at hl 0 rfl) ?_
  refine lv_iload hx hb dL_law_1404 (lv_at hl 4 rfl) ?_
  refine lv_iconst (v := 2) hx hb dL_law_1406 (by decide) ?_
  refine lv_iadd hx hb dL_law_1407 ?_
  refine va_sld hx hb hX hbl hbA hW.2.2 hw.1 dL_law_1408 ?_
  have hw := hw.2
  refine lv_aload_n hx hb dL_law_1409 rfl (lv_at hl 3 rfl) ?_
  refine kSL_H (w1 := hWW cI cJ a o σ f) (w2 := mW cI cJ bb μ) (As := [.ref (a 0), .int (xs ((v4 + 1)).toNatClampNeg), .int (xs ((v4 + 2)).toNatClampNeg), .ref o]) (rest := []) ⟨hx, hb, hml, hown, hts⟩ (ok_L_ifOpened l hst D cI cJ a o _ _ _ _ _ _ hw) (vx_cwSW 4 hts gL_law_L_ifOpened rfl rfl rfl (by decide +kernel) ⟨(Nat.le_of_ble_eq_true rfl), (Nat.le_of_ble_eq_true rfl)⟩) hK hW hA hz hs hnc rfl hl.1 rfl (Nat.le_of_ble_eq_true rfl) dL_law_1410 ⟨by show cells + 2 ≤ 601024; omega, by show slots + 12 ≤ 7293034; omega⟩ (fun r_1 u H locs hw hW => ?_)
  obtain ⟨σ_2, f_3⟩ := u
  refine lv_istore (lv' := [(5, .int r_1), (0, .ref b), (1, .ref (a 0)), (2, .ref (bb 0)), (3, .ref o), (4, .int v4)]) hx hb dL_law_1413 hl (by decide) rfl (fun ls hl => ?_)
  refine lv_aload_n hx hb dL_law_1415 rfl (lv_at hl 3 rfl) ?_
  refine lv_aload_n hx hb dL_law_1416 rfl (lv_at hl 1 rfl) ?_
  refine lv_iload hx hb dL_law_1417 (lv_at hl 5 rfl) ?_
  refine lv_iconst (v := 1) hx hb dL_law_1419 (by decide) ?_
  refine lv_iadd hx hb dL_law_1420 ?_
  refine va_sld hx hb hX hbl hbA hW.2.2 hw.1 dL_law_1421 ?_
  have hw := hw.2
  refine lv_aload_n hx hb dL_law_1422 rfl (lv_at hl 1 rfl) ?_
  refine lv_iload hx hb dL_law_1423 (lv_at hl 5 rfl) ?_
  refine lv_iconst (v := 2) hx hb dL_law_1425 (by decide) ?_
  refine lv_iadd hx hb dL_law_1426 ?_
  refine va_sld hx hb hX hbl hbA hW.2.2 hw.1 dL_law_1427 ?_
  have hw := hw.2
  refine kVR_Mi (w1 := hWW cI cJ a o σ_2 f_3) (w2 := mW cI cJ bb μ) (As := [.int (xs ((v4 + 1)).toNatClampNeg), .int (xs ((v4 + 2)).toNatClampNeg)]) (rest := []) ⟨hx, hb, hml, hown, hts⟩ (ok_X5_ifOpened l D cI cJ bb _ _ _ _ _ hw) (cwV 2 hts gL_law_X5_ifOpened rfl rfl rfl (by decide +kernel) ⟨(Nat.le_of_ble_eq_true rfl), (Nat.le_of_ble_eq_true rfl)⟩) hK hW hA 0 rfl rfl rfl hl.1 rfl (Nat.le_of_ble_eq_true rfl) dL_law_1428 ⟨by show cells + 2 + 0 ≤ 601024; omega, by show slots + 12 + 0 ≤ 7293034; omega⟩ (fun r_4 μ_5 H locs hw hW => ?_)
  refine lv_istore (lv' := [(6, .int r_4), (5, .int r_1), (0, .ref b), (1, .ref (a 0)), (2, .ref (bb 0)), (3, .ref o), (4, .int v4)]) hx hb dL_law_1431 hl (by decide) rfl (fun ls hl => ?_)
  refine lv_aload_n hx hb dL_law_1433 rfl (lv_at hl 4 rfl) ?_
  refine kVR_Mi (w1 := hWW cI cJ a o σ_2 f_3) (w2 := mW cI cJ bb μ_5) (As := []) (rest := []) ⟨hx, hb, hml, hown, hts⟩ (ok_X5_thrown l D cI cJ bb _ _ _ hw) (cwV 0 hts gL_law_X5_thrown rfl rfl rfl (by decide +kernel) ⟨(Nat.le_of_ble_eq_true rfl), (Nat.le_of_ble_eq_true rfl)⟩) hK hW hA 0 rfl rfl rfl hl.1 rfl (Nat.le_of_ble_eq_true rfl) dL_law_1434 ⟨by show cells + 2 + 0 ≤ 601024; omega, by show slots + 12 + 0 ≤ 7293034; omega⟩ (fun r_6 _ H locs hw hW => ?_)
  refine lv_iload hx hb dL_law_1437 (lv_at hl 1 rfl) ?_
  refine lv_icmp_eq (tgt := 1444) hx hb dL_law_1439 (by decide) (fun hc => ?_) (fun hc => ?_)
  · have hw := hw.1 hc
    refine lv_iload hx hb dL_law_1444 (lv_at hl 1 rfl) ?_
    refine lv_if_ne (tgt := 1461) hx hb dL_law_1446 (by decide) (fun hc => ?_) (fun hc => ?_)
    · have hw := hw.1 hc
      refine lv_goto (tgt := 1735) hx hb dL_law_1461 (by decide) ?_
      refine W.widen (k := cells + 4) (n := slots + 24) (by omega) (by omega) ?_
      exact kk _ _ _ _ _ _ hw hW (lv_sub hl [2, 3, 4, 5, 6] rfl)
    · have hw := hw.2 hc
      refine lv_aload_n hx hb dL_law_1449 rfl (lv_at hl 5 rfl) ?_
      refine lv_iconst (v := 0) hx hb dL_law_1450 (by decide) ?_
      refine va_lald hx hb hK hW.1 11 1 rfl rfl (by unfold vp_in; decide) dL_law_1451 ?_
      refine lv_iload hx hb dL_law_1452 (lv_at hl 0 rfl) ?_
      refine lv_i2l hx hb dL_law_1454 rfl ?_
      refine W.lcmp hx hb dL_law_1455 ?_
      refine lv_if_eq (tgt := 1461) hx hb dL_law_1456 (by decide) (fun hc => ?_) (fun hc => ?_)
      · have hw := hw.1 hc
        refine lv_goto (tgt := 1735) hx hb dL_law_1461 (by decide) ?_
        refine W.widen (k := cells + 4) (n := slots + 24) (by omega) (by omega) ?_
        exact kk _ _ _ _ _ _ hw hW (lv_sub hl [2, 3, 4, 5, 6] rfl)
      · have hw := hw.2 hc
        refine lv_iconst (v := 0) hx hb dL_law_1459 (by decide) ?_
        exact hw.elim
  · have hw := hw.2 hc
    refine lv_iconst (v := 0) hx hb dL_law_1442 (by decide) ?_
    exact hw.elim
def wpl_24 (L : Nat) (xs : Nat → Int32) (σ : CS) (f : Nat → Int64) (μ : MS) (v4 : Int32) (K : CS → (Nat → Int64) → MS → Prop) : Prop := vp_in (v4 + 1) L ∧ vp_in (v4 + 2) L ∧ vp_in (v4 + 3) L ∧ vp_in (v4 + 4) L ∧ wp_L_ifBid σ f (xs ((v4 + 1)).toNatClampNeg) (xs ((v4 + 2)).toNatClampNeg) (xs ((v4 + 3)).toNatClampNeg) (xs ((v4 + 4)).toNatClampNeg) (fun r_1 σ_2 f_3 => vp_in (v4 + 1) L ∧ vp_in (v4 + 2) L ∧ vp_in (v4 + 3) L ∧ vp_in (v4 + 4) L ∧ wp_X5_ifBid μ (xs ((v4 + 1)).toNatClampNeg) (xs ((v4 + 2)).toNatClampNeg) (xs ((v4 + 3)).toNatClampNeg) (xs ((v4 + 4)).toNatClampNeg) (fun r_4 μ_5 => wp_X5_thrown μ_5 (fun r_6 => ((r_6 = r_1 → ((¬ r_1 = 0 → K σ_2 f_3 μ_5) ∧ (r_1 = 0 → (((lg_cmp (f_3 ((0 : Int32)).toNatClampNeg) (r_4).toInt64) = 0 → K σ_2 f_3 μ_5) ∧ (¬ (lg_cmp (f_3 ((0 : Int32)).toNatClampNeg) (r_4).toInt64) = 0 → False))))) ∧ (¬ r_6 = r_1 → False)))))
set_option maxHeartbeats 4000000 in
set_option maxRecDepth 100000 in
theorem law_c24 {p : Program} {l : Launch} {e : Env} {s : State} {m : MethodId} {below : List Frame} {meth : Method} {c : Code} {b L : Nat} {xs : Nat → Int32} (hst : l.stackTraces = false) (C0 : lw_At p s m meth c b L xs) {D : va_G} {cI cJ : ClassId} (hK : va_K D vwCl (tysIJ cI cJ) s) (hz : ZX (fun q : Nat => s.heap.size ≤ q) s s.heap) (hs : SX s) (hnc : NCX s) {a bb : Nat → Nat} {o : Nat} {Q : State → Prop} {cells slots : Nat} (hc1 : cells + 4 ≤ 601024) (hc2 : slots + 24 ≤ 7293034) {σ : CS} {f : Nat → Int64} {μ : MS} {v4 : Int32} {K : CS → (Nat → Int64) → MS → Prop} (hw : wpl_24 L xs σ f μ v4 K) {H : Heap} {locs : List Loc} {ls : Array Slot} (hW : Wd D (fun q : Nat => s.heap.size ≤ q) s.heap (hWW cI cJ a o σ f ++ mW cI cJ bb μ) H locs) (hl : lv_has ls 9 [(0, .ref b), (1, .ref (a 0)), (2, .ref (bb 0)), (3, .ref o), (4, .int v4)])
    (kk : ∀ (σ : CS) (f : Nat → Int64) (μ : MS) (H : Heap) (locs : List Loc) (ls : Array Slot), K σ f μ → Wd D (fun q : Nat => s.heap.size ≤ q) s.heap (hWW cI cJ a o σ f ++ mW cI cJ bb μ) H locs → lv_has ls 9 [(0, .ref b), (1, .ref (a 0)), (2, .ref (bb 0)), (3, .ref o), (4, .int v4)] → W p l e room_1 s m #[Value.ref b] below meth c H locs (cells + 4) (slots + 24) Q (F0 m 1735 ls [])) : W p l e room_1 s m #[Value.ref b] below meth c H locs cells slots Q (F0 m 1464 ls []) := by
  obtain ⟨hx, hb, hr, hml, hown, hts0, hX, hbl, hlocks, hgv⟩ := C0
  have hts : ∀ w ∈ wsL_law, w.before #[Value.ref b] s = true := fun w h => hts0 w (wsL_law_in w h)
  have hA : ∀ q : Nat, s.heap.size ≤ q → (fun q : Nat => s.heap.size ≤ q) q := fun _ h => h
  have hbA : ¬ (fun q : Nat => s.heap.size ≤ q) b := Nat.not_le.mpr hbl
  refine lv_aload_n hx hb dL_law_1464 rfl (lv_at hl 1 rfl) ?_
  refine lv_aload_n hx hb dL_law_1465 rfl (lv_at hl 0 rfl) ?_
  refine lv_iload hx hb dL_law_1466 (lv_at hl 4 rfl) ?_
  refine lv_iconst (v := 1) hx hb dL_law_1468 (by decide) ?_
  refine lv_iadd hx hb dL_law_1469 ?_
  refine va_sld hx hb hX hbl hbA hW.2.2 hw.1 dL_law_1470 ?_
  have hw := hw.2
  refine lv_aload_n hx hb dL_law_1471 rfl (lv_at hl 0 rfl) ?_
  refine lv_iload hx hb dL_law_1472 (lv_at hl 4 rfl) ?_
  refine lv_iconst (v := 2) hx hb dL_law_1474 (by decide) ?_
  refine lv_iadd hx hb dL_law_1475 ?_
  refine va_sld hx hb hX hbl hbA hW.2.2 hw.1 dL_law_1476 ?_
  have hw := hw.2
  refine lv_aload_n hx hb dL_law_1477 rfl (lv_at hl 0 rfl) ?_
  refine lv_iload hx hb dL_law_1478 (lv_at hl 4 rfl) ?_
  refine lv_iconst (v := 3) hx hb dL_law_1480 (by decide) ?_
  refine lv_iadd hx hb dL_law_1481 ?_
  refine va_sld hx hb hX hbl hbA hW.2.2 hw.1 dL_law_1482 ?_
  have hw := hw.2
  refine lv_aload_n hx hb dL_law_1483 rfl (lv_at hl 0 rfl) ?_
  refine lv_iload hx hb dL_law_1484 (lv_at hl 4 rfl) ?_
  refine lv_iconst (v := 4) hx hb dL_law_1486 (by decide) ?_
  refine lv_iadd hx hb dL_law_1487 ?_
  refine va_sld hx hb hX hbl hbA hW.2.2 hw.1 dL_law_1488 ?_
  have hw := hw.2
  refine lv_aload_n hx hb dL_law_1489 rfl (lv_at hl 3 rfl) ?_
  refine kSL_H (w1 := hWW cI cJ a o σ f) (w2 := mW cI cJ bb μ) (As := [.ref (a 0), .int (xs ((v4 + 1)).toNatClampNeg), .int (xs ((v4 + 2)).toNatClampNeg), .int (xs ((v4 + 3)).toNatClampNeg), .int (xs ((v4 + 4)).toNatClampNeg), .ref o]) (rest := []) ⟨hx, hb, hml, hown, hts⟩ (ok_L_ifBid l hst D cI cJ a o _ _ _ _ _ _ _ _ hw) (vx_cwSW 6 hts gL_law_L_ifBid rfl rfl rfl (by decide +kernel) ⟨(Nat.le_of_ble_eq_true rfl), (Nat.le_of_ble_eq_true rfl)⟩) hK hW hA hz hs hnc rfl hl.1 rfl (Nat.le_of_ble_eq_true rfl) dL_law_1490 ⟨by show cells + 4 ≤ 601024; omega, by show slots + 24 ≤ 7293034; omega⟩ (fun r_1 u H locs hw hW => ?_)
  obtain ⟨σ_2, f_3⟩ := u
  refine lv_istore (lv' := [(5, .int r_1), (0, .ref b), (1, .ref (a 0)), (2, .ref (bb 0)), (3, .ref o), (4, .int v4)]) hx hb dL_law_1493 hl (by decide) rfl (fun ls hl => ?_)
  refine lv_aload_n hx hb dL_law_1495 rfl (lv_at hl 3 rfl) ?_
  refine lv_aload_n hx hb dL_law_1496 rfl (lv_at hl 1 rfl) ?_
  refine lv_iload hx hb dL_law_1497 (lv_at hl 5 rfl) ?_
  refine lv_iconst (v := 1) hx hb dL_law_1499 (by decide) ?_
  refine lv_iadd hx hb dL_law_1500 ?_
  refine va_sld hx hb hX hbl hbA hW.2.2 hw.1 dL_law_1501 ?_
  have hw := hw.2
  refine lv_aload_n hx hb dL_law_1502 rfl (lv_at hl 1 rfl) ?_
  refine lv_iload hx hb dL_law_1503 (lv_at hl 5 rfl) ?_
  refine lv_iconst (v := 2) hx hb dL_law_1505 (by decide) ?_
  refine lv_iadd hx hb dL_law_1506 ?_
  refine va_sld hx hb hX hbl hbA hW.2.2 hw.1 dL_law_1507 ?_
  have hw := hw.2
  refine lv_aload_n hx hb dL_law_1508 rfl (lv_at hl 1 rfl) ?_
  refine lv_iload hx hb dL_law_1509 (lv_at hl 5 rfl) ?_
  refine lv_iconst (v := 3) hx hb dL_law_1511 (by decide) ?_
  refine lv_iadd hx hb dL_law_1512 ?_
  refine va_sld hx hb hX hbl hbA hW.2.2 hw.1 dL_law_1513 ?_
  have hw := hw.2
  refine lv_aload_n hx hb dL_law_1514 rfl (lv_at hl 1 rfl) ?_
  refine lv_iload hx hb dL_law_1515 (lv_at hl 5 rfl) ?_
  refine lv_iconst (v := 4) hx hb dL_law_1517 (by decide) ?_
  refine lv_iadd hx hb dL_law_1518 ?_
  refine va_sld hx hb hX hbl hbA hW.2.2 hw.1 dL_law_1519 ?_
  have hw := hw.2
  refine kVR_Mi (w1 := hWW cI cJ a o σ_2 f_3) (w2 := mW cI cJ bb μ) (As := [.int (xs ((v4 + 1)).toNatClampNeg), .int (xs ((v4 + 2)).toNatClampNeg), .int (xs ((v4 + 3)).toNatClampNeg), .int (xs ((v4 + 4)).toNatClampNeg)]) (rest := []) ⟨hx, hb, hml, hown, hts⟩ (ok_X5_ifBid l D cI cJ bb _ _ _ _ _ _ _ hw) (cwV 4 hts gL_law_X5_ifBid rfl rfl rfl (by decide +kernel) ⟨(Nat.le_of_ble_eq_true rfl), (Nat.le_of_ble_eq_true rfl)⟩) hK hW hA 0 rfl rfl rfl hl.1 rfl (Nat.le_of_ble_eq_true rfl) dL_law_1520 ⟨by show cells + 4 + 0 ≤ 601024; omega, by show slots + 24 + 0 ≤ 7293034; omega⟩ (fun r_4 μ_5 H locs hw hW => ?_)
  refine lv_istore (lv' := [(6, .int r_4), (5, .int r_1), (0, .ref b), (1, .ref (a 0)), (2, .ref (bb 0)), (3, .ref o), (4, .int v4)]) hx hb dL_law_1523 hl (by decide) rfl (fun ls hl => ?_)
  refine lv_aload_n hx hb dL_law_1525 rfl (lv_at hl 4 rfl) ?_
  refine kVR_Mi (w1 := hWW cI cJ a o σ_2 f_3) (w2 := mW cI cJ bb μ_5) (As := []) (rest := []) ⟨hx, hb, hml, hown, hts⟩ (ok_X5_thrown l D cI cJ bb _ _ _ hw) (cwV 0 hts gL_law_X5_thrown rfl rfl rfl (by decide +kernel) ⟨(Nat.le_of_ble_eq_true rfl), (Nat.le_of_ble_eq_true rfl)⟩) hK hW hA 0 rfl rfl rfl hl.1 rfl (Nat.le_of_ble_eq_true rfl) dL_law_1526 ⟨by show cells + 4 + 0 ≤ 601024; omega, by show slots + 24 + 0 ≤ 7293034; omega⟩ (fun r_6 _ H locs hw hW => ?_)
  refine lv_iload hx hb dL_law_1529 (lv_at hl 1 rfl) ?_
  refine lv_icmp_eq (tgt := 1536) hx hb dL_law_1531 (by decide) (fun hc => ?_) (fun hc => ?_)
  · have hw := hw.1 hc
    refine lv_iload hx hb dL_law_1536 (lv_at hl 1 rfl) ?_
    refine lv_if_ne (tgt := 1553) hx hb dL_law_1538 (by decide) (fun hc => ?_) (fun hc => ?_)
    · have hw := hw.1 hc
      refine lv_goto (tgt := 1735) hx hb dL_law_1553 (by decide) ?_
      refine W.widen (k := cells + 4) (n := slots + 24) (by omega) (by omega) ?_
      exact kk _ _ _ _ _ _ hw hW (lv_sub hl [2, 3, 4, 5, 6] rfl)
    · have hw := hw.2 hc
      refine lv_aload_n hx hb dL_law_1541 rfl (lv_at hl 5 rfl) ?_
      refine lv_iconst (v := 0) hx hb dL_law_1542 (by decide) ?_
      refine va_lald hx hb hK hW.1 11 1 rfl rfl (by unfold vp_in; decide) dL_law_1543 ?_
      refine lv_iload hx hb dL_law_1544 (lv_at hl 0 rfl) ?_
      refine lv_i2l hx hb dL_law_1546 rfl ?_
      refine W.lcmp hx hb dL_law_1547 ?_
      refine lv_if_eq (tgt := 1553) hx hb dL_law_1548 (by decide) (fun hc => ?_) (fun hc => ?_)
      · have hw := hw.1 hc
        refine lv_goto (tgt := 1735) hx hb dL_law_1553 (by decide) ?_
        refine W.widen (k := cells + 4) (n := slots + 24) (by omega) (by omega) ?_
        exact kk _ _ _ _ _ _ hw hW (lv_sub hl [2, 3, 4, 5, 6] rfl)
      · have hw := hw.2 hc
        refine lv_iconst (v := 0) hx hb dL_law_1551 (by decide) ?_
        exact hw.elim
  · have hw := hw.2 hc
    refine lv_iconst (v := 0) hx hb dL_law_1534 (by decide) ?_
    exact hw.elim
def wpl_25 (L : Nat) (xs : Nat → Int32) (σ : CS) (f : Nat → Int64) (μ : MS) (v4 : Int32) (K : CS → (Nat → Int64) → MS → Prop) : Prop := vp_in (v4 + 1) L ∧ vp_in (v4 + 2) L ∧ wp_L_least σ f (xs ((v4 + 1)).toNatClampNeg) (xs ((v4 + 2)).toNatClampNeg) (fun r_1 σ_2 f_3 => vp_in (v4 + 1) L ∧ vp_in (v4 + 2) L ∧ wp_X5_least μ (xs ((v4 + 1)).toNatClampNeg) (xs ((v4 + 2)).toNatClampNeg) (fun r_4 μ_5 => wp_X5_thrown μ_5 (fun r_6 => ((r_6 = r_1 → ((¬ r_1 = 0 → K σ_2 f_3 μ_5) ∧ (r_1 = 0 → (((lg_cmp (f_3 ((0 : Int32)).toNatClampNeg) (r_4).toInt64) = 0 → K σ_2 f_3 μ_5) ∧ (¬ (lg_cmp (f_3 ((0 : Int32)).toNatClampNeg) (r_4).toInt64) = 0 → False))))) ∧ (¬ r_6 = r_1 → False)))))
set_option maxHeartbeats 4000000 in
set_option maxRecDepth 100000 in
theorem law_c25 {p : Program} {l : Launch} {e : Env} {s : State} {m : MethodId} {below : List Frame} {meth : Method} {c : Code} {b L : Nat} {xs : Nat → Int32} (hst : l.stackTraces = false) (C0 : lw_At p s m meth c b L xs) {D : va_G} {cI cJ : ClassId} (hK : va_K D vwCl (tysIJ cI cJ) s) (hz : ZX (fun q : Nat => s.heap.size ≤ q) s s.heap) (hs : SX s) (hnc : NCX s) {a bb : Nat → Nat} {o : Nat} {Q : State → Prop} {cells slots : Nat} (hc1 : cells + 4 ≤ 601024) (hc2 : slots + 24 ≤ 7293034) {σ : CS} {f : Nat → Int64} {μ : MS} {v4 : Int32} {K : CS → (Nat → Int64) → MS → Prop} (hw : wpl_25 L xs σ f μ v4 K) {H : Heap} {locs : List Loc} {ls : Array Slot} (hW : Wd D (fun q : Nat => s.heap.size ≤ q) s.heap (hWW cI cJ a o σ f ++ mW cI cJ bb μ) H locs) (hl : lv_has ls 9 [(0, .ref b), (1, .ref (a 0)), (2, .ref (bb 0)), (3, .ref o), (4, .int v4)])
    (kk : ∀ (σ : CS) (f : Nat → Int64) (μ : MS) (H : Heap) (locs : List Loc) (ls : Array Slot), K σ f μ → Wd D (fun q : Nat => s.heap.size ≤ q) s.heap (hWW cI cJ a o σ f ++ mW cI cJ bb μ) H locs → lv_has ls 9 [(0, .ref b), (1, .ref (a 0)), (2, .ref (bb 0)), (3, .ref o), (4, .int v4)] → W p l e room_1 s m #[Value.ref b] below meth c H locs (cells + 4) (slots + 24) Q (F0 m 1735 ls [])) : W p l e room_1 s m #[Value.ref b] below meth c H locs cells slots Q (F0 m 1556 ls []) := by
  obtain ⟨hx, hb, hr, hml, hown, hts0, hX, hbl, hlocks, hgv⟩ := C0
  have hts : ∀ w ∈ wsL_law, w.before #[Value.ref b] s = true := fun w h => hts0 w (wsL_law_in w h)
  have hA : ∀ q : Nat, s.heap.size ≤ q → (fun q : Nat => s.heap.size ≤ q) q := fun _ h => h
  have hbA : ¬ (fun q : Nat => s.heap.size ≤ q) b := Nat.not_le.mpr hbl
  refine lv_aload_n hx hb dL_law_1556 rfl (lv_at hl 1 rfl) ?_
  refine lv_aload_n hx hb dL_law_1557 rfl (lv_at hl 0 rfl) ?_
  refine lv_iload hx hb dL_law_1558 (lv_at hl 4 rfl) ?_
  refine lv_iconst (v := 1) hx hb dL_law_1560 (by decide) ?_
  refine lv_iadd hx hb dL_law_1561 ?_
  refine va_sld hx hb hX hbl hbA hW.2.2 hw.1 dL_law_1562 ?_
  have hw := hw.2
  refine lv_aload_n hx hb dL_law_1563 rfl (lv_at hl 0 rfl) ?_
  refine lv_iload hx hb dL_law_1564 (lv_at hl 4 rfl) ?_
  refine lv_iconst (v := 2) hx hb dL_law_1566 (by decide) ?_
  refine lv_iadd hx hb dL_law_1567 ?_
  refine va_sld hx hb hX hbl hbA hW.2.2 hw.1 dL_law_1568 ?_
  have hw := hw.2
  refine lv_aload_n hx hb dL_law_1569 rfl (lv_at hl 3 rfl) ?_
  refine kSL_H (w1 := hWW cI cJ a o σ f) (w2 := mW cI cJ bb μ) (As := [.ref (a 0), .int (xs ((v4 + 1)).toNatClampNeg), .int (xs ((v4 + 2)).toNatClampNeg), .ref o]) (rest := []) ⟨hx, hb, hml, hown, hts⟩ (ok_L_least l hst D cI cJ a o _ _ _ _ _ _ hw) (vx_cwSW 4 hts gL_law_L_least rfl rfl rfl (by decide +kernel) ⟨(Nat.le_of_ble_eq_true rfl), (Nat.le_of_ble_eq_true rfl)⟩) hK hW hA hz hs hnc rfl hl.1 rfl (Nat.le_of_ble_eq_true rfl) dL_law_1570 ⟨by show cells + 2 ≤ 601024; omega, by show slots + 12 ≤ 7293034; omega⟩ (fun r_1 u H locs hw hW => ?_)
  obtain ⟨σ_2, f_3⟩ := u
  refine lv_istore (lv' := [(5, .int r_1), (0, .ref b), (1, .ref (a 0)), (2, .ref (bb 0)), (3, .ref o), (4, .int v4)]) hx hb dL_law_1573 hl (by decide) rfl (fun ls hl => ?_)
  refine lv_aload_n hx hb dL_law_1575 rfl (lv_at hl 3 rfl) ?_
  refine lv_aload_n hx hb dL_law_1576 rfl (lv_at hl 1 rfl) ?_
  refine lv_iload hx hb dL_law_1577 (lv_at hl 5 rfl) ?_
  refine lv_iconst (v := 1) hx hb dL_law_1579 (by decide) ?_
  refine lv_iadd hx hb dL_law_1580 ?_
  refine va_sld hx hb hX hbl hbA hW.2.2 hw.1 dL_law_1581 ?_
  have hw := hw.2
  refine lv_aload_n hx hb dL_law_1582 rfl (lv_at hl 1 rfl) ?_
  refine lv_iload hx hb dL_law_1583 (lv_at hl 5 rfl) ?_
  refine lv_iconst (v := 2) hx hb dL_law_1585 (by decide) ?_
  refine lv_iadd hx hb dL_law_1586 ?_
  refine va_sld hx hb hX hbl hbA hW.2.2 hw.1 dL_law_1587 ?_
  have hw := hw.2
  refine kVR_Mi (w1 := hWW cI cJ a o σ_2 f_3) (w2 := mW cI cJ bb μ) (As := [.int (xs ((v4 + 1)).toNatClampNeg), .int (xs ((v4 + 2)).toNatClampNeg)]) (rest := []) ⟨hx, hb, hml, hown, hts⟩ (ok_X5_least l D cI cJ bb _ _ _ _ _ hw) (cwV 2 hts gL_law_X5_least rfl rfl rfl (by decide +kernel) ⟨(Nat.le_of_ble_eq_true rfl), (Nat.le_of_ble_eq_true rfl)⟩) hK hW hA 0 rfl rfl rfl hl.1 rfl (Nat.le_of_ble_eq_true rfl) dL_law_1588 ⟨by show cells + 2 + 0 ≤ 601024; omega, by show slots + 12 + 0 ≤ 7293034; omega⟩ (fun r_4 μ_5 H locs hw hW => ?_)
  refine lv_istore (lv' := [(6, .int r_4), (5, .int r_1), (0, .ref b), (1, .ref (a 0)), (2, .ref (bb 0)), (3, .ref o), (4, .int v4)]) hx hb dL_law_1591 hl (by decide) rfl (fun ls hl => ?_)
  refine lv_aload_n hx hb dL_law_1593 rfl (lv_at hl 4 rfl) ?_
  refine kVR_Mi (w1 := hWW cI cJ a o σ_2 f_3) (w2 := mW cI cJ bb μ_5) (As := []) (rest := []) ⟨hx, hb, hml, hown, hts⟩ (ok_X5_thrown l D cI cJ bb _ _ _ hw) (cwV 0 hts gL_law_X5_thrown rfl rfl rfl (by decide +kernel) ⟨(Nat.le_of_ble_eq_true rfl), (Nat.le_of_ble_eq_true rfl)⟩) hK hW hA 0 rfl rfl rfl hl.1 rfl (Nat.le_of_ble_eq_true rfl) dL_law_1594 ⟨by show cells + 2 + 0 ≤ 601024; omega, by show slots + 12 + 0 ≤ 7293034; omega⟩ (fun r_6 _ H locs hw hW => ?_)
  refine lv_iload hx hb dL_law_1597 (lv_at hl 1 rfl) ?_
  refine lv_icmp_eq (tgt := 1604) hx hb dL_law_1599 (by decide) (fun hc => ?_) (fun hc => ?_)
  · have hw := hw.1 hc
    refine lv_iload hx hb dL_law_1604 (lv_at hl 1 rfl) ?_
    refine lv_if_ne (tgt := 1621) hx hb dL_law_1606 (by decide) (fun hc => ?_) (fun hc => ?_)
    · have hw := hw.1 hc
      refine lv_goto (tgt := 1735) hx hb dL_law_1621 (by decide) ?_
      refine W.widen (k := cells + 4) (n := slots + 24) (by omega) (by omega) ?_
      exact kk _ _ _ _ _ _ hw hW (lv_sub hl [2, 3, 4, 5, 6] rfl)
    · have hw := hw.2 hc
      refine lv_aload_n hx hb dL_law_1609 rfl (lv_at hl 5 rfl) ?_
      refine lv_iconst (v := 0) hx hb dL_law_1610 (by decide) ?_
      refine va_lald hx hb hK hW.1 11 1 rfl rfl (by unfold vp_in; decide) dL_law_1611 ?_
      refine lv_iload hx hb dL_law_1612 (lv_at hl 0 rfl) ?_
      refine lv_i2l hx hb dL_law_1614 rfl ?_
      refine W.lcmp hx hb dL_law_1615 ?_
      refine lv_if_eq (tgt := 1621) hx hb dL_law_1616 (by decide) (fun hc => ?_) (fun hc => ?_)
      · have hw := hw.1 hc
        refine lv_goto (tgt := 1735) hx hb dL_law_1621 (by decide) ?_
        refine W.widen (k := cells + 4) (n := slots + 24) (by omega) (by omega) ?_
        exact kk _ _ _ _ _ _ hw hW (lv_sub hl [2, 3, 4, 5, 6] rfl)
      · have hw := hw.2 hc
        refine lv_iconst (v := 0) hx hb dL_law_1619 (by decide) ?_
        exact hw.elim
  · have hw := hw.2 hc
    refine lv_iconst (v := 0) hx hb dL_law_1602 (by decide) ?_
    exact hw.elim
def wpl_26 (L : Nat) (xs : Nat → Int32) (σ : CS) (f : Nat → Int64) (μ : MS) (v4 : Int32) (K : CS → (Nat → Int64) → MS → Prop) : Prop := wp_X4_keenest σ (fun r_1 σ_2 => wp_X5_keenest μ (fun r_3 μ_4 => ((r_1 = r_3 → K σ_2 f μ_4) ∧ (¬ r_1 = r_3 → False))))
set_option maxHeartbeats 4000000 in
set_option maxRecDepth 100000 in
theorem law_c26 {p : Program} {l : Launch} {e : Env} {s : State} {m : MethodId} {below : List Frame} {meth : Method} {c : Code} {b L : Nat} {xs : Nat → Int32} (hst : l.stackTraces = false) (C0 : lw_At p s m meth c b L xs) {D : va_G} {cI cJ : ClassId} (hK : va_K D vwCl (tysIJ cI cJ) s) (hz : ZX (fun q : Nat => s.heap.size ≤ q) s s.heap) (hs : SX s) (hnc : NCX s) {a bb : Nat → Nat} {o : Nat} {Q : State → Prop} {cells slots : Nat} (hc1 : cells + 4 ≤ 601024) (hc2 : slots + 24 ≤ 7293034) {σ : CS} {f : Nat → Int64} {μ : MS} {v4 : Int32} {K : CS → (Nat → Int64) → MS → Prop} (hw : wpl_26 L xs σ f μ v4 K) {H : Heap} {locs : List Loc} {ls : Array Slot} (hW : Wd D (fun q : Nat => s.heap.size ≤ q) s.heap (hWW cI cJ a o σ f ++ mW cI cJ bb μ) H locs) (hl : lv_has ls 9 [(0, .ref b), (1, .ref (a 0)), (2, .ref (bb 0)), (3, .ref o), (4, .int v4)])
    (kk : ∀ (σ : CS) (f : Nat → Int64) (μ : MS) (H : Heap) (locs : List Loc) (ls : Array Slot), K σ f μ → Wd D (fun q : Nat => s.heap.size ≤ q) s.heap (hWW cI cJ a o σ f ++ mW cI cJ bb μ) H locs → lv_has ls 9 [(0, .ref b), (1, .ref (a 0)), (2, .ref (bb 0)), (3, .ref o), (4, .int v4)] → W p l e room_1 s m #[Value.ref b] below meth c H locs (cells + 4) (slots + 24) Q (F0 m 1735 ls [])) : W p l e room_1 s m #[Value.ref b] below meth c H locs cells slots Q (F0 m 1624 ls []) := by
  obtain ⟨hx, hb, hr, hml, hown, hts0, hX, hbl, hlocks, hgv⟩ := C0
  have hts : ∀ w ∈ wsL_law, w.before #[Value.ref b] s = true := fun w h => hts0 w (wsL_law_in w h)
  have hA : ∀ q : Nat, s.heap.size ≤ q → (fun q : Nat => s.heap.size ≤ q) q := fun _ h => h
  have hbA : ¬ (fun q : Nat => s.heap.size ≤ q) b := Nat.not_le.mpr hbl
  refine lv_aload_n hx hb dL_law_1624 rfl (lv_at hl 1 rfl) ?_
  rw [hWW_assoc] at hW
  refine kVL_Mi (w1 := cW cI cJ a σ) (w2 := [(o, .inl (cJ, 1, .inr (.inl f)))] ++ mW cI cJ bb μ) (As := []) (rest := []) ⟨hx, hb, hml, hown, hts⟩ (ok_X4_keenest l D cI cJ a _ _ _ hw) (cwV 0 hts gL_law_X4_keenest rfl rfl rfl (by decide +kernel) ⟨(Nat.le_of_ble_eq_true rfl), (Nat.le_of_ble_eq_true rfl)⟩) hK hW hA 0 rfl rfl rfl hl.1 rfl (Nat.le_of_ble_eq_true rfl) dL_law_1625 ⟨by show cells + 0 ≤ 601024; omega, by show slots + 0 ≤ 7293034; omega⟩ (fun r_1 σ_2 H locs hw hW => ?_)
  rw [← hWW_assoc] at hW
  refine lv_aload_n hx hb dL_law_1628 rfl (lv_at hl 2 rfl) ?_
  refine kVR_Mi (w1 := hWW cI cJ a o σ_2 f) (w2 := mW cI cJ bb μ) (As := []) (rest := [.int r_1]) ⟨hx, hb, hml, hown, hts⟩ (ok_X5_keenest l D cI cJ bb _ _ _ hw) (cwV 0 hts gL_law_X5_keenest rfl rfl rfl (by decide +kernel) ⟨(Nat.le_of_ble_eq_true rfl), (Nat.le_of_ble_eq_true rfl)⟩) hK hW hA 0 rfl rfl rfl hl.1 rfl (Nat.le_of_ble_eq_true rfl) dL_law_1629 ⟨by show cells + 0 ≤ 601024; omega, by show slots + 0 ≤ 7293034; omega⟩ (fun r_3 μ_4 H locs hw hW => ?_)
  refine lv_icmp_eq (tgt := 1735) hx hb dL_law_1632 (by decide) (fun hc => ?_) (fun hc => ?_)
  · have hw := hw.1 hc
    refine W.widen (k := cells + 4) (n := slots + 24) (by omega) (by omega) ?_
    exact kk _ _ _ _ _ _ hw hW (lv_sub hl [0, 1, 2, 3, 4] rfl)
  · have hw := hw.2 hc
    refine lv_iconst (v := 0) hx hb dL_law_1635 (by decide) ?_
    exact hw.elim
def wpl_27 (L : Nat) (xs : Nat → Int32) (σ : CS) (f : Nat → Int64) (μ : MS) (v4 : Int32) (K : CS → (Nat → Int64) → MS → Prop) : Prop := wp_X4_chestShare σ (fun r_1 => wp_X5_chestShare μ (fun r_2 μ_3 => (((Op.cmpValue (FP.dcmp r_1 r_2) .l) = 0 → K σ f μ_3) ∧ (¬ (Op.cmpValue (FP.dcmp r_1 r_2) .l) = 0 → (((Op.cmpValue (FP.dcmp r_1 r_1) .l) = 0 → False) ∧ (¬ (Op.cmpValue (FP.dcmp r_1 r_1) .l) = 0 → ((¬ (Op.cmpValue (FP.dcmp r_2 r_2) .l) = 0 → K σ f μ_3) ∧ ((Op.cmpValue (FP.dcmp r_2 r_2) .l) = 0 → False))))))))
set_option maxHeartbeats 4000000 in
set_option maxRecDepth 100000 in
theorem law_c27 {p : Program} {l : Launch} {e : Env} {s : State} {m : MethodId} {below : List Frame} {meth : Method} {c : Code} {b L : Nat} {xs : Nat → Int32} (hst : l.stackTraces = false) (C0 : lw_At p s m meth c b L xs) {D : va_G} {cI cJ : ClassId} (hK : va_K D vwCl (tysIJ cI cJ) s) (hz : ZX (fun q : Nat => s.heap.size ≤ q) s s.heap) (hs : SX s) (hnc : NCX s) {a bb : Nat → Nat} {o : Nat} {Q : State → Prop} {cells slots : Nat} (hc1 : cells + 4 ≤ 601024) (hc2 : slots + 24 ≤ 7293034) {σ : CS} {f : Nat → Int64} {μ : MS} {v4 : Int32} {K : CS → (Nat → Int64) → MS → Prop} (hw : wpl_27 L xs σ f μ v4 K) {H : Heap} {locs : List Loc} {ls : Array Slot} (hW : Wd D (fun q : Nat => s.heap.size ≤ q) s.heap (hWW cI cJ a o σ f ++ mW cI cJ bb μ) H locs) (hl : lv_has ls 9 [(0, .ref b), (1, .ref (a 0)), (2, .ref (bb 0)), (3, .ref o), (4, .int v4)])
    (kk : ∀ (σ : CS) (f : Nat → Int64) (μ : MS) (H : Heap) (locs : List Loc) (ls : Array Slot), K σ f μ → Wd D (fun q : Nat => s.heap.size ≤ q) s.heap (hWW cI cJ a o σ f ++ mW cI cJ bb μ) H locs → lv_has ls 9 [(0, .ref b), (1, .ref (a 0)), (2, .ref (bb 0)), (3, .ref o), (4, .int v4)] → W p l e room_1 s m #[Value.ref b] below meth c H locs (cells + 4) (slots + 24) Q (F0 m 1735 ls [])) : W p l e room_1 s m #[Value.ref b] below meth c H locs cells slots Q (F0 m 1637 ls []) := by
  obtain ⟨hx, hb, hr, hml, hown, hts0, hX, hbl, hlocks, hgv⟩ := C0
  have hts : ∀ w ∈ wsL_law, w.before #[Value.ref b] s = true := fun w h => hts0 w (wsL_law_in w h)
  have hA : ∀ q : Nat, s.heap.size ≤ q → (fun q : Nat => s.heap.size ≤ q) q := fun _ h => h
  have hbA : ¬ (fun q : Nat => s.heap.size ≤ q) b := Nat.not_le.mpr hbl
  refine lv_aload_n hx hb dL_law_1637 rfl (lv_at hl 1 rfl) ?_
  rw [hWW_assoc] at hW
  refine kVL_Md (w1 := cW cI cJ a σ) (w2 := [(o, .inl (cJ, 1, .inr (.inl f)))] ++ mW cI cJ bb μ) (As := []) (rest := []) ⟨hx, hb, hml, hown, hts⟩ (ok_X4_chestShare l D cI cJ a _ _ _ hw) (cwV 0 hts gL_law_X4_chestShare rfl rfl rfl (by decide +kernel) ⟨(Nat.le_of_ble_eq_true rfl), (Nat.le_of_ble_eq_true rfl)⟩) hK hW hA 0 rfl rfl rfl hl.1 rfl (Nat.le_of_ble_eq_true rfl) dL_law_1638 ⟨by show cells + 0 ≤ 601024; omega, by show slots + 0 ≤ 7293034; omega⟩ (fun r_1 _ H locs hw hW => ?_)
  rw [← hWW_assoc] at hW
  refine lv_dstore (lv' := [(5, .double r_1), (0, .ref b), (1, .ref (a 0)), (2, .ref (bb 0)), (3, .ref o), (4, .int v4)]) hx hb dL_law_1641 hl (by decide) rfl (fun ls hl => ?_)
  refine lv_aload_n hx hb dL_law_1643 rfl (lv_at hl 3 rfl) ?_
  refine kVR_Md (w1 := hWW cI cJ a o σ f) (w2 := mW cI cJ bb μ) (As := []) (rest := []) ⟨hx, hb, hml, hown, hts⟩ (ok_X5_chestShare l D cI cJ bb _ _ _ hw) (cwV 0 hts gL_law_X5_chestShare rfl rfl rfl (by decide +kernel) ⟨(Nat.le_of_ble_eq_true rfl), (Nat.le_of_ble_eq_true rfl)⟩) hK hW hA 0 rfl rfl rfl hl.1 rfl (Nat.le_of_ble_eq_true rfl) dL_law_1644 ⟨by show cells + 0 ≤ 601024; omega, by show slots + 0 ≤ 7293034; omega⟩ (fun r_2 μ_3 H locs hw hW => ?_)
  refine lv_dstore (lv' := [(7, .double r_2), (5, .double r_1), (0, .ref b), (1, .ref (a 0)), (2, .ref (bb 0)), (3, .ref o), (4, .int v4)]) hx hb dL_law_1647 hl (by decide) rfl (fun ls hl => ?_)
  refine lv_dload hx hb dL_law_1649 (lv_at hl 1 rfl) ?_
  refine lv_dload hx hb dL_law_1651 (lv_at hl 0 rfl) ?_
  refine lv_dcmp hx hb dL_law_1653 ?_
  refine lv_if_eq (tgt := 1675) hx hb dL_law_1654 (by decide) (fun hc => ?_) (fun hc => ?_)
  · have hw := hw.1 hc
    refine lv_goto (tgt := 1735) hx hb dL_law_1675 (by decide) ?_
    refine W.widen (k := cells + 4) (n := slots + 24) (by omega) (by omega) ?_
    exact kk _ _ _ _ _ _ hw hW (lv_sub hl [2, 3, 4, 5, 6] rfl)
  · have hw := hw.2 hc
    refine lv_dload hx hb dL_law_1657 (lv_at hl 1 rfl) ?_
    refine lv_dload hx hb dL_law_1659 (lv_at hl 1 rfl) ?_
    refine lv_dcmp hx hb dL_law_1661 ?_
    refine lv_if_eq (tgt := 1673) hx hb dL_law_1662 (by decide) (fun hc => ?_) (fun hc => ?_)
    · have hw := hw.1 hc
      refine lv_iconst (v := 0) hx hb dL_law_1673 (by decide) ?_
      exact hw.elim
    · have hw := hw.2 hc
      refine lv_dload hx hb dL_law_1665 (lv_at hl 0 rfl) ?_
      refine lv_dload hx hb dL_law_1667 (lv_at hl 0 rfl) ?_
      refine lv_dcmp hx hb dL_law_1669 ?_
      refine lv_if_ne (tgt := 1675) hx hb dL_law_1670 (by decide) (fun hc => ?_) (fun hc => ?_)
      · have hw := hw.1 hc
        refine lv_goto (tgt := 1735) hx hb dL_law_1675 (by decide) ?_
        refine W.widen (k := cells + 4) (n := slots + 24) (by omega) (by omega) ?_
        exact kk _ _ _ _ _ _ hw hW (lv_sub hl [2, 3, 4, 5, 6] rfl)
      · have hw := hw.2 hc
        refine lv_iconst (v := 0) hx hb dL_law_1673 (by decide) ?_
        exact hw.elim
def wpl_28 (L : Nat) (xs : Nat → Int32) (σ : CS) (f : Nat → Int64) (μ : MS) (v4 : Int32) (K : CS → (Nat → Int64) → MS → Prop) : Prop := wp_X4_meanPrice σ (fun r_1 => vf_n64 (FP.f2d r_1) ∧ ∀ v5_2 : UInt64, v5_2 = (FP.f2d r_1) → wp_X5_meanPrice μ (fun r_3 μ_4 => vf_n64 (FP.f2d r_3) ∧ ∀ v7_5 : UInt64, v7_5 = (FP.f2d r_3) → (((Op.cmpValue (FP.dcmp v5_2 v7_5) .l) = 0 → K σ f μ_4) ∧ (¬ (Op.cmpValue (FP.dcmp v5_2 v7_5) .l) = 0 → (((Op.cmpValue (FP.dcmp v5_2 v5_2) .l) = 0 → False) ∧ (¬ (Op.cmpValue (FP.dcmp v5_2 v5_2) .l) = 0 → ((¬ (Op.cmpValue (FP.dcmp v7_5 v7_5) .l) = 0 → K σ f μ_4) ∧ ((Op.cmpValue (FP.dcmp v7_5 v7_5) .l) = 0 → False))))))))
set_option maxHeartbeats 4000000 in
set_option maxRecDepth 100000 in
theorem law_c28 {p : Program} {l : Launch} {e : Env} {s : State} {m : MethodId} {below : List Frame} {meth : Method} {c : Code} {b L : Nat} {xs : Nat → Int32} (hst : l.stackTraces = false) (C0 : lw_At p s m meth c b L xs) {D : va_G} {cI cJ : ClassId} (hK : va_K D vwCl (tysIJ cI cJ) s) (hz : ZX (fun q : Nat => s.heap.size ≤ q) s s.heap) (hs : SX s) (hnc : NCX s) {a bb : Nat → Nat} {o : Nat} {Q : State → Prop} {cells slots : Nat} (hc1 : cells + 4 ≤ 601024) (hc2 : slots + 24 ≤ 7293034) {σ : CS} {f : Nat → Int64} {μ : MS} {v4 : Int32} {K : CS → (Nat → Int64) → MS → Prop} (hw : wpl_28 L xs σ f μ v4 K) {H : Heap} {locs : List Loc} {ls : Array Slot} (hW : Wd D (fun q : Nat => s.heap.size ≤ q) s.heap (hWW cI cJ a o σ f ++ mW cI cJ bb μ) H locs) (hl : lv_has ls 9 [(0, .ref b), (1, .ref (a 0)), (2, .ref (bb 0)), (3, .ref o), (4, .int v4)])
    (kk : ∀ (σ : CS) (f : Nat → Int64) (μ : MS) (H : Heap) (locs : List Loc) (ls : Array Slot), K σ f μ → Wd D (fun q : Nat => s.heap.size ≤ q) s.heap (hWW cI cJ a o σ f ++ mW cI cJ bb μ) H locs → lv_has ls 9 [(0, .ref b), (1, .ref (a 0)), (2, .ref (bb 0)), (3, .ref o), (4, .int v4)] → W p l e room_1 s m #[Value.ref b] below meth c H locs (cells + 4) (slots + 24) Q (F0 m 1735 ls [])) : W p l e room_1 s m #[Value.ref b] below meth c H locs cells slots Q (F0 m 1678 ls []) := by
  obtain ⟨hx, hb, hr, hml, hown, hts0, hX, hbl, hlocks, hgv⟩ := C0
  have hts : ∀ w ∈ wsL_law, w.before #[Value.ref b] s = true := fun w h => hts0 w (wsL_law_in w h)
  have hA : ∀ q : Nat, s.heap.size ≤ q → (fun q : Nat => s.heap.size ≤ q) q := fun _ h => h
  have hbA : ¬ (fun q : Nat => s.heap.size ≤ q) b := Nat.not_le.mpr hbl
  refine lv_aload_n hx hb dL_law_1678 rfl (lv_at hl 1 rfl) ?_
  rw [hWW_assoc] at hW
  refine kVL_Mf (w1 := cW cI cJ a σ) (w2 := [(o, .inl (cJ, 1, .inr (.inl f)))] ++ mW cI cJ bb μ) (As := []) (rest := []) ⟨hx, hb, hml, hown, hts⟩ (ok_X4_meanPrice l D cI cJ a _ _ _ hw) (cwV 0 hts gL_law_X4_meanPrice rfl rfl rfl (by decide +kernel) ⟨(Nat.le_of_ble_eq_true rfl), (Nat.le_of_ble_eq_true rfl)⟩) hK hW hA 0 rfl rfl rfl hl.1 rfl (Nat.le_of_ble_eq_true rfl) dL_law_1679 ⟨by show cells + 0 ≤ 601024; omega, by show slots + 0 ≤ 7293034; omega⟩ (fun r_1 _ H locs hw hW => ?_)
  rw [← hWW_assoc] at hW
  refine lv_f2d hx hb dL_law_1682 hw.1 ?_
  have hw := hw.2
  refine lv_topd (fun v5_2 ev5_2 => ?_)
  have hw := hw v5_2 ev5_2
  refine lv_dstore (lv' := [(5, .double v5_2), (0, .ref b), (1, .ref (a 0)), (2, .ref (bb 0)), (3, .ref o), (4, .int v4)]) hx hb dL_law_1683 hl (by decide) rfl (fun ls hl => ?_)
  refine lv_aload_n hx hb dL_law_1685 rfl (lv_at hl 3 rfl) ?_
  refine kVR_Mf (w1 := hWW cI cJ a o σ f) (w2 := mW cI cJ bb μ) (As := []) (rest := []) ⟨hx, hb, hml, hown, hts⟩ (ok_X5_meanPrice l D cI cJ bb _ _ _ hw) (cwV 0 hts gL_law_X5_meanPrice rfl rfl rfl (by decide +kernel) ⟨(Nat.le_of_ble_eq_true rfl), (Nat.le_of_ble_eq_true rfl)⟩) hK hW hA 0 rfl rfl rfl hl.1 rfl (Nat.le_of_ble_eq_true rfl) dL_law_1686 ⟨by show cells + 0 ≤ 601024; omega, by show slots + 0 ≤ 7293034; omega⟩ (fun r_3 μ_4 H locs hw hW => ?_)
  refine lv_f2d hx hb dL_law_1689 hw.1 ?_
  have hw := hw.2
  refine lv_topd (fun v7_5 ev7_5 => ?_)
  have hw := hw v7_5 ev7_5
  refine lv_dstore (lv' := [(7, .double v7_5), (5, .double v5_2), (0, .ref b), (1, .ref (a 0)), (2, .ref (bb 0)), (3, .ref o), (4, .int v4)]) hx hb dL_law_1690 hl (by decide) rfl (fun ls hl => ?_)
  refine lv_dload hx hb dL_law_1692 (lv_at hl 1 rfl) ?_
  refine lv_dload hx hb dL_law_1694 (lv_at hl 0 rfl) ?_
  refine lv_dcmp hx hb dL_law_1696 ?_
  refine lv_if_eq (tgt := 1718) hx hb dL_law_1697 (by decide) (fun hc => ?_) (fun hc => ?_)
  · have hw := hw.1 hc
    refine lv_goto (tgt := 1735) hx hb dL_law_1718 (by decide) ?_
    refine W.widen (k := cells + 4) (n := slots + 24) (by omega) (by omega) ?_
    exact kk _ _ _ _ _ _ hw hW (lv_sub hl [2, 3, 4, 5, 6] rfl)
  · have hw := hw.2 hc
    refine lv_dload hx hb dL_law_1700 (lv_at hl 1 rfl) ?_
    refine lv_dload hx hb dL_law_1702 (lv_at hl 1 rfl) ?_
    refine lv_dcmp hx hb dL_law_1704 ?_
    refine lv_if_eq (tgt := 1716) hx hb dL_law_1705 (by decide) (fun hc => ?_) (fun hc => ?_)
    · have hw := hw.1 hc
      refine lv_iconst (v := 0) hx hb dL_law_1716 (by decide) ?_
      exact hw.elim
    · have hw := hw.2 hc
      refine lv_dload hx hb dL_law_1708 (lv_at hl 0 rfl) ?_
      refine lv_dload hx hb dL_law_1710 (lv_at hl 0 rfl) ?_
      refine lv_dcmp hx hb dL_law_1712 ?_
      refine lv_if_ne (tgt := 1718) hx hb dL_law_1713 (by decide) (fun hc => ?_) (fun hc => ?_)
      · have hw := hw.1 hc
        refine lv_goto (tgt := 1735) hx hb dL_law_1718 (by decide) ?_
        refine W.widen (k := cells + 4) (n := slots + 24) (by omega) (by omega) ?_
        exact kk _ _ _ _ _ _ hw hW (lv_sub hl [2, 3, 4, 5, 6] rfl)
      · have hw := hw.2 hc
        refine lv_iconst (v := 0) hx hb dL_law_1716 (by decide) ?_
        exact hw.elim
def wpl_29 (L : Nat) (xs : Nat → Int32) (σ : CS) (f : Nat → Int64) (μ : MS) (v4 : Int32) (K : CS → (Nat → Int64) → MS → Prop) : Prop := wp_X4_digest σ (fun r_1 σ_2 => wp_X5_digest μ (fun r_3 μ_4 => (((lg_cmp r_1 r_3) = 0 → K σ_2 f μ_4) ∧ (¬ (lg_cmp r_1 r_3) = 0 → False))))
set_option maxHeartbeats 4000000 in
set_option maxRecDepth 100000 in
theorem law_c29 {p : Program} {l : Launch} {e : Env} {s : State} {m : MethodId} {below : List Frame} {meth : Method} {c : Code} {b L : Nat} {xs : Nat → Int32} (hst : l.stackTraces = false) (C0 : lw_At p s m meth c b L xs) {D : va_G} {cI cJ : ClassId} (hK : va_K D vwCl (tysIJ cI cJ) s) (hz : ZX (fun q : Nat => s.heap.size ≤ q) s s.heap) (hs : SX s) (hnc : NCX s) {a bb : Nat → Nat} {o : Nat} {Q : State → Prop} {cells slots : Nat} (hc1 : cells + 4 ≤ 601024) (hc2 : slots + 24 ≤ 7293034) {σ : CS} {f : Nat → Int64} {μ : MS} {v4 : Int32} {K : CS → (Nat → Int64) → MS → Prop} (hw : wpl_29 L xs σ f μ v4 K) {H : Heap} {locs : List Loc} {ls : Array Slot} (hW : Wd D (fun q : Nat => s.heap.size ≤ q) s.heap (hWW cI cJ a o σ f ++ mW cI cJ bb μ) H locs) (hl : lv_has ls 9 [(0, .ref b), (1, .ref (a 0)), (2, .ref (bb 0)), (3, .ref o), (4, .int v4)])
    (kk : ∀ (σ : CS) (f : Nat → Int64) (μ : MS) (H : Heap) (locs : List Loc) (ls : Array Slot), K σ f μ → Wd D (fun q : Nat => s.heap.size ≤ q) s.heap (hWW cI cJ a o σ f ++ mW cI cJ bb μ) H locs → lv_has ls 9 [(0, .ref b), (1, .ref (a 0)), (2, .ref (bb 0)), (3, .ref o), (4, .int v4)] → W p l e room_1 s m #[Value.ref b] below meth c H locs (cells + 4) (slots + 24) Q (F0 m 1735 ls [])) : W p l e room_1 s m #[Value.ref b] below meth c H locs cells slots Q (F0 m 1721 ls []) := by
  obtain ⟨hx, hb, hr, hml, hown, hts0, hX, hbl, hlocks, hgv⟩ := C0
  have hts : ∀ w ∈ wsL_law, w.before #[Value.ref b] s = true := fun w h => hts0 w (wsL_law_in w h)
  have hA : ∀ q : Nat, s.heap.size ≤ q → (fun q : Nat => s.heap.size ≤ q) q := fun _ h => h
  have hbA : ¬ (fun q : Nat => s.heap.size ≤ q) b := Nat.not_le.mpr hbl
  refine lv_aload_n hx hb dL_law_1721 rfl (lv_at hl 1 rfl) ?_
  rw [hWW_assoc] at hW
  refine kVL_Ml (w1 := cW cI cJ a σ) (w2 := [(o, .inl (cJ, 1, .inr (.inl f)))] ++ mW cI cJ bb μ) (As := []) (rest := []) ⟨hx, hb, hml, hown, hts⟩ (ok_X4_digest l D cI cJ a _ _ _ hw) (cwV 0 hts gL_law_X4_digest rfl rfl rfl (by decide +kernel) ⟨(Nat.le_of_ble_eq_true rfl), (Nat.le_of_ble_eq_true rfl)⟩) hK hW hA 0 rfl rfl rfl hl.1 rfl (Nat.le_of_ble_eq_true rfl) dL_law_1722 ⟨by show cells + 0 ≤ 601024; omega, by show slots + 0 ≤ 7293034; omega⟩ (fun r_1 σ_2 H locs hw hW => ?_)
  rw [← hWW_assoc] at hW
  refine lv_aload_n hx hb dL_law_1725 rfl (lv_at hl 2 rfl) ?_
  refine kVR_Ml (w1 := hWW cI cJ a o σ_2 f) (w2 := mW cI cJ bb μ) (As := []) (rest := [.long r_1]) ⟨hx, hb, hml, hown, hts⟩ (ok_X5_digest l D cI cJ bb _ _ _ hw) (cwV 0 hts gL_law_X5_digest rfl rfl rfl (by decide +kernel) ⟨(Nat.le_of_ble_eq_true rfl), (Nat.le_of_ble_eq_true rfl)⟩) hK hW hA 0 rfl rfl rfl hl.1 rfl (Nat.le_of_ble_eq_true rfl) dL_law_1726 ⟨by show cells + 0 ≤ 601024; omega, by show slots + 0 ≤ 7293034; omega⟩ (fun r_3 μ_4 H locs hw hW => ?_)
  refine W.lcmp hx hb dL_law_1729 ?_
  refine lv_if_eq (tgt := 1735) hx hb dL_law_1730 (by decide) (fun hc => ?_) (fun hc => ?_)
  · have hw := hw.1 hc
    refine W.widen (k := cells + 4) (n := slots + 24) (by omega) (by omega) ?_
    exact kk _ _ _ _ _ _ hw hW (lv_sub hl [0, 1, 2, 3, 4] rfl)
  · have hw := hw.2 hc
    refine lv_iconst (v := 0) hx hb dL_law_1733 (by decide) ?_
    exact hw.elim
