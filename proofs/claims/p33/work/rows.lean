section
-- ===== PART A: goes FIRST, ahead of the names: the tables' words, and 'selects' of the private methods out of them =====
/-- a private method of a class that the tables say can be made, by its rows of tables_1 -/
def lw_okq (q : MethodName × Nat) : Prop := (q.1.cls ≠ "java/lang/invoke/MethodHandle" ∧ q.1.cls ≠ "java/lang/invoke/VarHandle") ∧ Cond.instantiable q.1.cls q.2 ∈ tables_1 ∧ Cond.privateMethod q.1 ∈ tables_1 ∧ Cond.instanceMethod q.1 ∈ tables_1
theorem lw_p0 : lw_okq (⟨"SealedSpots$State", "fill", "(III)V"⟩, 1) := ⟨⟨by decide +kernel, by decide +kernel⟩, List.mem_of_getElem? (i := 22) (by decide +kernel), List.mem_of_getElem? (i := 28) (by decide +kernel), List.mem_of_getElem? (i := 29) (by decide +kernel)⟩
theorem lw_p1 : lw_okq (⟨"java/lang/Throwable", "fillInStackTrace", "(I)Ljava/lang/Throwable;"⟩, 6) := ⟨⟨by decide +kernel, by decide +kernel⟩, List.mem_of_getElem? (i := 169) (by decide +kernel), List.mem_of_getElem? (i := 167) (by decide +kernel), List.mem_of_getElem? (i := 168) (by decide +kernel)⟩
theorem lw_p2 : lw_okq (⟨"SealedSpots", "numberOfBid", "(III)I"⟩, 4) := ⟨⟨by decide +kernel, by decide +kernel⟩, List.mem_of_getElem? (i := 14) (by decide +kernel), List.mem_of_getElem? (i := 324) (by decide +kernel), List.mem_of_getElem? (i := 325) (by decide +kernel)⟩
theorem lw_p3 : lw_okq (⟨"SealedSpots$History", "dropOldest", "()V"⟩, 4) := ⟨⟨by decide +kernel, by decide +kernel⟩, List.mem_of_getElem? (i := 55) (by decide +kernel), List.mem_of_getElem? (i := 347) (by decide +kernel), List.mem_of_getElem? (i := 348) (by decide +kernel)⟩
theorem lw_p4 : lw_okq (⟨"SealedSpots$State", "putInChest", "(II)V"⟩, 1) := ⟨⟨by decide +kernel, by decide +kernel⟩, List.mem_of_getElem? (i := 22) (by decide +kernel), List.mem_of_getElem? (i := 386) (by decide +kernel), List.mem_of_getElem? (i := 387) (by decide +kernel)⟩
theorem lw_p5 : lw_okq (⟨"SealedSpots", "shareOut", "()I"⟩, 4) := ⟨⟨by decide +kernel, by decide +kernel⟩, List.mem_of_getElem? (i := 14) (by decide +kernel), List.mem_of_getElem? (i := 395) (by decide +kernel), List.mem_of_getElem? (i := 396) (by decide +kernel)⟩
theorem lw_p6 : lw_okq (⟨"SealedSpots", "findSharing", "()V"⟩, 4) := ⟨⟨by decide +kernel, by decide +kernel⟩, List.mem_of_getElem? (i := 14) (by decide +kernel), List.mem_of_getElem? (i := 399) (by decide +kernel), List.mem_of_getElem? (i := 400) (by decide +kernel)⟩
theorem lw_p7 : lw_okq (⟨"SealedSpots$Sharing", "lookAtSpot", "(I)V"⟩, 2) := ⟨⟨by decide +kernel, by decide +kernel⟩, List.mem_of_getElem? (i := 41) (by decide +kernel), List.mem_of_getElem? (i := 424) (by decide +kernel), List.mem_of_getElem? (i := 425) (by decide +kernel)⟩
theorem lw_p8 : lw_okq (⟨"SealedSpots$Sharing", "mostOf", "(I)J"⟩, 2) := ⟨⟨by decide +kernel, by decide +kernel⟩, List.mem_of_getElem? (i := 41) (by decide +kernel), List.mem_of_getElem? (i := 437) (by decide +kernel), List.mem_of_getElem? (i := 438) (by decide +kernel)⟩
theorem lw_p9 : lw_okq (⟨"SealedSpots$State", "swim", "(II)V"⟩, 1) := ⟨⟨by decide +kernel, by decide +kernel⟩, List.mem_of_getElem? (i := 22) (by decide +kernel), List.mem_of_getElem? (i := 504) (by decide +kernel), List.mem_of_getElem? (i := 505) (by decide +kernel)⟩
theorem lw_p10 : lw_okq (⟨"SealedSpots", "leastWinning", "(II)I"⟩, 4) := ⟨⟨by decide +kernel, by decide +kernel⟩, List.mem_of_getElem? (i := 14) (by decide +kernel), List.mem_of_getElem? (i := 567) (by decide +kernel), List.mem_of_getElem? (i := 568) (by decide +kernel)⟩
def lw_privs_1 : List (MethodName × Nat) := [(⟨"SealedSpots$State", "fill", "(III)V"⟩, 1), (⟨"java/lang/Throwable", "fillInStackTrace", "(I)Ljava/lang/Throwable;"⟩, 6), (⟨"SealedSpots", "numberOfBid", "(III)I"⟩, 4), (⟨"SealedSpots$History", "dropOldest", "()V"⟩, 4), (⟨"SealedSpots$State", "putInChest", "(II)V"⟩, 1), (⟨"SealedSpots", "shareOut", "()I"⟩, 4), (⟨"SealedSpots", "findSharing", "()V"⟩, 4), (⟨"SealedSpots$Sharing", "lookAtSpot", "(I)V"⟩, 2), (⟨"SealedSpots$Sharing", "mostOf", "(I)J"⟩, 2), (⟨"SealedSpots$State", "swim", "(II)V"⟩, 1), (⟨"SealedSpots", "leastWinning", "(II)I"⟩, 4)]
theorem lw_r1 : ∀ q ∈ lw_privs_1, lw_okq q := List.forall_mem_cons.mpr ⟨lw_p0, List.forall_mem_cons.mpr ⟨lw_p1, List.forall_mem_cons.mpr ⟨lw_p2, List.forall_mem_cons.mpr ⟨lw_p3, List.forall_mem_cons.mpr ⟨lw_p4, List.forall_mem_cons.mpr ⟨lw_p5, List.forall_mem_cons.mpr ⟨lw_p6, List.forall_mem_cons.mpr ⟨lw_p7, List.forall_mem_cons.mpr ⟨lw_p8, List.forall_mem_cons.mpr ⟨lw_p9, List.forall_mem_cons.mpr ⟨lw_p10, fun _ h => absurd h List.not_mem_nil⟩⟩⟩⟩⟩⟩⟩⟩⟩⟩⟩
def lw_privs : List (MethodName × Nat) := lw_privs_1
def lw_tbl : List Cond := k2_sels lw_privs ++ tables_1
theorem lw_privs_ok : ∀ q ∈ lw_privs, lw_okq q := lw_r1
/-- the streams that the claim lets the run draw from -/
abbrev lw_cs : List Choice := [Jvm.Choice.named "NaN.bits"]
theorem lw_bits : nanBits ∈ lw_cs := by first | decide | exact List.mem_cons_self | simp [lw_cs, nanBits]
-- ===== end of PART A; then your names; then what follows =====
end
section
/-! ===== BEGIN words of one list among another's, by their places ===== -/
theorem goodIn_r {big : List Cond} (ws : List Cond) (ps : List Nat) (hp : ws = ps.filterMap (fun i => big[i]?)) (h : ws.all goodWord = true) : GoodIn big ws := by
  intro w hw
  have h1 := List.all_eq_true.mp h w hw
  rw [hp] at hw
  obtain ⟨i, -, hi⟩ := List.mem_filterMap.mp hw
  have hm : w ∈ big := by first | exact List.mem_of_getElem? hi | exact List.getElem?_mem hi
  exact ⟨hm, good_of_word h1⟩
theorem goodIn_app {big a b : List Cond} (ha : GoodIn big a) (hb : GoodIn big b) : GoodIn big (a ++ b) := fun w h => (List.mem_append.mp h).elim (ha w) (hb w)
theorem goodIn_ca {big a b : List Cond} {c : Cond} (ha : GoodIn big (c :: a)) (hb : GoodIn big b) : GoodIn big (c :: (a ++ b)) := fun w h => (List.mem_cons.mp h).elim (fun e => ha w (List.mem_cons.mpr (Or.inl e))) (fun h => (List.mem_append.mp h).elim (fun h => ha w (List.mem_cons.mpr (Or.inr h))) (hb w))
theorem goodIn_sub {big ws : List Cond} (hm : ∀ w ∈ ws, w ∈ big) (h : ws.all goodWord = true) : GoodIn big ws := fun w hw => ⟨hm w hw, good_of_word (List.all_eq_true.mp h w hw)⟩
/-! ===== END ===== -/

/-! ===== BEGIN exceptions that leave a method, and their catching by the caller (launches without stack traces) ===== -/
section VXA
/-! The laws vx_back, vx_callV, vx_callS, vx_callSW, vx_throw0, vx_throwS follow proofs of the library, with one case more: JvmDerived/Free/Laws.lean (Back.of_free), Shelf42/LK1.lean (callV, callS), Shelf/KitTraced.lean (throwNew0V, throwNewS). -/
/-- where a method has thrown q: the class by its name, the cell, what was written, the world -/
def vx_T (XC : String → State → State → Prop) (st : State) (q : Addr) (t : State) (mc ms : Nat) (free : Addr → Prop) : Prop :=
  ∃ (E : String) (ce : Cell) (L : List Loc), XC E st t ∧ t.heap[q]? = some ce ∧ ce.vm = .none ∧ st.vm.findClass E = some ce.cls ∧ st.WarmedH t.vm ∧ st.sameButNew ({ t with vm := st.vm } : State) L mc ms ∧ ∀ z ∈ L, free z.base
def vx_Q (Qc : Array Value → State → Outcome → State → Prop) (XC : String → State → State → Prop) (mc ms : Nat) (free : Addr → Prop) : Array Value → State → Outcome → State → Prop := fun a st o t =>
  (Qc a st o t ∧ ∃ L, FrameEnd st o t L mc ms ∧ ∀ q ∈ L, free q.base) ∨ ∃ q, o = .threw q ∧ vx_T XC st q t mc ms free
/-- a callee that returns or throws -/
def vx_Met (l : Launch) (y : MethodName) (ws : List Cond) (rm : Room) (Pc : Array Value → State → Prop) (Qc : Array Value → State → Outcome → State → Prop) (XC : String → State → State → Prop) (mc ms : Nat) (free : Addr → Prop) : Prop :=
  MetFree l y (headSpec ws rm) Pc (fun _ _ _ _ _ => True) (vx_Q Qc XC mc ms free)
def vx_Post (XC : String → State → State → Prop) (mc ms : Nat) (free : Addr → Prop) : Pt → Array Value → Addr → Pt → Prop := fun A a q B =>
  ∃ (g : JFrame) (mk : MethodId) (t : State) (L : List Loc) (E : String) (ce : Cell), B.U.heap = t.heap ∧ B.U.vm = t.vm ∧ XC E (A.U.calling g mk a) t ∧ t.heap[q]? = some ce ∧ ce.vm = .none ∧ A.U.vm.findClass E = some ce.cls ∧ B.locs = A.locs ++ L ∧ (∀ z ∈ L, free z.base) ∧ B.cells = A.cells + mc ∧ B.slots = A.slots + ms
def vx_Back (l : Launch) (R : Room) (p : Program) (e : Env) (below : List Frame) (s : State) (sargs : Array Value) (y : MethodName) (len W9 : Nat)
    (Pre : Pt → Array Value → Prop) (Post : Pt → Array Value → Option Value → Pt → Prop) (PostX : Pt → Array Value → Addr → Pt → Prop) : Prop :=
  ∀ (m : MethodId) (meth : Method) (c : Code) (A : Pt) (g : JFrame) (ig : Instr) (mk : MethodId) (a : Array Value),
    Stand p l e R s m sargs below meth c A.U A.locs A.cells A.slots → g.method = m → g.locals.size = c.maxLocals → decode c.code g.pc = .ok (ig, len) →
    2 * g.monitorRoom + (g.stack.map fun v => v.category).sum ≤ W9 → A.U.methodNamed? y = some mk → Pre A a →
    (∃ (v : Option Value) (B : Pt), Stand p l e R s m sargs below meth c B.U B.locs B.cells B.slots ∧ Post A a v B ∧
      Steps p.tables e below (doInvoke e (A.U.setTop g) [] mk a).1 (B.U.setTop { g with pc := g.pc + len, stack := v.toList ++ g.stack })) ∨
    (∃ (q : Addr) (B : Pt), Stand p l e R s m sargs below meth c B.U B.locs B.cells B.slots ∧ PostX A a q B ∧
      Steps p.tables e below (doInvoke e (A.U.setTop g) [] mk a).1 ((B.U.setTop g).pushFrame (.throwing q)))
section Payer
variable {l : Launch} {R : Room} {p : Program} {e : Env} {below : List Frame} {s : State} {sargs : Array Value} {y : MethodName} {len W9 : Nat}
theorem vx_back {ws : List Cond} {rm : Room} {Pc : Array Value → State → Prop} {Qc : Array Value → State → Outcome → State → Prop} {XC : String → State → State → Prop} {mc ms : Nat} {free : Addr → Prop} {bytes : ByteArray} {maxL : Nat} {ret : Option FieldType}
    (hM : vx_Met l y ws rm Pc Qc XC mc ms free) (hblind : FrameBlind Pc) (hrc : rm.cells = mc) (hrs : rm.slots = ms)
    (hframes : rm.frames + 1 ≤ R.frames) (hlocals : W9 + (maxL + 11) + rm.locals ≤ R.locals)
    (hws : ∀ w ∈ ws, ∀ a' U, s.WarmedH U.vm → w.before a' U = true) (hcode : Cond.code y bytes maxL ret ∈ ws) (hinit : ∀ a' U, s.WarmedH U.vm → (Cond.initialized y.cls).before a' U = true) :
    vx_Back l R p e below s sargs y len W9 (PreOf R mc ms Pc) (PostOf Qc mc ms free) (vx_Post XC mc ms free) := by
  intro m meth c A g ig mk a X hg hsize hdg hW hn hp
  have h1 : (headSpec ws rm).pre.before a A.U = true := atoms_intro fun w hw => hws w hw _ _ X.warmed
  have h2 : (Cond.code y bytes maxL ret).before a A.U = true := hws _ hcode _ _ X.warmed
  have h3 : (Cond.initialized y.cls).before a A.U = true := hinit _ _ X.warmed
  have h4 : A.cells + (headSpec ws rm).room.cells ≤ R.cells := by rw [show (headSpec ws rm).room.cells = mc from hrc]; exact hp.1
  have h5 : A.slots + (headSpec ws rm).room.slots ≤ R.slots := by rw [show (headSpec ws rm).room.slots = ms from hrs]; exact hp.2.1
  have hPc : Pc a (A.U.calling g mk a) := hblind _ _ _ _ hp.2.2
  obtain ⟨U, Ls, c0, s0⟩ := A
  dsimp only [Pt.U, Pt.locs, Pt.cells, Pt.slots] at h1 h2 h3 h4 h5 X hn hPc ⊢
  obtain ⟨methY, cY, hmY, hcY, -, hlY, -, -, -, -⟩ := Cond.code_spec hn h2
  obtain ⟨kY, hkY, -⟩ := className_of_methodNamed hn
  have hinitY : kY.init = .initialized := Cond.initialized_spec (findClass_of_methodNamed hn) hkY h3
  have h : At U g.method c below := by rw [hg]; exact X.here
  have hlocals9 : W9 + (maxL + 11) + (headSpec ws rm).room.locals ≤ R.locals := hlocals
  have happ : (headSpec ws rm).appliesLoose y e.platform (U.calling g mk a) = true :=
    Spec.appliesLoose_calling (g := g) h hdg hn hkY hinitY
      (X.room_calling (g := g) (R' := (headSpec ws rm).room) hsize hmY hcY hframes (by rw [hlY]; omega) h4 h5) h1
  obtain ⟨mid, hmid⟩ := h.above
  have hfr : (U.setTop g).frames = (.java g :: mid) ++ below := by rw [State.frames_setTop' g h.top, hmid]; rfl
  obtain ⟨o, s₂, hsteps, -, hend, hq⟩ := Steps.callFree hM p X.admits X.cas X.clock (acts := []) hfr happ hPc trivial
  have hq' : vx_Q Qc XC mc ms free a (U.calling g mk a) o s₂ := hq
  rw [State.frames_setTop' g h.top] at hend
  obtain ⟨g₀, hg0⟩ := Option.isSome_iff_exists.mp h.top
  obtain ⟨r, hr⟩ := State.topJava?_eq_some.mp hg0
  have hr' : (({ U with heap := s₂.heap, slotsUsed := s₂.slotsUsed } : State).setVm s₂.vm).frames = .java g₀ :: r := hr
  rcases hq' with ⟨hqc, L, hfe, hL⟩ | ⟨q, rfl, E, ce, L, hx, hce, hcv, hcl, hW₂, hsm, hL⟩
  · obtain ⟨⟨v, rfl⟩, hW₂, e2, q2, q3, q4, q5, q6⟩ := id hfe
    have e3 : s₂ = ({ (U.calling g mk a).setFrames s₂.frames with heap := s₂.heap, slotsUsed := s₂.slotsUsed } : State).setVm s₂.vm := by
      have : s₂ = ({ s₂ with vm := (U.calling g mk a).vm } : State).setVm s₂.vm := rfl
      rw [e2] at this
      exact this
    obtain ⟨c₂, i₂, len₂, hc₂, hd₂, hf₂⟩ := hend
    have hW' : U.WarmedH s₂.vm := hW₂
    have hcc : c₂ = c := by
      have h1 : s₂.code? g.method = U.code? g.method := by
        rw [State.code?_eq, State.code?_eq, hW'.alike.method?]
      exact Option.some.inj (hc₂.symm.trans (h1.trans h.code))
    subst hcc
    have hlen : len₂ = len := by rw [hdg] at hd₂; cases hd₂; rfl
    subst hlen
    have hs₂ : s₂ = (({ U with heap := s₂.heap, slotsUsed := s₂.slotsUsed } : State).setVm s₂.vm).setTop { g with pc := g.pc + len₂, stack := v.toList ++ g.stack } := by
      refine e3.trans ?_
      rw [hf₂, State.calling_eq h.top, State.setFrames_setFrames, State.setTop_of_frames _ hr', hr]
      rfl
    have hsame : U.sameButNew ({ U with heap := s₂.heap, slotsUsed := s₂.slotsUsed } : State) L mc ms := by
      refine ⟨?_, q2, q3, q4, q5, q6⟩
      obtain ⟨t, ht, -⟩ := State.frames_cons hr
      show ({ U with heap := s₂.heap, slotsUsed := s₂.slotsUsed } : State) = { U.setFrames U.frames with heap := s₂.heap, slotsUsed := s₂.slotsUsed }
      rw [State.setFrames_self ht]
    subst hg
    refine Or.inl ⟨v, ⟨(({ U with heap := s₂.heap, slotsUsed := s₂.slotsUsed } : State).setVm s₂.vm), Ls ++ L, c0 + mc, s0 + ms⟩,
      ⟨X.admits, X.cas, X.clock, X.frames, X.room, X.hears, X.method, X.code, (X.here.setHeapUsed s₂.heap s₂.slotsUsed).setVm hW'.alike, X.tail, State.WarmedH.trans X.warmed hW', X.limits, X.bytes, X.same.trans (hsame.setVm s.vm)⟩,
      ⟨g, mk, s₂, L, rfl, rfl, hqc, rfl, hL, rfl, rfl⟩, ?_⟩
    show Steps p.tables e below _ ((({ U with heap := s₂.heap, slotsUsed := s₂.slotsUsed } : State).setVm s₂.vm).setTop { g with pc := g.pc + len₂, stack := v.toList ++ g.stack })
    rw [← hs₂]
    exact hsteps
  · obtain ⟨e2, q2, q3, q4, q5, q6⟩ := id hsm
    have e3 : s₂ = ({ (U.calling g mk a).setFrames s₂.frames with heap := s₂.heap, slotsUsed := s₂.slotsUsed } : State).setVm s₂.vm := by
      have : s₂ = ({ s₂ with vm := (U.calling g mk a).vm } : State).setVm s₂.vm := rfl
      rw [e2] at this
      exact this
    have hf₂ : s₂.frames = .throwing q :: .java g :: U.frames.tail := hend
    have hW' : U.WarmedH s₂.vm := hW₂
    have hs₂ : s₂ = ((({ U with heap := s₂.heap, slotsUsed := s₂.slotsUsed } : State).setVm s₂.vm).setTop g).pushFrame (.throwing q) := by
      refine e3.trans ?_
      rw [hf₂, State.calling_eq h.top, State.setFrames_setFrames, State.pushFrame, State.frames_setTop _ hr', State.setTop_of_frames _ hr', State.setFrames_setFrames, hr]
      rfl
    have hsame : U.sameButNew ({ U with heap := s₂.heap, slotsUsed := s₂.slotsUsed } : State) L mc ms := by
      refine ⟨?_, q2, q3, q4, q5, q6⟩
      obtain ⟨t, ht, -⟩ := State.frames_cons hr
      show ({ U with heap := s₂.heap, slotsUsed := s₂.slotsUsed } : State) = { U.setFrames U.frames with heap := s₂.heap, slotsUsed := s₂.slotsUsed }
      rw [State.setFrames_self ht]
    subst hg
    refine Or.inr ⟨q, ⟨(({ U with heap := s₂.heap, slotsUsed := s₂.slotsUsed } : State).setVm s₂.vm), Ls ++ L, c0 + mc, s0 + ms⟩,
      ⟨X.admits, X.cas, X.clock, X.frames, X.room, X.hears, X.method, X.code, (X.here.setHeapUsed s₂.heap s₂.slotsUsed).setVm hW'.alike, X.tail, State.WarmedH.trans X.warmed hW', X.limits, X.bytes, X.same.trans (hsame.setVm s.vm)⟩,
      ⟨g, mk, s₂, L, E, ce, rfl, rfl, hx, hce, hcv, hcl, rfl, hL, rfl, rfl⟩, ?_⟩
    show Steps p.tables e below _ (((({ U with heap := s₂.heap, slotsUsed := s₂.slotsUsed } : State).setVm s₂.vm).setTop g).pushFrame (.throwing q))
    rw [← hs₂]
    exact hsteps
end Payer
section Calls
variable {p : Program} {l : Launch} {e : Env} {R : Room} {s : State} {m : MethodId} {args : Array Value} {below : List Frame} {meth : Method} {c : Code} {T : State} {locs : List Loc} {cells slots : Nat}
theorem vx_callV (X : Stand p l e R s m args below meth c T locs cells slots) (hexec : p.tables.exec = Jvm.exec) {own C : String} {index : Nat} {y : MethodName} {bytes : ByteArray} {maxL : Nat} {ret : Option FieldType}
    (hown : s.vm.findClass own = some m.cls) (hlink : (Cond.methodLink own index y).before args s = true) (hinst : (Cond.instanceMethod y).before args s = true) (hsel : (Cond.selects C y y).before args s = true)
    (hcode : (Cond.code y bytes maxL ret).before args s = true) (hy : y.cls ≠ "java/lang/invoke/MethodHandle" ∧ y.cls ≠ "java/lang/invoke/VarHandle")
    {W9 : Nat} {Pre : Pt → Array Value → Prop} {Post : Pt → Array Value → Option Value → Pt → Prop} {PostX : Pt → Array Value → Addr → Pt → Prop} (hK : vx_Back l R p e below s args y 3 W9 Pre Post PostX)
    {b : Addr} {cellB : Cell} (hcell : T.heap[b]? = some cellB) (hobj : cellB.vm.isStatics = false) (hcls : s.vm.findClass C = some cellB.cls)
    {g : JFrame} (hg : g.method = m) (hsize : g.locals.size = c.maxLocals) {argsL rest : List Value} (hlen : ∀ sig, parseMethodDescriptor y.desc = some sig → argsL.length = sig.parameters.length)
    (hstack : g.stack = argsL.reverse ++ .ref b :: rest) (hW : 2 * g.monitorRoom + (rest.map fun v => v.category).sum ≤ W9) (hdg : decode c.code g.pc = .ok (.invokevirtual index, 3))
    (hpre : ∀ vm₁, s.WarmedH vm₁ → Pre ⟨T.setVm vm₁, locs, cells, slots⟩ (Value.ref b :: argsL).toArray) :
    (∃ (v : Option Value) (vm₁ : Vm) (B : Pt), s.WarmedH vm₁ ∧ Stand p l e R s m args below meth c B.U B.locs B.cells B.slots ∧ Post ⟨T.setVm vm₁, locs, cells, slots⟩ (Value.ref b :: argsL).toArray v B ∧
      ∀ target, Steps p.tables e below (B.U.setTop { g with pc := g.pc + 3, stack := v.toList ++ rest }) target → Steps p.tables e below (T.setTop g) target) ∨
    (∃ (q : Addr) (vm₁ : Vm) (B : Pt), s.WarmedH vm₁ ∧ Stand p l e R s m args below meth c B.U B.locs B.cells B.slots ∧ PostX ⟨T.setVm vm₁, locs, cells, slots⟩ (Value.ref b :: argsL).toArray q B ∧
      Steps p.tables e below (T.setTop g) ((B.U.setTop { g with stack := rest }).pushFrame (.throwing q))) := by
  obtain ⟨mk, methM, hnamed, hmethM, hstM, habM⟩ := Cond.instanceMethod_spec hinst
  obtain ⟨methM', cM, hmethM', -, -, -, -, -, -, hsigM⟩ := Cond.code_spec hnamed hcode
  cases hmethM.symm.trans hmethM'
  obtain ⟨c2, r2, m2, q1, q2, q3, q4, kP, hkP, hkPi⟩ := Cond.selects_spec hsel
  cases hcls.symm.trans q1
  cases (State.methodFound?_of_named hnamed hy).symm.trans q2
  cases hnamed.symm.trans q3
  have hselP : selectMethod e.platform s.vm cellB.cls mk = .method mk := by rw [Launch.admits_selectMethod X.admits]; exact q4
  obtain ⟨vm₁, X₁, hstep₁⟩ := X.invokevirtual hexec hown hlink hnamed hmethM hstM hkP hkPi hy (a := b) (cell := cellB) hcell
    (fun z h => by rw [h] at hobj; cases hobj) hselP hmethM habM hkP hkPi (g := g) hg (argsL := argsL) (rest := rest) (hlen _ hsigM) hstack hdg
  rcases hK m meth c ⟨T.setVm vm₁, locs, cells, slots⟩ { g with stack := rest } (.invokevirtual index) mk (Value.ref b :: argsL).toArray X₁ hg hsize hdg hW (X₁.named hnamed) (hpre vm₁ X₁.warmed) with ⟨v, B, X', hpost, hsteps⟩ | ⟨q, B, X', hpost, hsteps⟩
  · exact Or.inl ⟨v, vm₁, B, X₁.warmed, X', hpost, fun target h => hstep₁ _ fun acts => by rw [doInvoke_state]; exact hsteps.trans h⟩
  · exact Or.inr ⟨q, vm₁, B, X₁.warmed, X', hpost, hstep₁ _ fun acts => by rw [doInvoke_state]; exact hsteps⟩
theorem vx_callS (X : Stand p l e R s m args below meth c T locs cells slots) (hexec : p.tables.exec = Jvm.exec) {own : String} {index : Nat} {y : MethodName} {bytes : ByteArray} {maxL : Nat} {ret : Option FieldType}
    (hown : s.vm.findClass own = some m.cls) (hlink : (Cond.methodLink own index y).before args s = true) (hstat : (Cond.static y).before args s = true) (hinit : (Cond.initialized y.cls).before args s = true)
    (hcode : (Cond.code y bytes maxL ret).before args s = true) (hy : y.cls ≠ "java/lang/invoke/MethodHandle" ∧ y.cls ≠ "java/lang/invoke/VarHandle")
    {W9 : Nat} {Pre : Pt → Array Value → Prop} {Post : Pt → Array Value → Option Value → Pt → Prop} {PostX : Pt → Array Value → Addr → Pt → Prop} (hK : vx_Back l R p e below s args y 3 W9 Pre Post PostX)
    {g : JFrame} (hg : g.method = m) (hsize : g.locals.size = c.maxLocals) {argsL rest : List Value} (hlen : ∀ sig, parseMethodDescriptor y.desc = some sig → argsL.length = sig.parameters.length)
    (hstack : g.stack = argsL.reverse ++ rest) (hW : 2 * g.monitorRoom + (rest.map fun v => v.category).sum ≤ W9) (hdg : decode c.code g.pc = .ok (.invokestatic index, 3))
    (hpre : ∀ vm₁, s.WarmedH vm₁ → Pre ⟨T.setVm vm₁, locs, cells, slots⟩ argsL.toArray) :
    (∃ (v : Option Value) (vm₁ : Vm) (B : Pt), s.WarmedH vm₁ ∧ Stand p l e R s m args below meth c B.U B.locs B.cells B.slots ∧ Post ⟨T.setVm vm₁, locs, cells, slots⟩ argsL.toArray v B ∧
      ∀ target, Steps p.tables e below (B.U.setTop { g with pc := g.pc + 3, stack := v.toList ++ rest }) target → Steps p.tables e below (T.setTop g) target) ∨
    (∃ (q : Addr) (vm₁ : Vm) (B : Pt), s.WarmedH vm₁ ∧ Stand p l e R s m args below meth c B.U B.locs B.cells B.slots ∧ PostX ⟨T.setVm vm₁, locs, cells, slots⟩ argsL.toArray q B ∧
      Steps p.tables e below (T.setTop g) ((B.U.setTop { g with stack := rest }).pushFrame (.throwing q))) := by
  obtain ⟨mk, hnamed⟩ := Cond.code_named hcode
  obtain ⟨methM, cM, hmethM, -, -, -, -, -, -, hsigM⟩ := Cond.code_spec hnamed hcode
  have hstatic : methM.isStatic = true := Cond.static_spec hnamed hmethM hstat
  obtain ⟨kP, hkP, -⟩ := className_of_methodNamed hnamed
  have hinitP : kP.init = .initialized := Cond.initialized_spec (findClass_of_methodNamed hnamed) hkP hinit
  obtain ⟨vm₁, X₁, hstep₁⟩ := X.invokestatic hexec hown hlink hnamed hmethM hstatic hkP hinitP hy (g := g) hg (argsL := argsL) (rest := rest) (hlen _ hsigM) hstack hdg
  rcases hK m meth c ⟨T.setVm vm₁, locs, cells, slots⟩ { g with stack := rest } (.invokestatic index) mk argsL.toArray X₁ hg hsize hdg hW (X₁.named hnamed) (hpre vm₁ X₁.warmed) with ⟨v, B, X', hpost, hsteps⟩ | ⟨q, B, X', hpost, hsteps⟩
  · exact Or.inl ⟨v, vm₁, B, X₁.warmed, X', hpost, fun target h => hstep₁ _ fun acts => by rw [doInvoke_state]; exact hsteps.trans h⟩
  · exact Or.inr ⟨q, vm₁, B, X₁.warmed, X', hpost, hstep₁ _ fun acts => by rw [doInvoke_state]; exact hsteps⟩
end Calls
theorem vx_cls {s : State} {T : State} {vm₁ : Vm} {E : String} {k : ClassId} (hW : s.WarmedH vm₁) (h : (T.setVm vm₁).vm.findClass E = some k) : s.vm.findClass E = some k := by
  have h1 : vm₁.findClass E = some k := h
  rw [hW.alike.findClass] at h1
  exact h1
/-- the method's frame g, with q thrown over it -/
def vx_W (p : Program) (l : Launch) (e : Env) (R : Room) (s : State) (m : MethodId) (args : Array Value) (below : List Frame) (meth : Method) (c : Code) (H : Heap) (locs : List Loc) (cells slots : Nat) (Q : State → Prop) (g : JFrame) (q : Addr) : Prop :=
  ∀ T : State, T.heap = H → Stand p l e R s m args below meth c T locs cells slots → ∃ t, Steps p.tables e below ((T.setTop g).pushFrame (.throwing q)) t ∧ Q t
def vx_Run (p : Program) (l : Launch) (e : Env) (R : Room) (s : State) (m : MethodId) (args : Array Value) (below : List Frame) (meth : Method) (c : Code) (H : Heap) (locs : List Loc) (cells slots mc ms : Nat) (g : JFrame) (rest : List Value) (Qa : State → Outcome → State → Prop) (XC : String → State → State → Prop) (free : Addr → Prop) : Prop :=
  ∀ T : State, T.heap = H → Stand p l e R s m args below meth c T locs cells slots →
    (∃ (v : Option Value) (st₀ t T' : State) (L : List Loc), st₀.heap = H ∧ Stand p l e R s m args below meth c T' (locs ++ L) (cells + mc) (slots + ms) ∧ (∀ q ∈ L, free q.base) ∧ T'.heap = t.heap ∧ T'.vm = t.vm ∧ Qa st₀ (.returned v) t ∧
      Goes p e below T g T' { g with pc := g.pc + 3, stack := v.toList ++ rest }) ∨
    (∃ (q : Addr) (st₀ t T' : State) (L : List Loc) (E : String) (ce : Cell), st₀.heap = H ∧ Stand p l e R s m args below meth c T' (locs ++ L) (cells + mc) (slots + ms) ∧ (∀ z ∈ L, free z.base) ∧ T'.heap = t.heap ∧ T'.vm = t.vm ∧ XC E st₀ t ∧ t.heap[q]? = some ce ∧ ce.vm = .none ∧ s.vm.findClass E = some ce.cls ∧
      Steps p.tables e below (T.setTop g) ((T'.setTop { g with stack := rest }).pushFrame (.throwing q)))
def vx_X {S : Type} (px : S → Prop) (B : String → S → State → Prop) (A : Nat → Prop) : String → State → State → Prop := fun E st t => ∃ u : S, px u ∧ B E u t ∧ va_F A st t
section Runs
variable {p : Program} {l : Launch} {e : Env} {R : Room} {s : State} {m : MethodId} {args : Array Value} {below : List Frame} {meth : Method} {c : Code} {H : Heap} {locs : List Loc} {cells slots : Nat}
variable {y : MethodName} {bytes cc : ByteArray} {maxL nL mc ms n index : Nat} {ret : Option FieldType} {ws : List Cond} {rm : Room} {Pc : Array Value → State → Prop} {Qc : Array Value → State → Outcome → State → Prop} {XC : String → State → State → Prop} {free : Addr → Prop} {Ts : List Cond} {own C : String} {b : Addr} {As rest : List Value} {g : JFrame}
theorem vx_callBack (cb : CallB R s args own index y bytes maxL ret ws rm mc ms n) (hM : vx_Met l y ws rm Pc Qc XC mc ms free) (hbl : FrameBlind Pc) : vx_Back l R p e below s args y 3 8 (PreOf R mc ms Pc) (PostOf Qc mc ms free) (vx_Post XC mc ms free) := by
  obtain ⟨hrc, hrs, hfr, hlo, hws, hcw, -, hini, -⟩ := cb
  exact vx_back (bytes := bytes) (maxL := maxL) (ret := ret) hM hbl hrc hrs hfr hlo hws hcw (fun a' U hW => word_at hW (Or.inl (by first | rfl | simp [Cond.onTables, Cond.keeps, Cond.steady])) hini)
theorem vx_runV (S : CallFix p m c cc nL s args Ts own) (hM : vx_Met l y ws rm Pc Qc XC mc ms free) (cw : CallW R s args own C index y bytes maxL ret ws rm mc ms n) (hp : PreV s H C b Pc As)
    (hg : g.method = m) (hn : As.length = n) (hsize : g.locals.size = nL) (hstack : g.stack = As.reverse ++ .ref b :: rest) (hW : 2 * g.monitorRoom + (rest.map fun v => v.category).sum ≤ 8) (hdg : decode cc g.pc = .ok (.invokevirtual index, 3)) (hf : cells + mc ≤ R.cells ∧ slots + ms ≤ R.slots) :
    vx_Run p l e R s m args below meth c H locs cells slots mc ms g rest (Qc (Value.ref b :: As).toArray) XC free := by
  have hK : vx_Back l R p e below s args y 3 8 (PreOf R mc ms Pc) (PostOf Qc mc ms free) (vx_Post XC mc ms free) := vx_callBack cw.1 hM hp.1
  obtain ⟨⟨-, -, -, -, -, -, hcode, -, hy, hlen, hl⟩, hin, hse⟩ := cw
  obtain ⟨hx, hb, hml, ho, -⟩ := S
  obtain ⟨-, ⟨cellB, hcB, hoB, hclB⟩, hPc⟩ := hp
  intro T hT X
  rcases vx_callV X hx (C := C) (bytes := bytes) (maxL := maxL) (ret := ret) ho hl hin hse hcode hy hK (by rw [hT]; exact hcB) hoB hclB hg (hsize.trans hml.symm) (argsL := As) (rest := rest) (fun sig h => hn.trans (hlen sig h)) hstack hW (by rw [hb]; exact hdg)
    (fun vm₁ hW₁ => ⟨hf.1, hf.2, hPc (T.setVm vm₁) hT hW₁⟩) with ⟨v, vm₁, ⟨U', l2, c2, s2⟩, hW₁, X', ⟨g', mk, t, L, e1, e2, hq, h1, hL, h2, h3⟩, st⟩ | ⟨q, vm₁, ⟨U', l2, c2, s2⟩, hW₁, X', ⟨g', mk, t, L, E, ce, e1, e2, hq, hce, hcv, hcl, h1, hL, h2, h3⟩, st⟩
  · dsimp only [Pt.U, Pt.locs, Pt.cells, Pt.slots] at X' e1 e2 h1 h2 h3 st
    subst h1; subst h2; subst h3
    exact Or.inl ⟨v, (T.setVm vm₁).calling g' mk (Value.ref b :: As).toArray, t, U', L, hT, X', hL, e1, e2, hq, st⟩
  · dsimp only [Pt.U, Pt.locs, Pt.cells, Pt.slots] at X' e1 e2 h1 h2 h3 st hcl
    subst h1; subst h2; subst h3
    exact Or.inr ⟨q, (T.setVm vm₁).calling g' mk (Value.ref b :: As).toArray, t, U', L, E, ce, hT, X', hL, e1, e2, hq, hce, hcv, vx_cls hW₁ hcl, st⟩
theorem vx_runS (S : CallFix p m c cc nL s args Ts own) (hM : vx_Met l y ws rm Pc Qc XC mc ms free) (cw : CallB R s args own index y bytes maxL ret ws rm mc ms n ∧ (Cond.static y).before args s = true) (hp : PreS s H Pc As)
    (hg : g.method = m) (hn : As.length = n) (hsize : g.locals.size = nL) (hstack : g.stack = As.reverse ++ rest) (hW : 2 * g.monitorRoom + (rest.map fun v => v.category).sum ≤ 8) (hdg : decode cc g.pc = .ok (.invokestatic index, 3)) (hf : cells + mc ≤ R.cells ∧ slots + ms ≤ R.slots) :
    vx_Run p l e R s m args below meth c H locs cells slots mc ms g rest (Qc As.toArray) XC free := by
  have hK : vx_Back l R p e below s args y 3 8 (PreOf R mc ms Pc) (PostOf Qc mc ms free) (vx_Post XC mc ms free) := vx_callBack cw.1 hM hp.1
  obtain ⟨⟨-, -, -, -, -, -, hcode, hini, hy, hlen, hl⟩, hstt⟩ := cw
  obtain ⟨hx, hb, hml, ho, -⟩ := S
  intro T hT X
  rcases vx_callS X hx (bytes := bytes) (maxL := maxL) (ret := ret) ho hl hstt hini hcode hy hK hg (hsize.trans hml.symm) (argsL := As) (rest := rest) (fun sig h => hn.trans (hlen sig h)) hstack hW (by rw [hb]; exact hdg)
    (fun vm₁ hW₁ => ⟨hf.1, hf.2, hp.2 (T.setVm vm₁) hT hW₁⟩) with ⟨v, vm₁, ⟨U', l2, c2, s2⟩, hW₁, X', ⟨g', mk, t, L, e1, e2, hq, h1, hL, h2, h3⟩, st⟩ | ⟨q, vm₁, ⟨U', l2, c2, s2⟩, hW₁, X', ⟨g', mk, t, L, E, ce, e1, e2, hq, hce, hcv, hcl, h1, hL, h2, h3⟩, st⟩
  · dsimp only [Pt.U, Pt.locs, Pt.cells, Pt.slots] at X' e1 e2 h1 h2 h3 st
    subst h1; subst h2; subst h3
    exact Or.inl ⟨v, (T.setVm vm₁).calling g' mk As.toArray, t, U', L, hT, X', hL, e1, e2, hq, st⟩
  · dsimp only [Pt.U, Pt.locs, Pt.cells, Pt.slots] at X' e1 e2 h1 h2 h3 st hcl
    subst h1; subst h2; subst h3
    exact Or.inr ⟨q, (T.setVm vm₁).calling g' mk As.toArray, t, U', L, E, ce, hT, X', hL, e1, e2, hq, hce, hcv, vx_cls hW₁ hcl, st⟩
end Runs
section Rows
variable {p : Program} {l : Launch} {e : Env} {R : Room} {s : State} {m : MethodId} {args : Array Value} {below : List Frame} {meth : Method} {c : Code} {H : Heap} {locs : List Loc} {cells slots : Nat} {Q : State → Prop}
variable {mc ms : Nat} {free : Addr → Prop} {A0 A1 : Nat → Prop} {H0 : Heap} {a : Array Value} {pc : Nat} {ls : Array Slot} {st0 rest : List Value}
theorem vx_keep {st₀ t T' : State} {L : List Loc} (h0 : st₀.heap = H) (e1 : T'.heap = t.heap) (hS : va_S A0 H0 H locs) (hA : ∀ q, q < H.size → A1 q → A0 q) (hf : ∀ q, free q → A0 q) (hL : ∀ q ∈ L, free q.base) (hF : va_F A1 st₀ t) :
    H.size ≤ T'.heap.size ∧ (∀ q : Nat, q < H.size → ¬ A1 q → T'.heap[q]? = H[q]?) ∧ va_S A0 H0 T'.heap (locs ++ L) := by
  obtain ⟨hz, hk⟩ := hF
  rw [h0] at hz hk
  exact ⟨by rw [e1]; exact hz, fun q h1 h2 => by rw [e1]; exact hk q h1 h2,
    ⟨Nat.le_trans hS.1 (by rw [e1]; exact hz), fun q h1 h2 => by rw [e1, hk q (Nat.lt_of_lt_of_le h1 hS.1) (fun z => h2 (hA q (Nat.lt_of_lt_of_le h1 hS.1) z))]; exact hS.2.1 q h1 h2, fun q hq => by
      rcases List.mem_append.mp hq with h | h
      · exact hS.2.2 q h
      · exact hf _ (hL q h)⟩⟩
theorem vx_calli {S SX : Type} {post : Int32 → S → Prop} {px : SX → Prop} {B : S → State → Prop} {BX : String → SX → State → Prop} {AX : Nat → Prop} (hr : vx_Run p l e R s m args below meth c H locs cells slots mc ms (F0 m pc ls st0) rest (va_Qi post B A1 a) (vx_X px BX AX) free) (hS : va_S A0 H0 H locs) (hA : ∀ q, q < H.size → A1 q → A0 q) (hf : ∀ q, free q → A0 q) (hAX : ∀ q, q < H.size → AX q → A0 q)
    (kx : ∀ (E : String) (ce : Cell) (q9 : Addr) (u : SX) (t : State) (H1 : Heap) (locs1 : List Loc), t.heap = H1 → s.vm.Alike t.vm → px u → BX E u t → H.size ≤ H1.size → (∀ q : Nat, q < H.size → ¬ AX q → H1[q]? = H[q]?) → va_S A0 H0 H1 locs1 → H1[q9]? = some ce → ce.vm = .none → s.vm.findClass E = some ce.cls → vx_W p l e R s m args below meth c H1 locs1 (cells + mc) (slots + ms) Q (F0 m pc ls rest) q9)
    (kk : ∀ (r : Int32) (u : S) (t : State) (H1 : Heap) (locs1 : List Loc), t.heap = H1 → s.vm.Alike t.vm → post r u → B u t → H.size ≤ H1.size → (∀ q : Nat, q < H.size → ¬ A1 q → H1[q]? = H[q]?) → va_S A0 H0 H1 locs1 → W p l e R s m args below meth c H1 locs1 (cells + mc) (slots + ms) Q (F0 m (pc + 3) ls (.int r :: rest))) : W p l e R s m args below meth c H locs cells slots Q (F0 m pc ls st0) := by
  intro T hT X
  rcases hr T hT X with ⟨v, st₀, t, T', L, h0, X', hL, e1, e2, ⟨⟨r, u, hv, hp, hb⟩, hF⟩, st⟩ | ⟨q, st₀, t, T', L, E, ce, h0, X', hL, e1, e2, ⟨u, hp, hb, hF⟩, hce, hcv, hcl, st⟩
  · cases hv
    obtain ⟨k1, k2, k3⟩ := vx_keep h0 e1 hS hA hf hL hF
    obtain ⟨t2, a1, b1⟩ := kk r u t T'.heap (locs ++ L) e1.symm (by rw [← e2]; exact X'.warmed.alike) hp hb k1 k2 k3 T' rfl X'
    exact ⟨t2, st t2 a1, b1⟩
  · obtain ⟨k1, k2, k3⟩ := vx_keep h0 e1 hS hAX hf hL hF
    obtain ⟨t2, a1, b1⟩ := kx E ce q u t T'.heap (locs ++ L) e1.symm (by rw [← e2]; exact X'.warmed.alike) hp hb k1 k2 k3 (by rw [e1]; exact hce) hcv hcl T' rfl X'
    exact ⟨t2, st.trans a1, b1⟩
theorem vx_calll {S SX : Type} {post : Int64 → S → Prop} {px : SX → Prop} {B : S → State → Prop} {BX : String → SX → State → Prop} {AX : Nat → Prop} (hr : vx_Run p l e R s m args below meth c H locs cells slots mc ms (F0 m pc ls st0) rest (va_Ql post B A1 a) (vx_X px BX AX) free) (hS : va_S A0 H0 H locs) (hA : ∀ q, q < H.size → A1 q → A0 q) (hf : ∀ q, free q → A0 q) (hAX : ∀ q, q < H.size → AX q → A0 q)
    (kx : ∀ (E : String) (ce : Cell) (q9 : Addr) (u : SX) (t : State) (H1 : Heap) (locs1 : List Loc), t.heap = H1 → s.vm.Alike t.vm → px u → BX E u t → H.size ≤ H1.size → (∀ q : Nat, q < H.size → ¬ AX q → H1[q]? = H[q]?) → va_S A0 H0 H1 locs1 → H1[q9]? = some ce → ce.vm = .none → s.vm.findClass E = some ce.cls → vx_W p l e R s m args below meth c H1 locs1 (cells + mc) (slots + ms) Q (F0 m pc ls rest) q9)
    (kk : ∀ (r : Int64) (u : S) (t : State) (H1 : Heap) (locs1 : List Loc), t.heap = H1 → s.vm.Alike t.vm → post r u → B u t → H.size ≤ H1.size → (∀ q : Nat, q < H.size → ¬ A1 q → H1[q]? = H[q]?) → va_S A0 H0 H1 locs1 → W p l e R s m args below meth c H1 locs1 (cells + mc) (slots + ms) Q (F0 m (pc + 3) ls (.long r :: rest))) : W p l e R s m args below meth c H locs cells slots Q (F0 m pc ls st0) := by
  intro T hT X
  rcases hr T hT X with ⟨v, st₀, t, T', L, h0, X', hL, e1, e2, ⟨⟨r, u, hv, hp, hb⟩, hF⟩, st⟩ | ⟨q, st₀, t, T', L, E, ce, h0, X', hL, e1, e2, ⟨u, hp, hb, hF⟩, hce, hcv, hcl, st⟩
  · cases hv
    obtain ⟨k1, k2, k3⟩ := vx_keep h0 e1 hS hA hf hL hF
    obtain ⟨t2, a1, b1⟩ := kk r u t T'.heap (locs ++ L) e1.symm (by rw [← e2]; exact X'.warmed.alike) hp hb k1 k2 k3 T' rfl X'
    exact ⟨t2, st t2 a1, b1⟩
  · obtain ⟨k1, k2, k3⟩ := vx_keep h0 e1 hS hAX hf hL hF
    obtain ⟨t2, a1, b1⟩ := kx E ce q u t T'.heap (locs ++ L) e1.symm (by rw [← e2]; exact X'.warmed.alike) hp hb k1 k2 k3 (by rw [e1]; exact hce) hcv hcl T' rfl X'
    exact ⟨t2, st.trans a1, b1⟩
theorem vx_callf {S SX : Type} {post : UInt32 → S → Prop} {px : SX → Prop} {B : S → State → Prop} {BX : String → SX → State → Prop} {AX : Nat → Prop} (hr : vx_Run p l e R s m args below meth c H locs cells slots mc ms (F0 m pc ls st0) rest (va_Qf post B A1 a) (vx_X px BX AX) free) (hS : va_S A0 H0 H locs) (hA : ∀ q, q < H.size → A1 q → A0 q) (hf : ∀ q, free q → A0 q) (hAX : ∀ q, q < H.size → AX q → A0 q)
    (kx : ∀ (E : String) (ce : Cell) (q9 : Addr) (u : SX) (t : State) (H1 : Heap) (locs1 : List Loc), t.heap = H1 → s.vm.Alike t.vm → px u → BX E u t → H.size ≤ H1.size → (∀ q : Nat, q < H.size → ¬ AX q → H1[q]? = H[q]?) → va_S A0 H0 H1 locs1 → H1[q9]? = some ce → ce.vm = .none → s.vm.findClass E = some ce.cls → vx_W p l e R s m args below meth c H1 locs1 (cells + mc) (slots + ms) Q (F0 m pc ls rest) q9)
    (kk : ∀ (r : UInt32) (u : S) (t : State) (H1 : Heap) (locs1 : List Loc), t.heap = H1 → s.vm.Alike t.vm → post r u → B u t → H.size ≤ H1.size → (∀ q : Nat, q < H.size → ¬ A1 q → H1[q]? = H[q]?) → va_S A0 H0 H1 locs1 → W p l e R s m args below meth c H1 locs1 (cells + mc) (slots + ms) Q (F0 m (pc + 3) ls (.float r :: rest))) : W p l e R s m args below meth c H locs cells slots Q (F0 m pc ls st0) := by
  intro T hT X
  rcases hr T hT X with ⟨v, st₀, t, T', L, h0, X', hL, e1, e2, ⟨⟨r, u, hv, hp, hb⟩, hF⟩, st⟩ | ⟨q, st₀, t, T', L, E, ce, h0, X', hL, e1, e2, ⟨u, hp, hb, hF⟩, hce, hcv, hcl, st⟩
  · cases hv
    obtain ⟨k1, k2, k3⟩ := vx_keep h0 e1 hS hA hf hL hF
    obtain ⟨t2, a1, b1⟩ := kk r u t T'.heap (locs ++ L) e1.symm (by rw [← e2]; exact X'.warmed.alike) hp hb k1 k2 k3 T' rfl X'
    exact ⟨t2, st t2 a1, b1⟩
  · obtain ⟨k1, k2, k3⟩ := vx_keep h0 e1 hS hAX hf hL hF
    obtain ⟨t2, a1, b1⟩ := kx E ce q u t T'.heap (locs ++ L) e1.symm (by rw [← e2]; exact X'.warmed.alike) hp hb k1 k2 k3 (by rw [e1]; exact hce) hcv hcl T' rfl X'
    exact ⟨t2, st.trans a1, b1⟩
theorem vx_calld {S SX : Type} {post : UInt64 → S → Prop} {px : SX → Prop} {B : S → State → Prop} {BX : String → SX → State → Prop} {AX : Nat → Prop} (hr : vx_Run p l e R s m args below meth c H locs cells slots mc ms (F0 m pc ls st0) rest (va_Qd post B A1 a) (vx_X px BX AX) free) (hS : va_S A0 H0 H locs) (hA : ∀ q, q < H.size → A1 q → A0 q) (hf : ∀ q, free q → A0 q) (hAX : ∀ q, q < H.size → AX q → A0 q)
    (kx : ∀ (E : String) (ce : Cell) (q9 : Addr) (u : SX) (t : State) (H1 : Heap) (locs1 : List Loc), t.heap = H1 → s.vm.Alike t.vm → px u → BX E u t → H.size ≤ H1.size → (∀ q : Nat, q < H.size → ¬ AX q → H1[q]? = H[q]?) → va_S A0 H0 H1 locs1 → H1[q9]? = some ce → ce.vm = .none → s.vm.findClass E = some ce.cls → vx_W p l e R s m args below meth c H1 locs1 (cells + mc) (slots + ms) Q (F0 m pc ls rest) q9)
    (kk : ∀ (r : UInt64) (u : S) (t : State) (H1 : Heap) (locs1 : List Loc), t.heap = H1 → s.vm.Alike t.vm → post r u → B u t → H.size ≤ H1.size → (∀ q : Nat, q < H.size → ¬ A1 q → H1[q]? = H[q]?) → va_S A0 H0 H1 locs1 → W p l e R s m args below meth c H1 locs1 (cells + mc) (slots + ms) Q (F0 m (pc + 3) ls (.double r :: rest))) : W p l e R s m args below meth c H locs cells slots Q (F0 m pc ls st0) := by
  intro T hT X
  rcases hr T hT X with ⟨v, st₀, t, T', L, h0, X', hL, e1, e2, ⟨⟨r, u, hv, hp, hb⟩, hF⟩, st⟩ | ⟨q, st₀, t, T', L, E, ce, h0, X', hL, e1, e2, ⟨u, hp, hb, hF⟩, hce, hcv, hcl, st⟩
  · cases hv
    obtain ⟨k1, k2, k3⟩ := vx_keep h0 e1 hS hA hf hL hF
    obtain ⟨t2, a1, b1⟩ := kk r u t T'.heap (locs ++ L) e1.symm (by rw [← e2]; exact X'.warmed.alike) hp hb k1 k2 k3 T' rfl X'
    exact ⟨t2, st t2 a1, b1⟩
  · obtain ⟨k1, k2, k3⟩ := vx_keep h0 e1 hS hAX hf hL hF
    obtain ⟨t2, a1, b1⟩ := kx E ce q u t T'.heap (locs ++ L) e1.symm (by rw [← e2]; exact X'.warmed.alike) hp hb k1 k2 k3 (by rw [e1]; exact hce) hcv hcl T' rfl X'
    exact ⟨t2, st.trans a1, b1⟩
theorem vx_callv {S SX : Type} {post : S → Prop} {px : SX → Prop} {B : S → State → Prop} {BX : String → SX → State → Prop} {AX : Nat → Prop} (hr : vx_Run p l e R s m args below meth c H locs cells slots mc ms (F0 m pc ls st0) rest (va_Qv post B A1 a) (vx_X px BX AX) free) (hS : va_S A0 H0 H locs) (hA : ∀ q, q < H.size → A1 q → A0 q) (hf : ∀ q, free q → A0 q) (hAX : ∀ q, q < H.size → AX q → A0 q)
    (kx : ∀ (E : String) (ce : Cell) (q9 : Addr) (u : SX) (t : State) (H1 : Heap) (locs1 : List Loc), t.heap = H1 → s.vm.Alike t.vm → px u → BX E u t → H.size ≤ H1.size → (∀ q : Nat, q < H.size → ¬ AX q → H1[q]? = H[q]?) → va_S A0 H0 H1 locs1 → H1[q9]? = some ce → ce.vm = .none → s.vm.findClass E = some ce.cls → vx_W p l e R s m args below meth c H1 locs1 (cells + mc) (slots + ms) Q (F0 m pc ls rest) q9)
    (kk : ∀ (u : S) (t : State) (H1 : Heap) (locs1 : List Loc), t.heap = H1 → s.vm.Alike t.vm → post u → B u t → H.size ≤ H1.size → (∀ q : Nat, q < H.size → ¬ A1 q → H1[q]? = H[q]?) → va_S A0 H0 H1 locs1 → W p l e R s m args below meth c H1 locs1 (cells + mc) (slots + ms) Q (F0 m (pc + 3) ls (rest))) : W p l e R s m args below meth c H locs cells slots Q (F0 m pc ls st0) := by
  intro T hT X
  rcases hr T hT X with ⟨v, st₀, t, T', L, h0, X', hL, e1, e2, ⟨⟨u, hv, hp, hb⟩, hF⟩, st⟩ | ⟨q, st₀, t, T', L, E, ce, h0, X', hL, e1, e2, ⟨u, hp, hb, hF⟩, hce, hcv, hcl, st⟩
  · cases hv
    obtain ⟨k1, k2, k3⟩ := vx_keep h0 e1 hS hA hf hL hF
    obtain ⟨t2, a1, b1⟩ := kk u t T'.heap (locs ++ L) e1.symm (by rw [← e2]; exact X'.warmed.alike) hp hb k1 k2 k3 T' rfl X'
    exact ⟨t2, st t2 a1, b1⟩
  · obtain ⟨k1, k2, k3⟩ := vx_keep h0 e1 hS hAX hf hL hF
    obtain ⟨t2, a1, b1⟩ := kx E ce q u t T'.heap (locs ++ L) e1.symm (by rw [← e2]; exact X'.warmed.alike) hp hb k1 k2 k3 (by rw [e1]; exact hce) hcv hcl T' rfl X'
    exact ⟨t2, st.trans a1, b1⟩
/-- caught by the row x of this method's table; the rows ahead don't take it -/
theorem vx_catch {own name : String} {E : String} {ce : Cell} {q : Addr} (hown : s.vm.findClass own = some m.cls) (pre : List ExceptionTableEntry) (x : ExceptionTableEntry) (suf : List ExceptionTableEntry) (hsplit : c.exceptionTable.toList = pre ++ x :: suf)
    (hpass : ∀ z ∈ pre, covers z pc = false ∨ (z.catchType ≠ 0 ∧ ∃ nm : String, (Cond.classLink own z.catchType nm).before args s = true ∧ va_Nc E nm s)) (hx : covers x pc = true) (h0 : x.catchType ≠ 0)
    (hlink : (Cond.classLink own x.catchType name).before args s = true) (hcast : (Cond.castable E name).before args s = true) (hcell : H[q]? = some ce) (hv : ce.vm = .none) (hcl : s.vm.findClass E = some ce.cls)
    (kk : W p l e R s m args below meth c H locs cells slots Q (F0 m x.handlerPc ls [.ref q])) : vx_W p l e R s m args below meth c H locs cells slots Q (F0 m pc ls rest) q := by
  intro T hT X
  have hpl : e.platform.magicAccessors = ({} : Platform).magicAccessors := by rw [X.admits.platform]
  obtain ⟨c3, c4, hc3, hc4, hasg⟩ := Cond.castable_spec hcast
  cases Option.some.inj (hc3.symm.trans hcl)
  obtain ⟨c5, hc5, hcl5⟩ := Cond.classLink_spec hown hlink e.platform hpl
  cases Option.some.inj (hc4.symm.trans hc5)
  obtain ⟨vm', X', st⟩ := X.thenCaughtThrough q (g := F0 m pc ls rest) rfl (Steps.refl _) (by rw [hT]; exact hcell) (by rw [hv]; rfl) (by obtain ⟨k9, h9, -⟩ := Vm.findClass_spec hcl; exact ⟨k9, h9⟩) pre x suf hsplit
    (fun z hz => by
      rcases hpass z hz with h | ⟨hz0, nm, hl1, hn1⟩
      · exact Or.inl h
      · obtain ⟨c6, hc6, hcl6⟩ := Cond.classLink_spec hown hl1 e.platform hpl
        obtain ⟨a8, b8, h1, h2, h3⟩ := hn1
        cases Option.some.inj (h1.symm.trans hcl)
        cases Option.some.inj (h2.symm.trans hc6)
        exact Or.inr ⟨hz0, _, hcl6, h3⟩) hx (Or.inr ⟨h0, c4, hcl5, hasg⟩)
  obtain ⟨t, a1, b1⟩ := kk (T.setVm vm') hT X'
  exact ⟨t, st.trans a1, b1⟩
end Rows
section Ends
variable {p : Program} {l : Launch} {e : Env} {R : Room} {s : State} {m : MethodId} {args : Array Value} {below : List Frame} {meth : Method} {c : Code} {H : Heap} {locs : List Loc} {cells slots : Nat} {Q : State → Prop}
variable {mc ms : Nat} {free : Addr → Prop} {A0 A1 : Nat → Prop} {H0 : Heap} {a : Array Value} {ls : Array Slot} {st0 rest : List Value}
variable {Qc : Array Value → State → Outcome → State → Prop} {XC : String → State → State → Prop}
/-- what a body that may throw owes at its end -/
def vx_MQ (below : List Frame) (Qc : Array Value → State → Outcome → State → Prop) (XC : String → State → State → Prop) (a : Array Value) (s : State) (mc ms : Nat) (free : Addr → Prop) : State → Prop := fun t =>
  ∃ o, t.status = .running ∧ Ended t below o ∧ vx_Q Qc XC mc ms free a s o t
theorem vx_ret {g : JFrame} {mc ms : Nat} (k : W p l e R s m args below meth c H locs cells slots (MQ below Qc args s mc ms free) g) : W p l e R s m args below meth c H locs cells slots (vx_MQ below Qc XC args s mc ms free) g := by
  intro T hT X
  obtain ⟨t, a1, o, b1, b2, b3, b4⟩ := k T hT X
  exact ⟨t, a1, o, b1, b2, Or.inl ⟨b3, b4⟩⟩
/-- not caught here: it goes on to the caller -/
theorem vx_widen {g : JFrame} {q : Addr} {k n : Nat} (h1 : cells ≤ k) (h2 : slots ≤ n) (kk : vx_W p l e R s m args below meth c H locs k n Q g q) : vx_W p l e R s m args below meth c H locs cells slots Q g q := fun T hT X => kk T hT (stand_widen X h1 h2)
theorem vx_out {pc : Nat} {E : String} {ce : Cell} {q : Addr} {mc ms : Nat} (hout : ∀ x ∈ c.exceptionTable.toList, covers x pc = false) (hlocks : meth.locks = false) (hcell : H[q]? = some ce) (hv : ce.vm = .none) (hcl : s.vm.findClass E = some ce.cls)
    (hx : ∀ t : State, t.heap = H → s.vm.Alike t.vm → XC E s t) (hf : ∀ z ∈ locs, free z.base) (hc : cells ≤ mc) (hs : slots ≤ ms) :
    vx_W p l e R s m args below meth c H locs cells slots (vx_MQ below Qc XC args s mc ms free) (F0 m pc ls rest) q := by
  intro T hT X
  obtain ⟨st1, hrun, hend, hW, hsm⟩ := X.leaveThrown q (g := F0 m pc ls rest) rfl rfl rfl hout hlocks
  have hcell9 : (T.setFrames (.throwing q :: below)).heap[q]? = some ce := by
    show T.heap[q]? = some ce
    rw [hT]; exact hcell
  exact ⟨_, st1, .threw q, hrun, hend, Or.inr ⟨q, rfl, E, ce, locs, hx _ hT hW.alike, hcell9, hv, hcl, hW, hsm.mono hc hs, hf⟩⟩
theorem vx_frame {U : State} {k n : Nat} (h : s.sameButNew ({ U with vm := s.vm } : State) locs k n) : s.heap.size ≤ U.heap.size ∧ ∀ q : Nat, q < s.heap.size → (∀ z ∈ locs, z.base ≠ q) → U.heap[q]? = s.heap[q]? := by
  obtain ⟨-, h2, -, -, -, h6⟩ := h
  refine ⟨h2, fun q hq hz => ?_⟩
  obtain ⟨c9, e1, e2, e3, e4⟩ := h6 q _ (Array.getElem?_eq_getElem hq)
  have hs : c9.slots = (s.heap[q]).slots := Array.ext_getElem? fun i => e4 i fun hm => hz _ hm rfl
  have h9 : c9 = s.heap[q] := by
    rw [hs] at e2
    exact e2
  have e5 : U.heap[q]? = some c9 := e1
  rw [e5, h9, Array.getElem?_eq_getElem hq]
/-- the words of a throw but the four that speak of the heap -/
def vx_no (w : Cond) : Bool := decide (w ≠ .isRef (.static Bundle.tN "UNASSIGNED_STACK" Bundle.steD)) && decide (w ≠ .isRef (.static Bundle.tN "SUPPRESSED_SENTINEL" Bundle.listD)) && decide (w ≠ .laysStatic Bundle.tN "UNASSIGNED_STACK" Bundle.steD) && decide (w ≠ .laysStatic Bundle.tN "SUPPRESSED_SENTINEL" Bundle.listD)
def vx_at0 (own : String) (ic : Nat) (X : String) (names : List String) : List Cond := (Bundle.ownAtoms0 own ic X names).filter vx_no
def vx_atS (own : String) (ic : Nat) (X : String) (names : List String) : List Cond := (Bundle.ownAtoms own ic X names).filter vx_no
/-- a word that the tables alone decide, or a good one -/
def vx_ot (w : Cond) : Bool := w.onTables || goodWord w
theorem vx_ot_at {args a' : Array Value} {s U : State} {w : Cond} (hW : s.WarmedH U.vm) (hvm : s.vm = U.vm) (hg : vx_ot w = true) (h : w.before args s = true) : w.before a' U = true := by
  simp only [vx_ot, Bool.or_eq_true] at hg
  rcases hg with hg | hg
  · exact va_tabs hg hvm h
  · exact word_at hW (good_of_word hg) h
/-- a list's words: the good ones out of the method's own list, the others by premises of their own -/
theorem vx_hat {args : Array Value} {s : State} {L B : List Cond} (h1 : ∀ w ∈ L.filter goodWord, w.before args s = true) (h2 : ∀ w ∈ L.filter (fun w => !goodWord w), w ∈ B) (h3 : ∀ w ∈ B, w.before args s = true) : ∀ w ∈ L, w.before args s = true := by
  intro w hw
  by_cases g : goodWord w = true
  · exact h1 w (List.mem_filter.mpr ⟨hw, g⟩)
  · refine h3 w (h2 w (List.mem_filter.mpr ⟨hw, ?_⟩))
    show (!goodWord w) = true
    cases hgw : goodWord w
    · rfl
    · exact absurd hgw g
theorem vx_c {args : Array Value} {s : State} {w : Cond} {B : List Cond} (h : w.before args s = true) (t : ∀ w ∈ B, w.before args s = true) : ∀ w' ∈ w :: B, w'.before args s = true := fun w' h' => (List.mem_cons.mp h').elim (fun e => by rw [e]; exact h) (t w')
theorem vx_n {args : Array Value} {s : State} : ∀ w ∈ ([] : List Cond), w.before args s = true := fun _ h => nomatch h
theorem vx_own {args : Array Value} {s : State} {L : List Cond} (h1 : ∀ w ∈ L.filter vx_no, w.before args s = true)
    (hU : (Cond.isRef (.static Bundle.tN "UNASSIGNED_STACK" Bundle.steD)).before args s = true) (hN : (Cond.isRef (.static Bundle.tN "SUPPRESSED_SENTINEL" Bundle.listD)).before args s = true)
    (lU : (Cond.laysStatic Bundle.tN "UNASSIGNED_STACK" Bundle.steD).before args s = true) (lN : (Cond.laysStatic Bundle.tN "SUPPRESSED_SENTINEL" Bundle.listD).before args s = true) : ∀ w ∈ L, w.before args s = true := by
  intro w hw
  by_cases e1 : w = .isRef (.static Bundle.tN "UNASSIGNED_STACK" Bundle.steD)
  · rw [e1]; exact hU
  · by_cases e2 : w = .isRef (.static Bundle.tN "SUPPRESSED_SENTINEL" Bundle.listD)
    · rw [e2]; exact hN
    · by_cases e3 : w = .laysStatic Bundle.tN "UNASSIGNED_STACK" Bundle.steD
      · rw [e3]; exact lU
      · by_cases e4 : w = .laysStatic Bundle.tN "SUPPRESSED_SENTINEL" Bundle.listD
        · rw [e4]; exact lN
        · exact h1 w (List.mem_filter.mpr ⟨hw, by unfold vx_no; rw [decide_eq_true e1, decide_eq_true e2, decide_eq_true e3, decide_eq_true e4]; rfl⟩)
/-- where a static field lies, its class's statics cell in H -/
def vx_L (C n d : String) (A : Nat → Prop) (U : State) (H : Heap) : Prop := ∃ (c : ClassId) (k : Class) (i : Nat) (f : Field) (a : Nat) (cell : Cell), U.vm.findClass C = some c ∧ U.fieldFound? C n d = some (c, k, i, f) ∧ f.isStatic = true ∧ k.statics = some a ∧ H[a]? = some cell ∧ cell.vm.isStatics = true ∧ cell.cls = c ∧ f.slot < cell.slots.size ∧ k.staticTypes[f.slot]? = some f.type ∧ ¬ A a
theorem vx_L.moved {C n d : String} {A : Nat → Prop} {u U : State} {H : Heap} (hvm : u.vm.Alike U.vm) (h : vx_L C n d A u H) : vx_L C n d A U H := by
  obtain ⟨c, k, i, f, a, cell, h1, h2, h3, h4, h5, h6, h7, h8, h9, h10⟩ := h
  obtain ⟨k', hi', he⟩ := State.fieldFound?_setVm hvm h2
  exact ⟨c, k', i, f, a, cell, by rw [hvm.findClass]; exact h1, hi', h3, by rw [he]; exact h4, h5, h6, h7, h8, by rw [he]; exact h9, h10⟩
theorem vx_L.kept {C n d : String} {A : Nat → Prop} {U : State} {H H1 : Heap} (h : vx_L C n d A U H) (hq : ∀ a : Nat, a < H.size → ¬ A a → H1[a]? = H[a]?) : vx_L C n d A U H1 := by
  obtain ⟨c, k, i, f, a, cell, h1, h2, h3, h4, h5, h6, h7, h8, h9, h10⟩ := h
  exact ⟨c, k, i, f, a, cell, h1, h2, h3, h4, by rw [hq a (Array.getElem?_eq_some_iff.mp h5).1 h10]; exact h5, h6, h7, h8, h9, h10⟩
theorem vx_L.narrow {C n d : String} {A B : Nat → Prop} {U : State} {H : Heap} (h : vx_L C n d A U H) (hAB : ∀ q, B q → A q) : vx_L C n d B U H := by
  obtain ⟨c, k, i, f, a, cell, h1, h2, h3, h4, h5, h6, h7, h8, h9, h10⟩ := h
  exact ⟨c, k, i, f, a, cell, h1, h2, h3, h4, h5, h6, h7, h8, h9, fun z => h10 (hAB _ z)⟩
theorem vx_L.word {C n d : String} {A : Nat → Prop} {s : State} {args : Array Value} (h : vx_L C n d A s s.heap) : (Cond.laysStatic C n d).before args s = true := by
  obtain ⟨c, k, i, f, a, cell, h1, h2, h3, h4, h5, h6, h7, h8, h9, -⟩ := h
  show (Cond.laysStatic C n d).holds args s none s [] = true
  exact Cond.laysStatic_of h1 h2 h3 h4 h5 h6 h7 h8 h9
/-- .. and what it holds: null or some reference -/
def vx_Zq (C n d : String) (A : Nat → Prop) (U : State) (H : Heap) : Prop := va_Zq C n d A U H ∧ vx_L C n d A U H
theorem vx_Zq.moved {C n d : String} {A : Nat → Prop} {u U : State} {H : Heap} (hvm : u.vm.Alike U.vm) (h : vx_Zq C n d A u H) : vx_Zq C n d A U H := ⟨va_Zq.moved hvm h.1, vx_L.moved hvm h.2⟩
theorem vx_Zq.kept {C n d : String} {A : Nat → Prop} {U : State} {H H1 : Heap} (h : vx_Zq C n d A U H) (hq : ∀ a : Nat, a < H.size → ¬ A a → H1[a]? = H[a]?) : vx_Zq C n d A U H1 := ⟨va_Zq.kept h.1 hq, vx_L.kept h.2 hq⟩
theorem vx_Zq.narrow {C n d : String} {A B : Nat → Prop} {U : State} {H : Heap} (h : vx_Zq C n d A U H) (hAB : ∀ q, B q → A q) : vx_Zq C n d B U H := ⟨va_Zq.narrow h.1 hAB, vx_L.narrow h.2 hAB⟩
theorem vx_Zqof {args : Array Value} {s : State} {C n d : String} {A : Nat → Prop} (hl : (Cond.laysStatic C n d).before args s = true) (hini : (Cond.initialized C).before args s = true) (h : (Cond.isRef (.static C n d)).before args s = true) (hA : ∀ a : Nat, a < s.heap.size → ¬ A a) : vx_Zq C n d A s s.heap := by
  refine ⟨va_Zqof hl hini h hA, ?_⟩
  obtain ⟨c, k, i, f, a, cell, h1, h2, h3, h4, h5, h6, h7, h8, h9⟩ := Cond.laysStatic_spec hl
  exact ⟨c, k, i, f, a, cell, h1, h2, h3, h4, h5, h6, h7, h8, h9, hA a (Array.getElem?_eq_some_iff.mp h5).1⟩
theorem vx_isRef {C n d : String} {v : Value} {A : Nat → Prop} {s : State} {args : Array Value} (h : va_Z C n d v A s s.heap) (hv : v.isRef = true) : (Cond.isRef (.static C n d)).before args s = true := by
  obtain ⟨cf, kf, fi, f, a, cell, h1, h2, h3, h4, h5, h6, h7, -⟩ := h
  have he : (Term.static C n d).eval args s none [] s = some v := by
    simp [Term.eval, State.fieldNamed?, h1, h2, h4, h5, h6, h7]
  simp only [Cond.before, Cond.holds, Cond.value, he]
  cases v <;> simp_all [Value.isRef]
theorem vx_isRefq {C n d : String} {A : Nat → Prop} {s : State} {args : Array Value} (h : va_Zq C n d A s s.heap) : (Cond.isRef (.static C n d)).before args s = true := by
  rcases h with h | ⟨t, h⟩
  · exact vx_isRef h rfl
  · exact vx_isRef h rfl
/-- the same frame, seen from here: as if the method were called anew in this heap -/
theorem vx_rebase {T : State} (X : Stand p l e R s m args below meth c T locs cells slots) {R' : Room} (hf : R'.frames ≤ R.frames) (hl : R'.locals ≤ R.locals) (hc : cells + R'.cells ≤ R.cells) (hs : slots + R'.slots ≤ R.slots) :
    Stand p l e R' ((T.setVm s.vm).setFrames (.invoking m args :: below)) m args below meth c T [] 0 0 := by
  have htop : (T.setVm s.vm).topJava?.isSome := X.here.top
  have hF : ((T.setVm s.vm).setFrames (.invoking m args :: below)).frames = .invoking m args :: below := State.frames_setFrames _ (State.cur_lt_of_top htop)
  obtain ⟨g₀, hg0⟩ := Option.isSome_iff_exists.mp htop
  obtain ⟨r, hr⟩ := State.topJava?_eq_some.mp hg0
  have hl9 : e.platform.stackLimits (T.setVm s.vm).me = e.platform.stackLimits s.me := X.limits
  have hb9 : (T.setVm s.vm).me.stackBytes = s.me.stackBytes := X.bytes
  refine ⟨X.admits, X.cas, X.clock, hF, ?_, X.hears, X.method, X.code, X.here, X.tail, X.warmed, ?_, ?_, ?_⟩
  · have h := X.room
    have hU : ((T.setVm s.vm).setFrames (.invoking m args :: below)).localsInUse = s.localsInUse := by
      rw [State.localsInUse_invoking hF (meth := meth) (c := c) X.method X.code, State.localsInUse_invoking X.frames X.method X.code]
    simp only [State.hasRoom, Bool.and_eq_true, decide_eq_true_eq] at h ⊢
    obtain ⟨⟨⟨⟨h1, h2, h3, h4, h5, h6⟩, h7⟩, h8⟩, h9⟩ := h
    rw [X.frames, List.length_cons] at h2 h3
    have q1 := X.heapSize
    have q2 := X.used
    simp only [hF, hU, List.length_cons, State.stackLimits_setFrames, State.stackBytes_setFrames, hl9, hb9]
    refine ⟨⟨⟨⟨by omega, by omega, by omega, by omega, by omega, h6⟩, ?_⟩, ?_⟩, X.book⟩
    · show T.heap.size + R'.cells ≤ e.platform.maxCells
      omega
    · show T.slotsUsed + R'.slots ≤ e.platform.maxSlots
      omega
  · rw [State.stackLimits_setFrames]; rfl
  · rw [State.stackBytes_setFrames]; rfl
  · refine ⟨?_, Nat.le_refl _, Nat.le_refl _, ?_, ?_, fun a c9 h9 => ⟨c9, h9, rfl, rfl, fun _ _ => rfl⟩⟩
    · obtain ⟨t, ht, -⟩ := State.frames_cons hr
      show T.setVm s.vm = { ((T.setVm s.vm).setFrames (.invoking m args :: below)).setFrames (T.setVm s.vm).frames with heap := T.heap, slotsUsed := T.slotsUsed }
      rw [State.setFrames_setFrames, State.setFrames_self ht]
      rfl
    · show T.slotsUsed = T.slotsUsed + ((T.heap.toList.drop T.heap.size).map (·.slots.size)).sum
      rw [List.drop_eq_nil_of_le (Nat.le_of_eq Array.length_toList)]
      rfl
    · show ((T.heap.toList.drop T.heap.size).map (·.slots.size)).sum ≤ 0
      rw [List.drop_eq_nil_of_le (Nat.le_of_eq Array.length_toList)]
      exact Nat.le_refl _
/-- 'throw new E()': new; dup; invokespecial; athrow -/
theorem vx_throw0 {cc : ByteArray} {pc : Nat} (hexec : p.tables.exec = Jvm.exec) (hb : c.code = cc) (hl : l.stackTraces = false) {own cls : String} {names : List String} {ik ic mc ms : Nat} {A : Nat → Prop}
    (hown : s.vm.findClass own = some m.cls) (hcls : Bundle.fit cls = true) (hnames : ∀ n ∈ names, Bundle.fit n = true)
    (hk : (Cond.classLink own ik cls).before args s = true) (hini : (Cond.initialized cls).before args s = true) (hat : ∀ w ∈ vx_at0 own ic cls names, w.before args s = true)
    (hgood : ∀ w ∈ Cond.classLink own ik cls :: Cond.initialized cls :: vx_at0 own ic cls names, vx_ot w = true)
    (hU : vx_Zq Bundle.tN "UNASSIGNED_STACK" Bundle.steD A s s.heap) (hN : vx_Zq Bundle.tN "SUPPRESSED_SENTINEL" Bundle.listD A s s.heap) (hS : va_S A s.heap H locs) (hsize : ls.size = c.maxLocals)
    (d0 : decode cc pc = .ok (.new ik, 3)) (d3 : decode cc (pc + 3) = .ok (.dup, 1)) (d4 : decode cc (pc + 4) = .ok (.invokespecial ic, 3)) (d7 : decode cc (pc + 7) = .ok (.athrow, 1))
    (hout : ∀ x ∈ c.exceptionTable.toList, covers x (pc + 7) = false)
    (hRframes : names.length + 3 < R.frames) (hRlocals : (rest.map fun v => v.category).sum + (13 * (names.length + 1) + 42) ≤ R.locals) (hRcells : cells + 1 ≤ R.cells) (hRslots : slots + 6 ≤ R.slots) (hlocks : meth.locks = false)
    (hx : ∀ t : State, s.vm.Alike t.vm → H.size ≤ t.heap.size → (∀ q : Nat, q < H.size → t.heap[q]? = H[q]?) → XC cls s t)
    (hf : ∀ z ∈ locs, free z.base) (hc : cells + 1 ≤ mc) (hs : slots + 6 ≤ ms) :
    W p l e R s m args below meth c H locs cells slots (vx_MQ below Qc XC args s mc ms free) (F0 m pc ls rest) := by
  intro T hT X
  have htr : e.platform.stackTraces = false := (show e.platform.stackTraces = l.stackTraces by rw [X.admits.platform]).trans hl
  have Y := vx_rebase X (R' := { frames := R.frames, locals := R.locals, cells := 1, slots := 6 }) (Nat.le_refl _) (Nat.le_refl _) hRcells hRslots
  obtain ⟨s', hA⟩ : ∃ z, z = (T.setVm s.vm).setFrames (.invoking m args :: below) := ⟨_, rfl⟩
  rw [← hA] at Y
  have hvm : s'.vm = s.vm := by rw [hA]; rfl
  have hhp : s'.heap = H := by rw [hA]; exact hT
  have hW0 : s.WarmedH s'.vm := by rw [hvm]; exact State.WarmedH.refl s
  have hat' : ∀ w ∈ vx_at0 own ic cls names, w.before args s' = true := fun w hw => vx_ot_at hW0 hvm.symm (hgood w (List.mem_cons_of_mem _ (List.mem_cons_of_mem _ hw))) (hat w hw)
  have hk' : (Cond.classLink own ik cls).before args s' = true := vx_ot_at hW0 hvm.symm (hgood _ List.mem_cons_self) hk
  have hini' : (Cond.initialized cls).before args s' = true := vx_ot_at hW0 hvm.symm (hgood _ (List.mem_cons_of_mem _ List.mem_cons_self)) hini
  have hU' : vx_Zq Bundle.tN "UNASSIGNED_STACK" Bundle.steD A s' s'.heap := by rw [hhp]; exact vx_Zq.moved hW0.alike (hU.kept hS.2.1)
  have hN' : vx_Zq Bundle.tN "SUPPRESSED_SENTINEL" Bundle.listD A s' s'.heap := by rw [hhp]; exact vx_Zq.moved hW0.alike (hN.kept hS.2.1)
  have h : ∀ w ∈ Bundle.ownAtoms0 own ic cls names, w.before args s' = true := vx_own hat' (vx_isRefq hU'.1) (vx_isRefq hN'.1) hU'.2.word hN'.2.word
  have hown' : s'.vm.findClass own = some m.cls := by rw [hvm]; exact hown
  have hins : (Cond.instantiable cls 6).before args s' = true := h _ (by simp [Bundle.ownAtoms0])
  obtain ⟨vm₁, cX, kX, hfX, hkX, -, -, X₁, st1⟩ := Y.newCold hexec (own := own) (C := cls) (index := ik) (n := 6) hown' hk' hins hini'
    (g := F0 m pc ls rest) rfl (by rw [hb]; exact d0) (Nat.le_refl _) (Nat.le_refl _)
  generalize hT1 : (T.setVm vm₁).pushCell { cls := cX, slots := kX.instanceTypes.map defaultValue, vm := .none } = T1 at X₁ st1
  have hcat : (Value.ref T.heap.size).category = 1 := rfl
  have hcellA : T1.heap[T.heap.size]? = some (freshCell cX kX) := by rw [← hT1]; exact State.heap_pushCell_size _ _
  have d3' : decode c.code (pc + 3) = .ok (.dup, 1) := by rw [hb]; exact d3
  obtain ⟨U, hsteps, hrun, hend, hW, hsame, ce, hce, hO⟩ := X₁.ctorThrow0 hexec htr (own := own) (cls := cls) (names := names) (ic := ic) hown' hcls hnames h (fun x hx => nomatch hx) hfX hkX hcellA (by rw [hhp, hT]; exact Nat.le_refl _)
    (g := { method := m, pc := pc + 4, locals := ls, stack := .ref T.heap.size :: .ref T.heap.size :: rest, locked := none }) rfl hsize rfl rfl (rest := rest) rfl
    (by rw [hb]; exact d4) (by rw [hb]; exact d7) hout hRframes (by simp only [List.map_cons, List.sum_cons, hcat]; omega) hlocks
  obtain ⟨f1, f2⟩ := vx_frame hsame
  rw [hhp] at f1 f2
  have hWs : s.WarmedH U.vm := State.WarmedH.trans hW0 hW
  have hcl : s.vm.findClass cls = some ce.cls := by
    have h9 := hO.cls
    rw [hvm] at h9
    exact h9
  have hall : s.sameButNew ({ U with vm := s.vm } : State) locs mc ms := by
    subst hA
    obtain ⟨e1, e2⟩ := hsame
    rw [State.setFrames_setFrames] at e1
    have h2 : (T.setVm s.vm).sameButNew ({ U with vm := s.vm } : State) [] (0 + 1) (0 + 6) := ⟨e1, e2⟩
    have h3 := X.same.trans h2
    rw [List.append_nil] at h3
    exact h3.mono hc hs
  refine ⟨U, ?_, .threw T.heap.size, hrun, hend, Or.inr ⟨T.heap.size, rfl, cls, ce, locs, hx U hWs.alike f1 (fun q hq => f2 q hq (fun z hz => nomatch hz)), hce, hO.vm, hcl, hWs, hall, hf⟩⟩
  refine st1 _ ?_
  show Steps p.tables e below (T1.setTop { method := m, pc := pc + 3, locals := ls, stack := .ref T.heap.size :: rest, locked := none }) _
  jvm_step X₁.here [X₁.here.top, hexec, d3', Value.category]
  exact hsteps
/-- 'throw new E("text")': new; dup; ldc; invokespecial; athrow -/
theorem vx_throwS {cc : ByteArray} {pc : Nat} (hexec : p.tables.exec = Jvm.exec) (hb : c.code = cc) (hl : l.stackTraces = false) {own cls text : String} {names : List String} {ik is ic mc ms sa : Nat} {A : Nat → Prop}
    (hown : s.vm.findClass own = some m.cls) (hcls : Bundle.fit cls = true) (hnames : ∀ n ∈ names, Bundle.fit n = true)
    (hk : (Cond.classLink own ik cls).before args s = true) (hini : (Cond.initialized cls).before args s = true) (hstr : vk_R own is text sa s) (hat : ∀ w ∈ vx_atS own ic cls names, w.before args s = true)
    (hgood : ∀ w ∈ Cond.classLink own ik cls :: Cond.initialized cls :: vx_atS own ic cls names, vx_ot w = true)
    (hU : vx_Zq Bundle.tN "UNASSIGNED_STACK" Bundle.steD A s s.heap) (hN : vx_Zq Bundle.tN "SUPPRESSED_SENTINEL" Bundle.listD A s s.heap) (hS : va_S A s.heap H locs) (hsize : ls.size = c.maxLocals)
    (d0 : decode cc pc = .ok (.new ik, 3)) (d3 : decode cc (pc + 3) = .ok (.dup, 1)) (d4 : decode cc (pc + 4) = .ok (.ldc is, 2)) (d6 : decode cc (pc + 6) = .ok (.invokespecial ic, 3)) (d9 : decode cc (pc + 9) = .ok (.athrow, 1))
    (hout : ∀ x ∈ c.exceptionTable.toList, covers x (pc + 9) = false)
    (hRframes : names.length + 3 < R.frames) (hRlocals : (rest.map fun v => v.category).sum + (13 * (names.length + 1) + 43) ≤ R.locals) (hRcells : cells + 1 ≤ R.cells) (hRslots : slots + 6 ≤ R.slots) (hlocks : meth.locks = false)
    (hx : ∀ t : State, s.vm.Alike t.vm → H.size ≤ t.heap.size → (∀ q : Nat, q < H.size → t.heap[q]? = H[q]?) → XC cls s t)
    (hf : ∀ z ∈ locs, free z.base) (hc : cells + 1 ≤ mc) (hs : slots + 6 ≤ ms) :
    W p l e R s m args below meth c H locs cells slots (vx_MQ below Qc XC args s mc ms free) (F0 m pc ls rest) := by
  intro T hT X
  have htr : e.platform.stackTraces = false := (show e.platform.stackTraces = l.stackTraces by rw [X.admits.platform]).trans hl
  have Y := vx_rebase X (R' := { frames := R.frames, locals := R.locals, cells := 1, slots := 6 }) (Nat.le_refl _) (Nat.le_refl _) hRcells hRslots
  obtain ⟨s', hA⟩ : ∃ z, z = (T.setVm s.vm).setFrames (.invoking m args :: below) := ⟨_, rfl⟩
  rw [← hA] at Y
  have hvm : s'.vm = s.vm := by rw [hA]; rfl
  have hhp : s'.heap = H := by rw [hA]; exact hT
  have hW0 : s.WarmedH s'.vm := by rw [hvm]; exact State.WarmedH.refl s
  have hat' : ∀ w ∈ vx_atS own ic cls names, w.before args s' = true := fun w hw => vx_ot_at hW0 hvm.symm (hgood w (List.mem_cons_of_mem _ (List.mem_cons_of_mem _ hw))) (hat w hw)
  have hk' : (Cond.classLink own ik cls).before args s' = true := vx_ot_at hW0 hvm.symm (hgood _ List.mem_cons_self) hk
  have hini' : (Cond.initialized cls).before args s' = true := vx_ot_at hW0 hvm.symm (hgood _ (List.mem_cons_of_mem _ List.mem_cons_self)) hini
  have hU' : vx_Zq Bundle.tN "UNASSIGNED_STACK" Bundle.steD A s' s'.heap := by rw [hhp]; exact vx_Zq.moved hW0.alike (hU.kept hS.2.1)
  have hN' : vx_Zq Bundle.tN "SUPPRESSED_SENTINEL" Bundle.listD A s' s'.heap := by rw [hhp]; exact vx_Zq.moved hW0.alike (hN.kept hS.2.1)
  have h : ∀ w ∈ Bundle.ownAtoms own ic cls names, w.before args s' = true := vx_own hat' (vx_isRefq hU'.1) (vx_isRefq hN'.1) hU'.2.word hN'.2.word
  have hown' : s'.vm.findClass own = some m.cls := by rw [hvm]; exact hown
  have hins : (Cond.instantiable cls 6).before args s' = true := h _ (by simp [Bundle.ownAtoms])
  obtain ⟨vm₁, cX, kX, hfX, hkX, -, -, X₁, st1⟩ := Y.newCold hexec (own := own) (C := cls) (index := ik) (n := 6) hown' hk' hins hini'
    (g := F0 m pc ls rest) rfl (by rw [hb]; exact d0) (Nat.le_refl _) (Nat.le_refl _)
  generalize hT1 : (T.setVm vm₁).pushCell { cls := cX, slots := kX.instanceTypes.map defaultValue, vm := .none } = T1 at X₁ st1
  have hcat : (Value.ref T.heap.size).category = 1 := rfl
  have hcellA : T1.heap[T.heap.size]? = some (freshCell cX kX) := by rw [← hT1]; exact State.heap_pushCell_size _ _
  have d3' : decode c.code (pc + 3) = .ok (.dup, 1) := by rw [hb]; exact d3
  have d4' : decode c.code (pc + 4) = .ok (.ldc is, 2) := by rw [hb]; exact d4
  have hstr' : vk_R own is text sa s' := vk_R.warm hW0 hstr
  obtain ⟨U, hsteps, hrun, hend, hW, hsame, ce, hce, hO⟩ := X₁.ctorThrowS hexec htr (own := own) (cls := cls) (names := names) (ic := ic) hown' hcls hnames h (fun x hx => nomatch hx) hfX hkX hcellA (by rw [hhp, hT]; exact Nat.le_refl _) (msg := .ref sa) rfl
    (g := { method := m, pc := pc + 6, locals := ls, stack := .ref sa :: .ref T.heap.size :: .ref T.heap.size :: rest, locked := none }) rfl hsize rfl rfl (rest := rest) rfl
    (by rw [hb]; exact d6) (by rw [hb]; exact d9) hout hRframes (by simp only [List.map_cons, List.sum_cons, hcat]; omega) hlocks
  obtain ⟨f1, f2⟩ := vx_frame hsame
  rw [hhp] at f1 f2
  have hWs : s.WarmedH U.vm := State.WarmedH.trans hW0 hW
  have hcl : s.vm.findClass cls = some ce.cls := by
    have h9 := hO.cls
    rw [hvm] at h9
    exact h9
  have hall : s.sameButNew ({ U with vm := s.vm } : State) locs mc ms := by
    subst hA
    obtain ⟨e1, e2⟩ := hsame
    rw [State.setFrames_setFrames] at e1
    have h2 : (T.setVm s.vm).sameButNew ({ U with vm := s.vm } : State) [] (0 + 1) (0 + 6) := ⟨e1, e2⟩
    have h3 := X.same.trans h2
    rw [List.append_nil] at h3
    exact h3.mono hc hs
  refine ⟨U, ?_, .threw T.heap.size, hrun, hend, Or.inr ⟨T.heap.size, rfl, cls, ce, locs, hx U hWs.alike f1 (fun q hq => f2 q hq (fun z hz => nomatch hz)), hce, hO.vm, hcl, hWs, hall, hf⟩⟩
  refine st1 _ ?_
  show Steps p.tables e below (T1.setTop { method := m, pc := pc + 3, locals := ls, stack := .ref T.heap.size :: rest, locked := none }) _
  jvm_step X₁.here [X₁.here.top, hexec, d3', Value.category]
  exact X₁.ldcString hexec (own := own) (text := text) (index := is) (a := sa) hown' hstr'.1 hstr'.2
    (g := { method := m, pc := pc + 4, locals := ls, stack := .ref T.heap.size :: .ref T.heap.size :: rest, locked := none }) rfl d4' _ hsteps
/-- 'throw new E("text")', the text by a wide index -/
theorem vx_throwSW {cc : ByteArray} {pc : Nat} (hexec : p.tables.exec = Jvm.exec) (hb : c.code = cc) (hl : l.stackTraces = false) {own cls text : String} {names : List String} {ik is ic mc ms sa : Nat} {A : Nat → Prop}
    (hown : s.vm.findClass own = some m.cls) (hcls : Bundle.fit cls = true) (hnames : ∀ n ∈ names, Bundle.fit n = true)
    (hk : (Cond.classLink own ik cls).before args s = true) (hini : (Cond.initialized cls).before args s = true) (hstr : vk_R own is text sa s) (hat : ∀ w ∈ vx_atS own ic cls names, w.before args s = true)
    (hgood : ∀ w ∈ Cond.classLink own ik cls :: Cond.initialized cls :: vx_atS own ic cls names, vx_ot w = true)
    (hU : vx_Zq Bundle.tN "UNASSIGNED_STACK" Bundle.steD A s s.heap) (hN : vx_Zq Bundle.tN "SUPPRESSED_SENTINEL" Bundle.listD A s s.heap) (hS : va_S A s.heap H locs) (hsize : ls.size = c.maxLocals)
    (d0 : decode cc pc = .ok (.new ik, 3)) (d3 : decode cc (pc + 3) = .ok (.dup, 1)) (d4 : decode cc (pc + 4) = .ok (.ldc_w is, 3)) (d7 : decode cc (pc + 7) = .ok (.invokespecial ic, 3)) (d10 : decode cc (pc + 10) = .ok (.athrow, 1))
    (hout : ∀ x ∈ c.exceptionTable.toList, covers x (pc + 10) = false)
    (hRframes : names.length + 3 < R.frames) (hRlocals : (rest.map fun v => v.category).sum + (13 * (names.length + 1) + 43) ≤ R.locals) (hRcells : cells + 1 ≤ R.cells) (hRslots : slots + 6 ≤ R.slots) (hlocks : meth.locks = false)
    (hx : ∀ t : State, s.vm.Alike t.vm → H.size ≤ t.heap.size → (∀ q : Nat, q < H.size → t.heap[q]? = H[q]?) → XC cls s t)
    (hf : ∀ z ∈ locs, free z.base) (hc : cells + 1 ≤ mc) (hs : slots + 6 ≤ ms) :
    W p l e R s m args below meth c H locs cells slots (vx_MQ below Qc XC args s mc ms free) (F0 m pc ls rest) := by
  intro T hT X
  have htr : e.platform.stackTraces = false := (show e.platform.stackTraces = l.stackTraces by rw [X.admits.platform]).trans hl
  have Y := vx_rebase X (R' := { frames := R.frames, locals := R.locals, cells := 1, slots := 6 }) (Nat.le_refl _) (Nat.le_refl _) hRcells hRslots
  obtain ⟨s', hA⟩ : ∃ z, z = (T.setVm s.vm).setFrames (.invoking m args :: below) := ⟨_, rfl⟩
  rw [← hA] at Y
  have hvm : s'.vm = s.vm := by rw [hA]; rfl
  have hhp : s'.heap = H := by rw [hA]; exact hT
  have hW0 : s.WarmedH s'.vm := by rw [hvm]; exact State.WarmedH.refl s
  have hat' : ∀ w ∈ vx_atS own ic cls names, w.before args s' = true := fun w hw => vx_ot_at hW0 hvm.symm (hgood w (List.mem_cons_of_mem _ (List.mem_cons_of_mem _ hw))) (hat w hw)
  have hk' : (Cond.classLink own ik cls).before args s' = true := vx_ot_at hW0 hvm.symm (hgood _ List.mem_cons_self) hk
  have hini' : (Cond.initialized cls).before args s' = true := vx_ot_at hW0 hvm.symm (hgood _ (List.mem_cons_of_mem _ List.mem_cons_self)) hini
  have hU' : vx_Zq Bundle.tN "UNASSIGNED_STACK" Bundle.steD A s' s'.heap := by rw [hhp]; exact vx_Zq.moved hW0.alike (hU.kept hS.2.1)
  have hN' : vx_Zq Bundle.tN "SUPPRESSED_SENTINEL" Bundle.listD A s' s'.heap := by rw [hhp]; exact vx_Zq.moved hW0.alike (hN.kept hS.2.1)
  have h : ∀ w ∈ Bundle.ownAtoms own ic cls names, w.before args s' = true := vx_own hat' (vx_isRefq hU'.1) (vx_isRefq hN'.1) hU'.2.word hN'.2.word
  have hown' : s'.vm.findClass own = some m.cls := by rw [hvm]; exact hown
  have hins : (Cond.instantiable cls 6).before args s' = true := h _ (by simp [Bundle.ownAtoms])
  obtain ⟨vm₁, cX, kX, hfX, hkX, -, -, X₁, st1⟩ := Y.newCold hexec (own := own) (C := cls) (index := ik) (n := 6) hown' hk' hins hini'
    (g := F0 m pc ls rest) rfl (by rw [hb]; exact d0) (Nat.le_refl _) (Nat.le_refl _)
  generalize hT1 : (T.setVm vm₁).pushCell { cls := cX, slots := kX.instanceTypes.map defaultValue, vm := .none } = T1 at X₁ st1
  have hcat : (Value.ref T.heap.size).category = 1 := rfl
  have hcellA : T1.heap[T.heap.size]? = some (freshCell cX kX) := by rw [← hT1]; exact State.heap_pushCell_size _ _
  have d3' : decode c.code (pc + 3) = .ok (.dup, 1) := by rw [hb]; exact d3
  have d4' : decode c.code (pc + 4) = .ok (.ldc_w is, 3) := by rw [hb]; exact d4
  have hstr' : vk_R own is text sa s' := vk_R.warm hW0 hstr
  obtain ⟨U, hsteps, hrun, hend, hW, hsame, ce, hce, hO⟩ := X₁.ctorThrowS hexec htr (own := own) (cls := cls) (names := names) (ic := ic) hown' hcls hnames h (fun x hx => nomatch hx) hfX hkX hcellA (by rw [hhp, hT]; exact Nat.le_refl _) (msg := .ref sa) rfl
    (g := { method := m, pc := pc + 7, locals := ls, stack := .ref sa :: .ref T.heap.size :: .ref T.heap.size :: rest, locked := none }) rfl hsize rfl rfl (rest := rest) rfl
    (by rw [hb]; exact d7) (by rw [hb]; exact d10) hout hRframes (by simp only [List.map_cons, List.sum_cons, hcat]; omega) hlocks
  obtain ⟨f1, f2⟩ := vx_frame hsame
  rw [hhp] at f1 f2
  have hWs : s.WarmedH U.vm := State.WarmedH.trans hW0 hW
  have hcl : s.vm.findClass cls = some ce.cls := by
    have h9 := hO.cls
    rw [hvm] at h9
    exact h9
  have hall : s.sameButNew ({ U with vm := s.vm } : State) locs mc ms := by
    subst hA
    obtain ⟨e1, e2⟩ := hsame
    rw [State.setFrames_setFrames] at e1
    have h2 : (T.setVm s.vm).sameButNew ({ U with vm := s.vm } : State) [] (0 + 1) (0 + 6) := ⟨e1, e2⟩
    have h3 := X.same.trans h2
    rw [List.append_nil] at h3
    exact h3.mono hc hs
  refine ⟨U, ?_, .threw T.heap.size, hrun, hend, Or.inr ⟨T.heap.size, rfl, cls, ce, locs, hx U hWs.alike f1 (fun q hq => f2 q hq (fun z hz => nomatch hz)), hce, hO.vm, hcl, hWs, hall, hf⟩⟩
  refine st1 _ ?_
  show Steps p.tables e below (T1.setTop { method := m, pc := pc + 3, locals := ls, stack := .ref T.heap.size :: rest, locked := none }) _
  jvm_step X₁.here [X₁.here.top, hexec, d3', Value.category]
  exact X₁.ldcStringW hexec (own := own) (text := text) (index := is) (a := sa) hown' hstr'.1 hstr'.2
    (g := { method := m, pc := pc + 4, locals := ls, stack := .ref T.heap.size :: .ref T.heap.size :: rest, locked := none }) rfl d4' _ hsteps
end Ends
section Bodies
variable {l : Launch}
theorem vx_ofW {y : MethodName} {ws ws' : List Cond} {rm : Room} {Pc : Array Value → State → Prop} {Qc : Array Value → State → Outcome → State → Prop} {XC : String → State → State → Prop} {mc ms : Nat} {free : Addr → Prop} {cc : ByteArray} {maxL : Nat} {ret : Option FieldType}
    (hy : plainName y.cls = true) (hw : ws = Cond.code y cc maxL ret :: ws')
    (body : ∀ p e s m args below meth c s₁, BodyLoose p l y (headSpec ws rm) cc maxL ret e s m args below meth c s₁ → c.maxLocals = maxL → (∀ x ∈ c.exceptionTable.toList, False) → Pc args s →
      W p l e (headSpec ws rm).room s m args below meth c s.heap [] 0 0 (vx_MQ below Qc XC args s mc ms free) (entryFrame m args maxL)) : vx_Met l y ws rm Pc Qc XC mc ms free := by
  refine MetFree.of_bodyS (code := cc) (maxLocals := maxL) (ret := ret) hy ?_ ?_
  · intro args s m h hn
    obtain ⟨meth, c, h1, h2, h3, h4, h5, h6, -, -⟩ := Cond.code_spec hn (atoms_spec (ws := ws) h _ (by rw [hw]; exact List.mem_cons_self))
    exact ⟨meth, c, h1, h2, h3, h4, h5, h6⟩
  · intro p e s m args below meth c s₁ B hml hP _
    have hh0 : s₁.heap = s.heap := by rw [B.state]; rfl
    have ht : ∀ x ∈ c.exceptionTable.toList, False := by
      obtain ⟨meth9, c9, h1, h2, -, -, -, -, h7, -⟩ := Cond.code_spec B.named (atoms_spec (ws := ws) B.pre _ (by rw [hw]; exact List.mem_cons_self))
      cases Option.some.inj (h1.symm.trans B.method)
      cases Option.some.inj (h2.symm.trans (Stand.of_body B).code)
      intro x hx
      rw [Array.isEmpty_iff.mp h7] at hx
      cases hx
    obtain ⟨t, a1, o, b1, b2, b3⟩ := body p e s m args below meth c s₁ B hml ht hP s₁ hh0 (Stand.of_body B)
    exact ⟨t, o, a1, b1, b2, b3⟩
/-- the table of a body with handlers -/
theorem vx_table {p : Program} {x y : MethodName} {S : Spec} {cc bytes : ByteArray} {maxL maxL' : Nat} {ret ret' : Option FieldType} {e : Env} {s s₁ : State} {m : MethodId} {args : Array Value} {below : List Frame} {meth : Method} {c : Code} {hh : List (Nat × Nat × Nat × Nat)}
    (B : BodyLoose p l y S cc maxL ret e s m args below meth c s₁) (h : (Cond.codeWith y bytes maxL' ret' hh).before args s = true) : c.exceptionTable.toList = tableOf hh := by
  obtain ⟨m9, meth9, c9, hn9, h1, h2, -, -, h6, -⟩ := Cond.codeWith_spec h
  cases Option.some.inj (hn9.symm.trans B.named)
  cases Option.some.inj (h1.symm.trans B.method)
  cases Option.some.inj (h2.symm.trans (Stand.of_body B).code)
  rw [← h6, table_eq]
end Bodies
end VXA
/-! ===== END ===== -/
/-! ===== BEGIN a static call of a method with an exception table ===== -/
section VXS
variable {p : Program} {l : Launch} {e : Env} {R : Room} {s : State} {m : MethodId} {args : Array Value} {below : List Frame} {meth : Method} {c : Code} {T : State} {H : Heap} {locs : List Loc} {cells slots : Nat}
abbrev vx_CSW (R : Room) (s : State) (args : Array Value) (own : String) (index : Nat) (y : MethodName) (bytes : ByteArray) (maxL : Nat) (ret : Option FieldType) (hh : List (Nat × Nat × Nat × Nat)) (ws : List Cond) (rm : Room) (mc ms n : Nat) : Prop :=
  (rm.cells = mc ∧ rm.slots = ms ∧ rm.frames + 1 ≤ R.frames ∧ 8 + (maxL + 11) + rm.locals ≤ R.locals ∧ (∀ w ∈ ws, ∀ (a' : Array Value) (U : State), s.WarmedH U.vm → w.before a' U = true) ∧ Cond.codeWith y bytes maxL ret hh ∈ ws) ∧
  (Cond.codeWith y bytes maxL ret hh).before args s = true ∧ (Cond.initialized y.cls).before args s = true ∧ (y.cls ≠ "java/lang/invoke/MethodHandle" ∧ y.cls ≠ "java/lang/invoke/VarHandle") ∧
  (∀ sig, parseMethodDescriptor y.desc = some sig → n = sig.parameters.length) ∧ (Cond.methodLink own index y).before args s = true ∧ (Cond.static y).before args s = true
theorem vx_cwSW {own : String} {index maxL mc ms : Nat} {y : MethodName} {bytes : ByteArray} {ret : Option FieldType} {hh : List (Nat × Nat × Nat × Nat)} {Ts ws ws' : List Cond} {rm : Room} (n : Nat) (ht : ∀ w ∈ Ts, w.before args s = true) (hT : GoodIn Ts (va_wsS own index y ws)) (hw : ws = Cond.codeWith y bytes maxL ret hh :: ws') (hrc : rm.cells = mc) (hrs : rm.slots = ms)
    (hd : y.cls ≠ "java/lang/invoke/MethodHandle" ∧ y.cls ≠ "java/lang/invoke/VarHandle" ∧ (parseMethodDescriptor y.desc).map (fun d => d.parameters.length) = some n) (hR : rm.frames + 1 ≤ R.frames ∧ 8 + (maxL + 11) + rm.locals ≤ R.locals) :
    vx_CSW R s args own index y bytes maxL ret hh ws rm mc ms n := by
  have ok : ∀ w ∈ va_wsS own index y ws, w.before args s = true := fun w h => ht w (hT w h).1
  have hG : GoodIn Ts ws := fun w h => hT w (by unfold va_wsS; exact List.mem_append_right _ h)
  have hc : Cond.codeWith y bytes maxL ret hh ∈ ws := by rw [hw]; exact List.mem_cons_self
  refine ⟨⟨hrc, hrs, hR.1, hR.2, pay_in ht hG, hc⟩, ht _ (hG _ hc).1, ok _ (by simp [va_wsS]), ⟨hd.1, hd.2.1⟩, fun sig h => ?_, ok _ (by simp [va_wsS]), ok _ (by simp [va_wsS])⟩
  have h2 := hd.2.2
  rw [h] at h2
  exact (Option.some.inj h2).symm
theorem vx_callSW (X : Stand p l e R s m args below meth c T locs cells slots) (hexec : p.tables.exec = Jvm.exec) {own : String} {index : Nat} {y : MethodName} {bytes : ByteArray} {maxL : Nat} {ret : Option FieldType} {hh : List (Nat × Nat × Nat × Nat)}
    (hown : s.vm.findClass own = some m.cls) (hlink : (Cond.methodLink own index y).before args s = true) (hstat : (Cond.static y).before args s = true) (hinit : (Cond.initialized y.cls).before args s = true)
    (hcode : (Cond.codeWith y bytes maxL ret hh).before args s = true) (hy : y.cls ≠ "java/lang/invoke/MethodHandle" ∧ y.cls ≠ "java/lang/invoke/VarHandle")
    {W9 : Nat} {Pre : Pt → Array Value → Prop} {Post : Pt → Array Value → Option Value → Pt → Prop} (hK : Back l R p e below s args y 3 W9 Pre Post)
    {g : JFrame} (hg : g.method = m) (hsize : g.locals.size = c.maxLocals) {argsL rest : List Value} (hlen : ∀ sig, parseMethodDescriptor y.desc = some sig → argsL.length = sig.parameters.length)
    (hstack : g.stack = argsL.reverse ++ rest) (hW : 2 * g.monitorRoom + (rest.map fun v => v.category).sum ≤ W9) (hdg : decode c.code g.pc = .ok (.invokestatic index, 3))
    (hpre : ∀ vm₁, s.WarmedH vm₁ → Pre ⟨T.setVm vm₁, locs, cells, slots⟩ argsL.toArray) :
    ∃ (v : Option Value) (vm₁ : Vm) (B : Pt), s.WarmedH vm₁ ∧ Stand p l e R s m args below meth c B.U B.locs B.cells B.slots ∧ Post ⟨T.setVm vm₁, locs, cells, slots⟩ argsL.toArray v B ∧
      ∀ target, Steps p.tables e below (B.U.setTop { g with pc := g.pc + 3, stack := v.toList ++ rest }) target → Steps p.tables e below (T.setTop g) target := by
  obtain ⟨mk, methM, cM, hnamed, hmethM, -, -, -, -, -, -, hsigM⟩ := Cond.codeWith_spec hcode
  have hstatic : methM.isStatic = true := Cond.static_spec hnamed hmethM hstat
  obtain ⟨kP, hkP, -⟩ := className_of_methodNamed hnamed
  have hinitP : kP.init = .initialized := Cond.initialized_spec (findClass_of_methodNamed hnamed) hkP hinit
  obtain ⟨vm₁, X₁, hstep₁⟩ := X.invokestatic hexec hown hlink hnamed hmethM hstatic hkP hinitP hy (g := g) hg (argsL := argsL) (rest := rest) (hlen _ hsigM) hstack hdg
  obtain ⟨v, B, X', hpost, hsteps⟩ := hK m meth c ⟨T.setVm vm₁, locs, cells, slots⟩ { g with stack := rest } (.invokestatic index) mk argsL.toArray X₁ hg hsize hdg hW (X₁.named hnamed) (hpre vm₁ X₁.warmed)
  exact ⟨v, vm₁, B, X₁.warmed, X', hpost, fun target h => hstep₁ _ fun acts => by rw [doInvoke_state]; exact hsteps.trans h⟩
theorem vx_runSW {y : MethodName} {bytes cc : ByteArray} {maxL nL mc ms n index : Nat} {ret : Option FieldType} {hh : List (Nat × Nat × Nat × Nat)} {ws : List Cond} {rm : Room} {Pc : Array Value → State → Prop} {Qc : Array Value → State → Outcome → State → Prop} {free : Addr → Prop} {Ts : List Cond} {own : String} {As rest : List Value} {g : JFrame}
    (S : CallFix p m c cc nL s args Ts own) (hM : Met l y ws rm Pc Qc mc ms free) (cw : vx_CSW R s args own index y bytes maxL ret hh ws rm mc ms n) (hp : PreS s H Pc As)
    (hg : g.method = m) (hn : As.length = n) (hsize : g.locals.size = nL) (hstack : g.stack = As.reverse ++ rest) (hW : 2 * g.monitorRoom + (rest.map fun v => v.category).sum ≤ 8) (hdg : decode cc g.pc = .ok (.invokestatic index, 3)) (hf : cells + mc ≤ R.cells ∧ slots + ms ≤ R.slots) :
    va_Run p l e R s m args below meth c H locs cells slots mc ms g rest (Qc As.toArray) (free) := by
  obtain ⟨⟨hrc, hrs, hfr, hlo, hws, hcw⟩, hcode, hini, hy, hlen, hl, hstt⟩ := cw
  have hK : Back l R p e below s args y 3 8 (PreOf R mc ms Pc) (PostOf Qc mc ms free) := va_backW (hh := hh) (bytes := bytes) (maxL := maxL) (ret := ret) hM hp.1 hrc hrs hfr hlo hws hcw (fun a' U hW => word_at hW (Or.inl (by first | rfl | simp [Cond.onTables, Cond.keeps, Cond.steady])) hini)
  obtain ⟨hx, hb, hml, ho, -⟩ := S
  intro T hT X
  obtain ⟨v, vm₁, ⟨U', l2, c2, s2⟩, hW₁, X', ⟨g', mk, t, L, e1, e2, hq, h1, hL, h2, h3⟩, st⟩ := vx_callSW X hx (hh := hh) (bytes := bytes) (maxL := maxL) (ret := ret) ho hl hstt hini hcode hy hK hg (hsize.trans hml.symm) (argsL := As) (rest := rest) (fun sig h => hn.trans (hlen sig h)) hstack hW (by rw [hb]; exact hdg)
    (fun vm₁ hW₁ => ⟨hf.1, hf.2, hp.2 (T.setVm vm₁) hT hW₁⟩)
  dsimp only [Pt.U, Pt.locs, Pt.cells, Pt.slots] at X' e1 e2 h1 h2 h3 st
  subst h1; subst h2; subst h3
  exact ⟨v, (T.setVm vm₁).calling g' mk As.toArray, t, U', L, hT, X', hL, e1, e2, hq, st⟩
/-- not caught here, past rows that name other classes: it goes on to the caller -/
theorem vx_outP {p : Program} {l : Launch} {e : Env} {R : Room} {s : State} {m : MethodId} {args : Array Value} {below : List Frame} {meth : Method} {c : Code} {H : Heap} {locs : List Loc} {cells slots : Nat} {free : Addr → Prop} {ls : Array Slot} {rest : List Value} {Qc : Array Value → State → Outcome → State → Prop} {XC : String → State → State → Prop}
    {pc : Nat} {own E : String} {ce : Cell} {q : Addr} {mc ms : Nat} (hown : s.vm.findClass own = some m.cls) (hlocks : meth.locks = false)
    (hpass : ∀ z ∈ c.exceptionTable.toList, covers z pc = false ∨ (z.catchType ≠ 0 ∧ ∃ nm : String, (Cond.classLink own z.catchType nm).before args s = true ∧ va_Nc E nm s)) (hcell : H[q]? = some ce) (hv : ce.vm = .none) (hcl : s.vm.findClass E = some ce.cls)
    (hx : ∀ t : State, t.heap = H → s.vm.Alike t.vm → XC E s t) (hf : ∀ z ∈ locs, free z.base) (hc : cells ≤ mc) (hs : slots ≤ ms) :
    vx_W p l e R s m args below meth c H locs cells slots (vx_MQ below Qc XC args s mc ms free) (F0 m pc ls rest) q := by
  intro T hT X
  have hpl : e.platform.magicAccessors = ({} : Platform).magicAccessors := by rw [X.admits.platform]
  obtain ⟨vm', hW', X', st⟩ := X.outThrough hlocks q (g := F0 m pc ls rest) rfl rfl rfl (cell := ce) (by rw [hT]; exact hcell) (by rw [hv]; rfl)
    (by obtain ⟨k9, h9, -⟩ := Vm.findClass_spec hcl; exact ⟨k9, h9⟩) (fun z hz => by
      rcases hpass z hz with h | ⟨hz0, nm, hl1, hn1⟩
      · exact Or.inl h
      · obtain ⟨c6, hc6, hcl6⟩ := Cond.classLink_spec hown hl1 e.platform hpl
        obtain ⟨a8, b8, h1, h2, h3⟩ := hn1
        cases Option.some.inj (h1.symm.trans hcl)
        cases Option.some.inj (h2.symm.trans hc6)
        exact Or.inr ⟨hz0, _, hcl6, h3⟩)
  obtain ⟨g₀, hfr⟩ := X'.frames_eq
  have hcell9 : ((T.setVm vm').setFrames (.throwing q :: below)).heap[q]? = some ce := by
    show T.heap[q]? = some ce
    rw [hT]; exact hcell
  have hend : Ended ((T.setVm vm').setFrames (.throwing q :: below)) below (.threw q) := State.frames_setFrames _ (State.cur_lt_of_frames hfr)
  refine ⟨(T.setVm vm').setFrames (.throwing q :: below), ?_, .threw q, X'.here.running, hend, Or.inr ⟨q, rfl, E, ce, locs, hx _ hT (X'.ends _).1.alike, hcell9, hv, hcl, (X'.ends _).1, (X'.ends _).2.mono hc hs, hf⟩⟩
  rw [X.pushThrowing_eq]
  exact st
/-- a thing of a world lies in the heap -/
theorem vx_lt {D : va_G} {cl : List vw_C} {ws : va_W} {H1 : Heap} (h : va_P D cl ws H1) {k : Nat} {q : Nat × va_E} (hk : ws[k]? = some q) : q.1 < H1.size := (h k q hk).lt
end VXS
/-! ===== END ===== -/
/-! ===== BEGIN methods with a table of their own: called by a name, returning or throwing ===== -/
section VXH
/-! vx_backW, vx_callVX, vx_callSX, vx_callVW, vx_runVW, vx_runVX, vx_runSX, vx_ofWH follow the same proofs as their sisters above (Free/Laws.lean, Shelf42/LK1.lean); vx_outP calls Shelf42/NT130.lean (outThrough). -/
section
variable {l : Launch} {R : Room} {p : Program} {e : Env} {below : List Frame} {s : State} {sargs : Array Value} {y : MethodName} {len W9 : Nat}
theorem vx_backW {ws : List Cond} {rm : Room} {Pc : Array Value → State → Prop} {Qc : Array Value → State → Outcome → State → Prop} {XC : String → State → State → Prop} {mc ms : Nat} {free : Addr → Prop} {bytes : ByteArray} {maxL : Nat} {ret : Option FieldType} {hh : List (Nat × Nat × Nat × Nat)}
    (hM : vx_Met l y ws rm Pc Qc XC mc ms free) (hblind : FrameBlind Pc) (hrc : rm.cells = mc) (hrs : rm.slots = ms)
    (hframes : rm.frames + 1 ≤ R.frames) (hlocals : W9 + (maxL + 11) + rm.locals ≤ R.locals)
    (hws : ∀ w ∈ ws, ∀ a' U, s.WarmedH U.vm → w.before a' U = true) (hcode : Cond.codeWith y bytes maxL ret hh ∈ ws) (hinit : ∀ a' U, s.WarmedH U.vm → (Cond.initialized y.cls).before a' U = true) :
    vx_Back l R p e below s sargs y len W9 (PreOf R mc ms Pc) (PostOf Qc mc ms free) (vx_Post XC mc ms free) := by
  intro m meth c A g ig mk a X hg hsize hdg hW hn hp
  have h1 : (headSpec ws rm).pre.before a A.U = true := atoms_intro fun w hw => hws w hw _ _ X.warmed
  have h2 : (Cond.codeWith y bytes maxL ret hh).before a A.U = true := hws _ hcode _ _ X.warmed
  have h3 : (Cond.initialized y.cls).before a A.U = true := hinit _ _ X.warmed
  have h4 : A.cells + (headSpec ws rm).room.cells ≤ R.cells := by rw [show (headSpec ws rm).room.cells = mc from hrc]; exact hp.1
  have h5 : A.slots + (headSpec ws rm).room.slots ≤ R.slots := by rw [show (headSpec ws rm).room.slots = ms from hrs]; exact hp.2.1
  have hPc : Pc a (A.U.calling g mk a) := hblind _ _ _ _ hp.2.2
  obtain ⟨U, Ls, c0, s0⟩ := A
  dsimp only [Pt.U, Pt.locs, Pt.cells, Pt.slots] at h1 h2 h3 h4 h5 X hn hPc ⊢
  obtain ⟨m9, methY, cY, hn9, hmY, hcY, -, hlY, -⟩ := Cond.codeWith_spec h2
  cases Option.some.inj (hn9.symm.trans hn)
  obtain ⟨kY, hkY, -⟩ := className_of_methodNamed hn
  have hinitY : kY.init = .initialized := Cond.initialized_spec (findClass_of_methodNamed hn) hkY h3
  have h : At U g.method c below := by rw [hg]; exact X.here
  have hlocals9 : W9 + (maxL + 11) + (headSpec ws rm).room.locals ≤ R.locals := hlocals
  have happ : (headSpec ws rm).appliesLoose y e.platform (U.calling g mk a) = true :=
    Spec.appliesLoose_calling (g := g) h hdg hn hkY hinitY
      (X.room_calling (g := g) (R' := (headSpec ws rm).room) hsize hmY hcY hframes (by rw [hlY]; omega) h4 h5) h1
  obtain ⟨mid, hmid⟩ := h.above
  have hfr : (U.setTop g).frames = (.java g :: mid) ++ below := by rw [State.frames_setTop' g h.top, hmid]; rfl
  obtain ⟨o, s₂, hsteps, -, hend, hq⟩ := Steps.callFree hM p X.admits X.cas X.clock (acts := []) hfr happ hPc trivial
  have hq' : vx_Q Qc XC mc ms free a (U.calling g mk a) o s₂ := hq
  rw [State.frames_setTop' g h.top] at hend
  obtain ⟨g₀, hg0⟩ := Option.isSome_iff_exists.mp h.top
  obtain ⟨r, hr⟩ := State.topJava?_eq_some.mp hg0
  have hr' : (({ U with heap := s₂.heap, slotsUsed := s₂.slotsUsed } : State).setVm s₂.vm).frames = .java g₀ :: r := hr
  rcases hq' with ⟨hqc, L, hfe, hL⟩ | ⟨q, rfl, E, ce, L, hx, hce, hcv, hcl, hW₂, hsm, hL⟩
  · obtain ⟨⟨v, rfl⟩, hW₂, e2, q2, q3, q4, q5, q6⟩ := id hfe
    have e3 : s₂ = ({ (U.calling g mk a).setFrames s₂.frames with heap := s₂.heap, slotsUsed := s₂.slotsUsed } : State).setVm s₂.vm := by
      have : s₂ = ({ s₂ with vm := (U.calling g mk a).vm } : State).setVm s₂.vm := rfl
      rw [e2] at this
      exact this
    obtain ⟨c₂, i₂, len₂, hc₂, hd₂, hf₂⟩ := hend
    have hW' : U.WarmedH s₂.vm := hW₂
    have hcc : c₂ = c := by
      have h1 : s₂.code? g.method = U.code? g.method := by
        rw [State.code?_eq, State.code?_eq, hW'.alike.method?]
      exact Option.some.inj (hc₂.symm.trans (h1.trans h.code))
    subst hcc
    have hlen : len₂ = len := by rw [hdg] at hd₂; cases hd₂; rfl
    subst hlen
    have hs₂ : s₂ = (({ U with heap := s₂.heap, slotsUsed := s₂.slotsUsed } : State).setVm s₂.vm).setTop { g with pc := g.pc + len₂, stack := v.toList ++ g.stack } := by
      refine e3.trans ?_
      rw [hf₂, State.calling_eq h.top, State.setFrames_setFrames, State.setTop_of_frames _ hr', hr]
      rfl
    have hsame : U.sameButNew ({ U with heap := s₂.heap, slotsUsed := s₂.slotsUsed } : State) L mc ms := by
      refine ⟨?_, q2, q3, q4, q5, q6⟩
      obtain ⟨t, ht, -⟩ := State.frames_cons hr
      show ({ U with heap := s₂.heap, slotsUsed := s₂.slotsUsed } : State) = { U.setFrames U.frames with heap := s₂.heap, slotsUsed := s₂.slotsUsed }
      rw [State.setFrames_self ht]
    subst hg
    refine Or.inl ⟨v, ⟨(({ U with heap := s₂.heap, slotsUsed := s₂.slotsUsed } : State).setVm s₂.vm), Ls ++ L, c0 + mc, s0 + ms⟩,
      ⟨X.admits, X.cas, X.clock, X.frames, X.room, X.hears, X.method, X.code, (X.here.setHeapUsed s₂.heap s₂.slotsUsed).setVm hW'.alike, X.tail, State.WarmedH.trans X.warmed hW', X.limits, X.bytes, X.same.trans (hsame.setVm s.vm)⟩,
      ⟨g, mk, s₂, L, rfl, rfl, hqc, rfl, hL, rfl, rfl⟩, ?_⟩
    show Steps p.tables e below _ ((({ U with heap := s₂.heap, slotsUsed := s₂.slotsUsed } : State).setVm s₂.vm).setTop { g with pc := g.pc + len₂, stack := v.toList ++ g.stack })
    rw [← hs₂]
    exact hsteps
  · obtain ⟨e2, q2, q3, q4, q5, q6⟩ := id hsm
    have e3 : s₂ = ({ (U.calling g mk a).setFrames s₂.frames with heap := s₂.heap, slotsUsed := s₂.slotsUsed } : State).setVm s₂.vm := by
      have : s₂ = ({ s₂ with vm := (U.calling g mk a).vm } : State).setVm s₂.vm := rfl
      rw [e2] at this
      exact this
    have hf₂ : s₂.frames = .throwing q :: .java g :: U.frames.tail := hend
    have hW' : U.WarmedH s₂.vm := hW₂
    have hs₂ : s₂ = ((({ U with heap := s₂.heap, slotsUsed := s₂.slotsUsed } : State).setVm s₂.vm).setTop g).pushFrame (.throwing q) := by
      refine e3.trans ?_
      rw [hf₂, State.calling_eq h.top, State.setFrames_setFrames, State.pushFrame, State.frames_setTop _ hr', State.setTop_of_frames _ hr', State.setFrames_setFrames, hr]
      rfl
    have hsame : U.sameButNew ({ U with heap := s₂.heap, slotsUsed := s₂.slotsUsed } : State) L mc ms := by
      refine ⟨?_, q2, q3, q4, q5, q6⟩
      obtain ⟨t, ht, -⟩ := State.frames_cons hr
      show ({ U with heap := s₂.heap, slotsUsed := s₂.slotsUsed } : State) = { U.setFrames U.frames with heap := s₂.heap, slotsUsed := s₂.slotsUsed }
      rw [State.setFrames_self ht]
    subst hg
    refine Or.inr ⟨q, ⟨(({ U with heap := s₂.heap, slotsUsed := s₂.slotsUsed } : State).setVm s₂.vm), Ls ++ L, c0 + mc, s0 + ms⟩,
      ⟨X.admits, X.cas, X.clock, X.frames, X.room, X.hears, X.method, X.code, (X.here.setHeapUsed s₂.heap s₂.slotsUsed).setVm hW'.alike, X.tail, State.WarmedH.trans X.warmed hW', X.limits, X.bytes, X.same.trans (hsame.setVm s.vm)⟩,
      ⟨g, mk, s₂, L, E, ce, rfl, rfl, hx, hce, hcv, hcl, rfl, hL, rfl, rfl⟩, ?_⟩
    show Steps p.tables e below _ (((({ U with heap := s₂.heap, slotsUsed := s₂.slotsUsed } : State).setVm s₂.vm).setTop g).pushFrame (.throwing q))
    rw [← hs₂]
    exact hsteps
end
variable {p : Program} {l : Launch} {e : Env} {R : Room} {s : State} {m : MethodId} {args : Array Value} {below : List Frame} {meth : Method} {c : Code} {T : State} {H : Heap} {locs : List Loc} {cells slots : Nat}
theorem vx_callVX (X : Stand p l e R s m args below meth c T locs cells slots) (hexec : p.tables.exec = Jvm.exec) {own C : String} {index : Nat} {y : MethodName} {bytes : ByteArray} {maxL : Nat} {ret : Option FieldType} {hh : List (Nat × Nat × Nat × Nat)}
    (hown : s.vm.findClass own = some m.cls) (hlink : (Cond.methodLink own index y).before args s = true) (hinst : (Cond.instanceMethod y).before args s = true) (hsel : (Cond.selects C y y).before args s = true)
    (hcode : (Cond.codeWith y bytes maxL ret hh).before args s = true) (hy : y.cls ≠ "java/lang/invoke/MethodHandle" ∧ y.cls ≠ "java/lang/invoke/VarHandle")
    {W9 : Nat} {Pre : Pt → Array Value → Prop} {Post : Pt → Array Value → Option Value → Pt → Prop} {PostX : Pt → Array Value → Addr → Pt → Prop} (hK : vx_Back l R p e below s args y 3 W9 Pre Post PostX)
    {b : Addr} {cellB : Cell} (hcell : T.heap[b]? = some cellB) (hobj : cellB.vm.isStatics = false) (hcls : s.vm.findClass C = some cellB.cls)
    {g : JFrame} (hg : g.method = m) (hsize : g.locals.size = c.maxLocals) {argsL rest : List Value} (hlen : ∀ sig, parseMethodDescriptor y.desc = some sig → argsL.length = sig.parameters.length)
    (hstack : g.stack = argsL.reverse ++ .ref b :: rest) (hW : 2 * g.monitorRoom + (rest.map fun v => v.category).sum ≤ W9) (hdg : decode c.code g.pc = .ok (.invokevirtual index, 3))
    (hpre : ∀ vm₁, s.WarmedH vm₁ → Pre ⟨T.setVm vm₁, locs, cells, slots⟩ (Value.ref b :: argsL).toArray) :
    (∃ (v : Option Value) (vm₁ : Vm) (B : Pt), s.WarmedH vm₁ ∧ Stand p l e R s m args below meth c B.U B.locs B.cells B.slots ∧ Post ⟨T.setVm vm₁, locs, cells, slots⟩ (Value.ref b :: argsL).toArray v B ∧
      ∀ target, Steps p.tables e below (B.U.setTop { g with pc := g.pc + 3, stack := v.toList ++ rest }) target → Steps p.tables e below (T.setTop g) target) ∨
    (∃ (q : Addr) (vm₁ : Vm) (B : Pt), s.WarmedH vm₁ ∧ Stand p l e R s m args below meth c B.U B.locs B.cells B.slots ∧ PostX ⟨T.setVm vm₁, locs, cells, slots⟩ (Value.ref b :: argsL).toArray q B ∧
      Steps p.tables e below (T.setTop g) ((B.U.setTop { g with stack := rest }).pushFrame (.throwing q))) := by
  obtain ⟨mk, methM, hnamed, hmethM, hstM, habM⟩ := Cond.instanceMethod_spec hinst
  obtain ⟨m8, methM', cM, hn8, hmethM', -, -, -, -, -, -, hsigM⟩ := Cond.codeWith_spec hcode
  cases Option.some.inj (hn8.symm.trans hnamed)
  cases hmethM.symm.trans hmethM'
  obtain ⟨c2, r2, m2, q1, q2, q3, q4, kP, hkP, hkPi⟩ := Cond.selects_spec hsel
  cases hcls.symm.trans q1
  cases (State.methodFound?_of_named hnamed hy).symm.trans q2
  cases hnamed.symm.trans q3
  have hselP : selectMethod e.platform s.vm cellB.cls mk = .method mk := by rw [Launch.admits_selectMethod X.admits]; exact q4
  obtain ⟨vm₁, X₁, hstep₁⟩ := X.invokevirtual hexec hown hlink hnamed hmethM hstM hkP hkPi hy (a := b) (cell := cellB) hcell
    (fun z h => by rw [h] at hobj; cases hobj) hselP hmethM habM hkP hkPi (g := g) hg (argsL := argsL) (rest := rest) (hlen _ hsigM) hstack hdg
  rcases hK m meth c ⟨T.setVm vm₁, locs, cells, slots⟩ { g with stack := rest } (.invokevirtual index) mk (Value.ref b :: argsL).toArray X₁ hg hsize hdg hW (X₁.named hnamed) (hpre vm₁ X₁.warmed) with ⟨v, B, X', hpost, hsteps⟩ | ⟨q, B, X', hpost, hsteps⟩
  · exact Or.inl ⟨v, vm₁, B, X₁.warmed, X', hpost, fun target h => hstep₁ _ fun acts => by rw [doInvoke_state]; exact hsteps.trans h⟩
  · exact Or.inr ⟨q, vm₁, B, X₁.warmed, X', hpost, hstep₁ _ fun acts => by rw [doInvoke_state]; exact hsteps⟩
theorem vx_callSX (X : Stand p l e R s m args below meth c T locs cells slots) (hexec : p.tables.exec = Jvm.exec) {own : String} {index : Nat} {y : MethodName} {bytes : ByteArray} {maxL : Nat} {ret : Option FieldType} {hh : List (Nat × Nat × Nat × Nat)}
    (hown : s.vm.findClass own = some m.cls) (hlink : (Cond.methodLink own index y).before args s = true) (hstat : (Cond.static y).before args s = true) (hinit : (Cond.initialized y.cls).before args s = true)
    (hcode : (Cond.codeWith y bytes maxL ret hh).before args s = true) (hy : y.cls ≠ "java/lang/invoke/MethodHandle" ∧ y.cls ≠ "java/lang/invoke/VarHandle")
    {W9 : Nat} {Pre : Pt → Array Value → Prop} {Post : Pt → Array Value → Option Value → Pt → Prop} {PostX : Pt → Array Value → Addr → Pt → Prop} (hK : vx_Back l R p e below s args y 3 W9 Pre Post PostX)
    {g : JFrame} (hg : g.method = m) (hsize : g.locals.size = c.maxLocals) {argsL rest : List Value} (hlen : ∀ sig, parseMethodDescriptor y.desc = some sig → argsL.length = sig.parameters.length)
    (hstack : g.stack = argsL.reverse ++ rest) (hW : 2 * g.monitorRoom + (rest.map fun v => v.category).sum ≤ W9) (hdg : decode c.code g.pc = .ok (.invokestatic index, 3))
    (hpre : ∀ vm₁, s.WarmedH vm₁ → Pre ⟨T.setVm vm₁, locs, cells, slots⟩ argsL.toArray) :
    (∃ (v : Option Value) (vm₁ : Vm) (B : Pt), s.WarmedH vm₁ ∧ Stand p l e R s m args below meth c B.U B.locs B.cells B.slots ∧ Post ⟨T.setVm vm₁, locs, cells, slots⟩ argsL.toArray v B ∧
      ∀ target, Steps p.tables e below (B.U.setTop { g with pc := g.pc + 3, stack := v.toList ++ rest }) target → Steps p.tables e below (T.setTop g) target) ∨
    (∃ (q : Addr) (vm₁ : Vm) (B : Pt), s.WarmedH vm₁ ∧ Stand p l e R s m args below meth c B.U B.locs B.cells B.slots ∧ PostX ⟨T.setVm vm₁, locs, cells, slots⟩ argsL.toArray q B ∧
      Steps p.tables e below (T.setTop g) ((B.U.setTop { g with stack := rest }).pushFrame (.throwing q))) := by
  obtain ⟨mk, methM, cM, hnamed, hmethM, -, -, -, -, -, -, hsigM⟩ := Cond.codeWith_spec hcode
  have hstatic : methM.isStatic = true := Cond.static_spec hnamed hmethM hstat
  obtain ⟨kP, hkP, -⟩ := className_of_methodNamed hnamed
  have hinitP : kP.init = .initialized := Cond.initialized_spec (findClass_of_methodNamed hnamed) hkP hinit
  obtain ⟨vm₁, X₁, hstep₁⟩ := X.invokestatic hexec hown hlink hnamed hmethM hstatic hkP hinitP hy (g := g) hg (argsL := argsL) (rest := rest) (hlen _ hsigM) hstack hdg
  rcases hK m meth c ⟨T.setVm vm₁, locs, cells, slots⟩ { g with stack := rest } (.invokestatic index) mk argsL.toArray X₁ hg hsize hdg hW (X₁.named hnamed) (hpre vm₁ X₁.warmed) with ⟨v, B, X', hpost, hsteps⟩ | ⟨q, B, X', hpost, hsteps⟩
  · exact Or.inl ⟨v, vm₁, B, X₁.warmed, X', hpost, fun target h => hstep₁ _ fun acts => by rw [doInvoke_state]; exact hsteps.trans h⟩
  · exact Or.inr ⟨q, vm₁, B, X₁.warmed, X', hpost, hstep₁ _ fun acts => by rw [doInvoke_state]; exact hsteps⟩
theorem vx_callVW (X : Stand p l e R s m args below meth c T locs cells slots) (hexec : p.tables.exec = Jvm.exec) {own C : String} {index : Nat} {y : MethodName} {bytes : ByteArray} {maxL : Nat} {ret : Option FieldType} {hh : List (Nat × Nat × Nat × Nat)}
    (hown : s.vm.findClass own = some m.cls) (hlink : (Cond.methodLink own index y).before args s = true) (hinst : (Cond.instanceMethod y).before args s = true) (hsel : (Cond.selects C y y).before args s = true)
    (hcode : (Cond.codeWith y bytes maxL ret hh).before args s = true) (hy : y.cls ≠ "java/lang/invoke/MethodHandle" ∧ y.cls ≠ "java/lang/invoke/VarHandle")
    {W9 : Nat} {Pre : Pt → Array Value → Prop} {Post : Pt → Array Value → Option Value → Pt → Prop} (hK : Back l R p e below s args y 3 W9 Pre Post)
    {b : Addr} {cellB : Cell} (hcell : T.heap[b]? = some cellB) (hobj : cellB.vm.isStatics = false) (hcls : s.vm.findClass C = some cellB.cls)
    {g : JFrame} (hg : g.method = m) (hsize : g.locals.size = c.maxLocals) {argsL rest : List Value} (hlen : ∀ sig, parseMethodDescriptor y.desc = some sig → argsL.length = sig.parameters.length)
    (hstack : g.stack = argsL.reverse ++ .ref b :: rest) (hW : 2 * g.monitorRoom + (rest.map fun v => v.category).sum ≤ W9) (hdg : decode c.code g.pc = .ok (.invokevirtual index, 3))
    (hpre : ∀ vm₁, s.WarmedH vm₁ → Pre ⟨T.setVm vm₁, locs, cells, slots⟩ (Value.ref b :: argsL).toArray) :
    ∃ (v : Option Value) (vm₁ : Vm) (B : Pt), s.WarmedH vm₁ ∧ Stand p l e R s m args below meth c B.U B.locs B.cells B.slots ∧ Post ⟨T.setVm vm₁, locs, cells, slots⟩ (Value.ref b :: argsL).toArray v B ∧
      ∀ target, Steps p.tables e below (B.U.setTop { g with pc := g.pc + 3, stack := v.toList ++ rest }) target → Steps p.tables e below (T.setTop g) target := by
  obtain ⟨mk, methM, hnamed, hmethM, hstM, habM⟩ := Cond.instanceMethod_spec hinst
  obtain ⟨m8, methM', cM, hn8, hmethM', -, -, -, -, -, -, hsigM⟩ := Cond.codeWith_spec hcode
  cases Option.some.inj (hn8.symm.trans hnamed)
  cases hmethM.symm.trans hmethM'
  obtain ⟨c2, r2, m2, q1, q2, q3, q4, kP, hkP, hkPi⟩ := Cond.selects_spec hsel
  cases hcls.symm.trans q1
  cases (State.methodFound?_of_named hnamed hy).symm.trans q2
  cases hnamed.symm.trans q3
  have hselP : selectMethod e.platform s.vm cellB.cls mk = .method mk := by rw [Launch.admits_selectMethod X.admits]; exact q4
  obtain ⟨vm₁, X₁, hstep₁⟩ := X.invokevirtual hexec hown hlink hnamed hmethM hstM hkP hkPi hy (a := b) (cell := cellB) hcell
    (fun z h => by rw [h] at hobj; cases hobj) hselP hmethM habM hkP hkPi (g := g) hg (argsL := argsL) (rest := rest) (hlen _ hsigM) hstack hdg
  obtain ⟨v, B, X', hpost, hsteps⟩ := hK m meth c ⟨T.setVm vm₁, locs, cells, slots⟩ { g with stack := rest } (.invokevirtual index) mk (Value.ref b :: argsL).toArray X₁ hg hsize hdg hW (X₁.named hnamed) (hpre vm₁ X₁.warmed)
  exact ⟨v, vm₁, B, X₁.warmed, X', hpost, fun target h => hstep₁ _ fun acts => by rw [doInvoke_state]; exact hsteps.trans h⟩
abbrev vx_CVW (R : Room) (s : State) (args : Array Value) (own C : String) (index : Nat) (y : MethodName) (bytes : ByteArray) (maxL : Nat) (ret : Option FieldType) (hh : List (Nat × Nat × Nat × Nat)) (ws : List Cond) (rm : Room) (mc ms n : Nat) : Prop :=
  (rm.cells = mc ∧ rm.slots = ms ∧ rm.frames + 1 ≤ R.frames ∧ 8 + (maxL + 11) + rm.locals ≤ R.locals ∧ (∀ w ∈ ws, ∀ (a' : Array Value) (U : State), s.WarmedH U.vm → w.before a' U = true) ∧ Cond.codeWith y bytes maxL ret hh ∈ ws) ∧
  (Cond.codeWith y bytes maxL ret hh).before args s = true ∧ (Cond.initialized y.cls).before args s = true ∧ (y.cls ≠ "java/lang/invoke/MethodHandle" ∧ y.cls ≠ "java/lang/invoke/VarHandle") ∧
  (∀ sig, parseMethodDescriptor y.desc = some sig → n = sig.parameters.length) ∧ (Cond.methodLink own index y).before args s = true ∧ (Cond.instanceMethod y).before args s = true ∧ (Cond.selects C y y).before args s = true
theorem vx_cwVW {own C : String} {index maxL mc ms : Nat} {y : MethodName} {bytes : ByteArray} {ret : Option FieldType} {hh : List (Nat × Nat × Nat × Nat)} {Ts ws ws' : List Cond} {rm : Room} (n : Nat) (ht : ∀ w ∈ Ts, w.before args s = true) (hT : GoodIn Ts (wsV own index C y ws)) (hw : ws = Cond.codeWith y bytes maxL ret hh :: ws') (hrc : rm.cells = mc) (hrs : rm.slots = ms)
    (hd : y.cls = C ∧ y.cls ≠ "java/lang/invoke/MethodHandle" ∧ y.cls ≠ "java/lang/invoke/VarHandle" ∧ (parseMethodDescriptor y.desc).map (fun d => d.parameters.length) = some n) (hR : rm.frames + 1 ≤ R.frames ∧ 8 + (maxL + 11) + rm.locals ≤ R.locals) :
    vx_CVW R s args own C index y bytes maxL ret hh ws rm mc ms n := by
  obtain ⟨hC, hd⟩ := hd
  subst hC
  have ok : ∀ w ∈ wsV own index y.cls y ws, w.before args s = true := fun w h => ht w (hT w h).1
  have hG : GoodIn Ts ws := fun w h => hT w (by unfold wsV; exact List.mem_append_right _ h)
  have hc : Cond.codeWith y bytes maxL ret hh ∈ ws := by rw [hw]; exact List.mem_cons_self
  refine ⟨⟨hrc, hrs, hR.1, hR.2, pay_in ht hG, hc⟩, ht _ (hG _ hc).1, ok _ (by simp [wsV]), ⟨hd.1, hd.2.1⟩, fun sig h => ?_, ok _ (by simp [wsV]), ok _ (by simp [wsV]), ok _ (by simp [wsV])⟩
  have h2 := hd.2.2
  rw [h] at h2
  exact (Option.some.inj h2).symm
theorem vx_runVW {y : MethodName} {bytes cc : ByteArray} {maxL nL mc ms n index : Nat} {ret : Option FieldType} {hh : List (Nat × Nat × Nat × Nat)} {ws : List Cond} {rm : Room} {Pc : Array Value → State → Prop} {Qc : Array Value → State → Outcome → State → Prop} {free : Addr → Prop} {Ts : List Cond} {own C : String} {b : Addr} {As rest : List Value} {g : JFrame}
    (S : CallFix p m c cc nL s args Ts own) (hM : Met l y ws rm Pc Qc mc ms free) (cw : vx_CVW R s args own C index y bytes maxL ret hh ws rm mc ms n) (hp : PreV s H C b Pc As)
    (hg : g.method = m) (hn : As.length = n) (hsize : g.locals.size = nL) (hstack : g.stack = As.reverse ++ .ref b :: rest) (hW : 2 * g.monitorRoom + (rest.map fun v => v.category).sum ≤ 8) (hdg : decode cc g.pc = .ok (.invokevirtual index, 3)) (hf : cells + mc ≤ R.cells ∧ slots + ms ≤ R.slots) :
    va_Run p l e R s m args below meth c H locs cells slots mc ms g rest (Qc (Value.ref b :: As).toArray) free := by
  obtain ⟨⟨hrc, hrs, hfr, hlo, hws, hcw⟩, hcode, hini, hy, hlen, hl, hin, hse⟩ := cw
  have hK : Back l R p e below s args y 3 8 (PreOf R mc ms Pc) (PostOf Qc mc ms free) := va_backW (hh := hh) (bytes := bytes) (maxL := maxL) (ret := ret) hM hp.1 hrc hrs hfr hlo hws hcw (fun a' U hW => word_at hW (Or.inl (by first | rfl | simp [Cond.onTables, Cond.keeps, Cond.steady])) hini)
  obtain ⟨hx, hb, hml, ho, -⟩ := S
  obtain ⟨-, ⟨cellB, hcB, hoB, hclB⟩, hPc⟩ := hp
  intro T hT X
  obtain ⟨v, vm₁, ⟨U', l2, c2, s2⟩, hW₁, X', ⟨g', mk, t, L, e1, e2, hq, h1, hL, h2, h3⟩, st⟩ := vx_callVW X hx (C := C) (hh := hh) (bytes := bytes) (maxL := maxL) (ret := ret) ho hl hin hse hcode hy hK (by rw [hT]; exact hcB) hoB hclB hg (hsize.trans hml.symm) (argsL := As) (rest := rest) (fun sig h => hn.trans (hlen sig h)) hstack hW (by rw [hb]; exact hdg)
    (fun vm₁ hW₁ => ⟨hf.1, hf.2, hPc (T.setVm vm₁) hT hW₁⟩)
  dsimp only [Pt.U, Pt.locs, Pt.cells, Pt.slots] at X' e1 e2 h1 h2 h3 st
  subst h1; subst h2; subst h3
  exact ⟨v, (T.setVm vm₁).calling g' mk (Value.ref b :: As).toArray, t, U', L, hT, X', hL, e1, e2, hq, st⟩
section
variable {y : MethodName} {bytes cc : ByteArray} {maxL nL mc ms n index : Nat} {ret : Option FieldType} {ws : List Cond} {rm : Room} {Pc : Array Value → State → Prop} {Qc : Array Value → State → Outcome → State → Prop} {XC : String → State → State → Prop} {free : Addr → Prop} {Ts : List Cond} {own C : String} {b : Addr} {As rest : List Value} {g : JFrame}
theorem vx_runVX {hh : List (Nat × Nat × Nat × Nat)} (S : CallFix p m c cc nL s args Ts own) (hM : vx_Met l y ws rm Pc Qc XC mc ms free) (cw : vx_CVW R s args own C index y bytes maxL ret hh ws rm mc ms n) (hp : PreV s H C b Pc As)
    (hg : g.method = m) (hn : As.length = n) (hsize : g.locals.size = nL) (hstack : g.stack = As.reverse ++ .ref b :: rest) (hW : 2 * g.monitorRoom + (rest.map fun v => v.category).sum ≤ 8) (hdg : decode cc g.pc = .ok (.invokevirtual index, 3)) (hf : cells + mc ≤ R.cells ∧ slots + ms ≤ R.slots) :
    vx_Run p l e R s m args below meth c H locs cells slots mc ms g rest (Qc (Value.ref b :: As).toArray) XC free := by
  obtain ⟨⟨hrc, hrs, hfr, hlo, hws, hcw⟩, hcode, hini, hy, hlen, hl, hin, hse⟩ := cw
  have hK : vx_Back l R p e below s args y 3 8 (PreOf R mc ms Pc) (PostOf Qc mc ms free) (vx_Post XC mc ms free) := vx_backW (hh := hh) (bytes := bytes) (maxL := maxL) (ret := ret) hM hp.1 hrc hrs hfr hlo hws hcw (fun a' U hW => word_at hW (Or.inl (by first | rfl | simp [Cond.onTables, Cond.keeps, Cond.steady])) hini)
  obtain ⟨hx, hb, hml, ho, -⟩ := S
  obtain ⟨-, ⟨cellB, hcB, hoB, hclB⟩, hPc⟩ := hp
  intro T hT X
  rcases vx_callVX X hx (C := C) (hh := hh) (bytes := bytes) (maxL := maxL) (ret := ret) ho hl hin hse hcode hy hK (by rw [hT]; exact hcB) hoB hclB hg (hsize.trans hml.symm) (argsL := As) (rest := rest) (fun sig h => hn.trans (hlen sig h)) hstack hW (by rw [hb]; exact hdg)
    (fun vm₁ hW₁ => ⟨hf.1, hf.2, hPc (T.setVm vm₁) hT hW₁⟩) with ⟨v, vm₁, ⟨U', l2, c2, s2⟩, hW₁, X', ⟨g', mk, t, L, e1, e2, hq, h1, hL, h2, h3⟩, st⟩ | ⟨q, vm₁, ⟨U', l2, c2, s2⟩, hW₁, X', ⟨g', mk, t, L, E, ce, e1, e2, hq, hce, hcv, hcl, h1, hL, h2, h3⟩, st⟩
  · dsimp only [Pt.U, Pt.locs, Pt.cells, Pt.slots] at X' e1 e2 h1 h2 h3 st
    subst h1; subst h2; subst h3
    exact Or.inl ⟨v, (T.setVm vm₁).calling g' mk (Value.ref b :: As).toArray, t, U', L, hT, X', hL, e1, e2, hq, st⟩
  · dsimp only [Pt.U, Pt.locs, Pt.cells, Pt.slots] at X' e1 e2 h1 h2 h3 st hcl
    subst h1; subst h2; subst h3
    exact Or.inr ⟨q, (T.setVm vm₁).calling g' mk (Value.ref b :: As).toArray, t, U', L, E, ce, hT, X', hL, e1, e2, hq, hce, hcv, vx_cls hW₁ hcl, st⟩
theorem vx_runSX {hh : List (Nat × Nat × Nat × Nat)} (S : CallFix p m c cc nL s args Ts own) (hM : vx_Met l y ws rm Pc Qc XC mc ms free) (cw : vx_CSW R s args own index y bytes maxL ret hh ws rm mc ms n) (hp : PreS s H Pc As)
    (hg : g.method = m) (hn : As.length = n) (hsize : g.locals.size = nL) (hstack : g.stack = As.reverse ++ rest) (hW : 2 * g.monitorRoom + (rest.map fun v => v.category).sum ≤ 8) (hdg : decode cc g.pc = .ok (.invokestatic index, 3)) (hf : cells + mc ≤ R.cells ∧ slots + ms ≤ R.slots) :
    vx_Run p l e R s m args below meth c H locs cells slots mc ms g rest (Qc As.toArray) XC free := by
  obtain ⟨⟨hrc, hrs, hfr, hlo, hws, hcw⟩, hcode, hini, hy, hlen, hl, hstt⟩ := cw
  have hK : vx_Back l R p e below s args y 3 8 (PreOf R mc ms Pc) (PostOf Qc mc ms free) (vx_Post XC mc ms free) := vx_backW (hh := hh) (bytes := bytes) (maxL := maxL) (ret := ret) hM hp.1 hrc hrs hfr hlo hws hcw (fun a' U hW => word_at hW (Or.inl (by first | rfl | simp [Cond.onTables, Cond.keeps, Cond.steady])) hini)
  obtain ⟨hx, hb, hml, ho, -⟩ := S
  intro T hT X
  rcases vx_callSX X hx (hh := hh) (bytes := bytes) (maxL := maxL) (ret := ret) ho hl hstt hini hcode hy hK hg (hsize.trans hml.symm) (argsL := As) (rest := rest) (fun sig h => hn.trans (hlen sig h)) hstack hW (by rw [hb]; exact hdg)
    (fun vm₁ hW₁ => ⟨hf.1, hf.2, hp.2 (T.setVm vm₁) hT hW₁⟩) with ⟨v, vm₁, ⟨U', l2, c2, s2⟩, hW₁, X', ⟨g', mk, t, L, e1, e2, hq, h1, hL, h2, h3⟩, st⟩ | ⟨q, vm₁, ⟨U', l2, c2, s2⟩, hW₁, X', ⟨g', mk, t, L, E, ce, e1, e2, hq, hce, hcv, hcl, h1, hL, h2, h3⟩, st⟩
  · dsimp only [Pt.U, Pt.locs, Pt.cells, Pt.slots] at X' e1 e2 h1 h2 h3 st
    subst h1; subst h2; subst h3
    exact Or.inl ⟨v, (T.setVm vm₁).calling g' mk As.toArray, t, U', L, hT, X', hL, e1, e2, hq, st⟩
  · dsimp only [Pt.U, Pt.locs, Pt.cells, Pt.slots] at X' e1 e2 h1 h2 h3 st hcl
    subst h1; subst h2; subst h3
    exact Or.inr ⟨q, (T.setVm vm₁).calling g' mk As.toArray, t, U', L, E, ce, hT, X', hL, e1, e2, hq, hce, hcv, vx_cls hW₁ hcl, st⟩
end
end VXH
theorem vx_ofWH {l : Launch} {y : MethodName} {ws ws' : List Cond} {rm : Room} {Pc : Array Value → State → Prop} {Qc : Array Value → State → Outcome → State → Prop} {XC : String → State → State → Prop} {mc ms : Nat} {free : Addr → Prop} {cc : ByteArray} {maxL : Nat} {ret : Option FieldType} {hh : List (Nat × Nat × Nat × Nat)}
    (hy : plainName y.cls = true) (hw : ws = Cond.codeWith y cc maxL ret hh :: ws')
    (body : ∀ p e s m args below meth c s₁, BodyLoose p l y (headSpec ws rm) cc maxL ret e s m args below meth c s₁ → c.maxLocals = maxL → Pc args s →
      W p l e (headSpec ws rm).room s m args below meth c s.heap [] 0 0 (vx_MQ below Qc XC args s mc ms free) (entryFrame m args maxL)) : vx_Met l y ws rm Pc Qc XC mc ms free := by
  refine MetFree.of_bodyS (code := cc) (maxLocals := maxL) (ret := ret) hy ?_ ?_
  · intro args s m h hn
    obtain ⟨m9, meth, c, hn9, h1, h2, h3, h4, -, h5, h6, -⟩ := Cond.codeWith_spec (atoms_spec (ws := ws) h _ (by rw [hw]; exact List.mem_cons_self))
    cases hn.symm.trans hn9
    exact ⟨meth, c, h1, h2, h3, h4, h5, h6⟩
  · intro p e s m args below meth c s₁ B hml hP _
    have hh0 : s₁.heap = s.heap := by rw [B.state]; rfl
    obtain ⟨t, a1, o, b1, b2, b3⟩ := body p e s m args below meth c s₁ B hml hP s₁ hh0 (Stand.of_body B)
    exact ⟨t, o, a1, b1, b2, b3⟩
/-! ===== END ===== -/
end
section
/-! ===== BEGIN printed: names, fields, word lists, decode rows ===== -/
def RX0 : String := "SealedSpots$History"
def TX0 : u_T := fun k => match k with
  | 0 => ("SealedSpots$History", "rows", "[I", true)
  | 1 => ("SealedSpots$History", "saved", "I", false)
  | 2 => ("SealedSpots$History", "snapshot", "[I", true)
  | _ => ("SealedSpots$History", "snapshotTaken", "Z", false)
def tyX0 : Nat → FieldType := fun k => match k with
  | 0 => .array .int
  | 1 => .int
  | 2 => .array .int
  | _ => .boolean
abbrev wsX00 : List Cond := u_ws RX0 TX0 4
theorem nmX0 : ∀ a, a < 4 → ∀ b, b < 4 → a ≠ b → (TX0 a).2.1 ≠ (TX0 b).2.1 := by decide +kernel
theorem tyX0_ok : ∀ k, k < 4 → parseFieldDescriptor (TX0 k).2.2.1 = some (tyX0 k) := by decide +kernel
abbrev cX0_init : ByteArray := prog_2_method_1_code
def yX0_init : MethodName := ⟨RX0, "<init>", "()V"⟩
abbrev cX0_save : ByteArray := prog_2_method_2_code
def yX0_save : MethodName := ⟨RX0, "save", "(LSealedSpots$State;)V"⟩
abbrev cX0_dropOldest : ByteArray := prog_2_method_3_code
def yX0_dropOldest : MethodName := ⟨RX0, "dropOldest", "()V"⟩
abbrev cX0_savedStates : ByteArray := prog_2_method_4_code
def yX0_savedStates : MethodName := ⟨RX0, "savedStates", "()I"⟩
abbrev cX0_restoreLatest : ByteArray := prog_2_method_5_code
def yX0_restoreLatest : MethodName := ⟨RX0, "restoreLatest", "(LSealedSpots$State;)V"⟩
abbrev cX0_hasSnapshot : ByteArray := prog_2_method_6_code
def yX0_hasSnapshot : MethodName := ⟨RX0, "hasSnapshot", "()Z"⟩
abbrev cX0_takeSnapshot : ByteArray := prog_2_method_7_code
def yX0_takeSnapshot : MethodName := ⟨RX0, "takeSnapshot", "(LSealedSpots$State;)V"⟩
abbrev cX0_restoreSnapshot : ByteArray := prog_2_method_8_code
def yX0_restoreSnapshot : MethodName := ⟨RX0, "restoreSnapshot", "(LSealedSpots$State;)V"⟩
def RX1 : String := "SealedSpots$Sharing"
def TX1 : u_T := fun k => match k with
  | 0 => ("SealedSpots$Sharing", "keys", "[J", true)
  | _ => ("SealedSpots$Sharing", "most", "[J", true)
def tyX1 : Nat → FieldType := fun k => match k with
  | 0 => .array .long
  | _ => .array .long
abbrev wsX10 : List Cond := u_ws RX1 TX1 2
theorem nmX1 : ∀ a, a < 2 → ∀ b, b < 2 → a ≠ b → (TX1 a).2.1 ≠ (TX1 b).2.1 := by decide +kernel
theorem tyX1_ok : ∀ k, k < 2 → parseFieldDescriptor (TX1 k).2.2.1 = some (tyX1 k) := by decide +kernel
abbrev cX1_init : ByteArray := prog_3_method_1_code
def yX1_init : MethodName := ⟨RX1, "<init>", "()V"⟩
abbrev cX1_keyOf : ByteArray := prog_3_method_2_code
def yX1_keyOf : MethodName := ⟨RX1, "keyOf", "(LSealedSpots$State;III)J"⟩
abbrev cX1_digitShift : ByteArray := prog_3_method_3_code
def yX1_digitShift : MethodName := ⟨RX1, "digitShift", "(I)I"⟩
abbrev cX1_worthOf : ByteArray := prog_3_method_4_code
def yX1_worthOf : MethodName := ⟨RX1, "worthOf", "(J)I"⟩
abbrev cX1_setWithout : ByteArray := prog_3_method_5_code
def yX1_setWithout : MethodName := ⟨RX1, "setWithout", "(II)I"⟩
abbrev cX1_isIn : ByteArray := prog_3_method_6_code
def yX1_isIn : MethodName := ⟨RX1, "isIn", "(II)Z"⟩
abbrev cX1_readBids : ByteArray := prog_3_method_7_code
def yX1_readBids : MethodName := ⟨RX1, "readBids", "(LSealedSpots$State;)V"⟩
abbrev cX1_replaceBid : ByteArray := prog_3_method_8_code
def yX1_replaceBid : MethodName := ⟨RX1, "replaceBid", "(IIJ)V"⟩
abbrev cX1_keyIn : ByteArray := prog_3_method_9_code
def yX1_keyIn : MethodName := ⟨RX1, "keyIn", "([JII)J"⟩
abbrev cX1_find : ByteArray := prog_3_method_10_code
def yX1_find : MethodName := ⟨RX1, "find", "(I)V"⟩
abbrev cX1_lookAtSpot : ByteArray := prog_3_method_11_code
def yX1_lookAtSpot : MethodName := ⟨RX1, "lookAtSpot", "(I)V"⟩
abbrev cX1_keyWithout : ByteArray := prog_3_method_12_code
def yX1_keyWithout : MethodName := ⟨RX1, "keyWithout", "(I)J"⟩
abbrev cX1_mostOf : ByteArray := prog_3_method_13_code
def yX1_mostOf : MethodName := ⟨RX1, "mostOf", "(I)J"⟩
abbrev cX1_worthWithout : ByteArray := prog_3_method_14_code
def yX1_worthWithout : MethodName := ⟨RX1, "worthWithout", "(I)I"⟩
abbrev cX1_ownerOf : ByteArray := prog_3_method_15_code
def yX1_ownerOf : MethodName := ⟨RX1, "ownerOf", "(I)I"⟩
abbrev cX1_spotOf : ByteArray := prog_3_method_16_code
def yX1_spotOf : MethodName := ⟨RX1, "spotOf", "(I)I"⟩
abbrev cX1_priceOf : ByteArray := prog_3_method_17_code
def yX1_priceOf : MethodName := ⟨RX1, "priceOf", "(ILSealedSpots$State;)I"⟩
abbrev cX1_worthByTrying : ByteArray := prog_3_method_18_code
def yX1_worthByTrying : MethodName := ⟨RX1, "worthByTrying", "(I)I"⟩
abbrev cX1_tryFrom : ByteArray := prog_3_method_19_code
def yX1_tryFrom : MethodName := ⟨RX1, "tryFrom", "([JII)I"⟩
def RX2 : String := "SealedSpots$State"
def TX2 : u_T := fun k => match k with
  | _ => ("SealedSpots$State", "row", "[I", true)
def tyX2 : Nat → FieldType := fun k => match k with
  | _ => .array .int
abbrev wsX20 : List Cond := u_ws RX2 TX2 1
theorem nmX2 : ∀ a, a < 1 → ∀ b, b < 1 → a ≠ b → (TX2 a).2.1 ≠ (TX2 b).2.1 := by decide +kernel
theorem tyX2_ok : ∀ k, k < 1 → parseFieldDescriptor (TX2 k).2.2.1 = some (tyX2 k) := by decide +kernel
abbrev cX2_init : ByteArray := prog_4_method_1_code
def yX2_init : MethodName := ⟨RX2, "<init>", "()V"⟩
abbrev cX2_mostOfSetting : ByteArray := prog_4_method_2_code
def yX2_mostOfSetting : MethodName := ⟨RX2, "mostOfSetting", "(I)I"⟩
abbrev cX2_get : ByteArray := prog_4_method_3_code
def yX2_get : MethodName := ⟨RX2, "get", "(II)I"⟩
abbrev cX2_get_ : ByteArray := prog_4_method_4_code
def yX2_get_ : MethodName := ⟨RX2, "get", "(I)I"⟩
abbrev cX2_put : ByteArray := prog_4_method_5_code
def yX2_put : MethodName := ⟨RX2, "put", "(III)V"⟩
abbrev cX2_add : ByteArray := prog_4_method_6_code
def yX2_add : MethodName := ⟨RX2, "add", "(III)V"⟩
abbrev cX2_fill : ByteArray := prog_4_method_7_code
def yX2_fill : MethodName := ⟨RX2, "fill", "(III)V"⟩
abbrev cX2_sum : ByteArray := prog_4_method_8_code
def yX2_sum : MethodName := ⟨RX2, "sum", "(II)I"⟩
abbrev cX2_placeOfBid : ByteArray := prog_4_method_9_code
def yX2_placeOfBid : MethodName := ⟨RX2, "placeOfBid", "(II)I"⟩
abbrev cX2_ofBid : ByteArray := prog_4_method_10_code
def yX2_ofBid : MethodName := ⟨RX2, "ofBid", "(III)I"⟩
abbrev cX2_hasBid : ByteArray := prog_4_method_11_code
def yX2_hasBid : MethodName := ⟨RX2, "hasBid", "(II)Z"⟩
abbrev cX2_bidsForSpot : ByteArray := prog_4_method_12_code
def yX2_bidsForSpot : MethodName := ⟨RX2, "bidsForSpot", "(I)I"⟩
abbrev cX2_bidsOfBidder : ByteArray := prog_4_method_13_code
def yX2_bidsOfBidder : MethodName := ⟨RX2, "bidsOfBidder", "(I)I"⟩
abbrev cX2_bidsInAll : ByteArray := prog_4_method_14_code
def yX2_bidsInAll : MethodName := ⟨RX2, "bidsInAll", "()I"⟩
abbrev cX2_whyNotSealed : ByteArray := prog_4_method_15_code
def yX2_whyNotSealed : MethodName := ⟨RX2, "whyNotSealed", "(III)I"⟩
abbrev cX2_sealBid : ByteArray := prog_4_method_16_code
def yX2_sealBid : MethodName := ⟨RX2, "sealBid", "(III)I"⟩
abbrev cX2_feeFor : ByteArray := prog_4_method_17_code
def yX2_feeFor : MethodName := ⟨RX2, "feeFor", "(II)I"⟩
abbrev cX2_whyNotWithdrawn : ByteArray := prog_4_method_18_code
def yX2_whyNotWithdrawn : MethodName := ⟨RX2, "whyNotWithdrawn", "(II)I"⟩
abbrev cX2_takeBack : ByteArray := prog_4_method_19_code
def yX2_takeBack : MethodName := ⟨RX2, "takeBack", "(II)I"⟩
abbrev cX2_putInChest : ByteArray := prog_4_method_20_code
def yX2_putInChest : MethodName := ⟨RX2, "putInChest", "(II)V"⟩
abbrev cX2_isOpened : ByteArray := prog_4_method_21_code
def yX2_isOpened : MethodName := ⟨RX2, "isOpened", "()Z"⟩
abbrev cX2_openBids : ByteArray := prog_4_method_22_code
def yX2_openBids : MethodName := ⟨RX2, "openBids", "()V"⟩
abbrev cX2_passHours : ByteArray := prog_4_method_23_code
def yX2_passHours : MethodName := ⟨RX2, "passHours", "(I)I"⟩
abbrev cX2_giveSpot : ByteArray := prog_4_method_24_code
def yX2_giveSpot : MethodName := ⟨RX2, "giveSpot", "(III)V"⟩
abbrev cX2_spotOfOwner : ByteArray := prog_4_method_25_code
def yX2_spotOfOwner : MethodName := ⟨RX2, "spotOfOwner", "(I)I"⟩
abbrev cX2_canFish : ByteArray := prog_4_method_26_code
def yX2_canFish : MethodName := ⟨RX2, "canFish", "(I)Z"⟩
abbrev cX2_catchFish : ByteArray := prog_4_method_27_code
def yX2_catchFish : MethodName := ⟨RX2, "catchFish", "(I)I"⟩
abbrev cX2_swim : ByteArray := prog_4_method_28_code
def yX2_swim : MethodName := ⟨RX2, "swim", "(II)V"⟩
abbrev cX2_beginDay : ByteArray := prog_4_method_29_code
def yX2_beginDay : MethodName := ⟨RX2, "beginDay", "()I"⟩
abbrev cX2_copyTo : ByteArray := prog_4_method_30_code
def yX2_copyTo : MethodName := ⟨RX2, "copyTo", "([II)V"⟩
abbrev cX2_copyFrom : ByteArray := prog_4_method_31_code
def yX2_copyFrom : MethodName := ⟨RX2, "copyFrom", "([II)V"⟩
def RX3 : String := "SealedSpots$Text"
def TX3 : u_T := fun k => match k with
  | 0 => ("SealedSpots$Text", "codes", "[I", true)
  | _ => ("SealedSpots$Text", "length", "I", false)
def tyX3 : Nat → FieldType := fun k => match k with
  | 0 => .array .int
  | _ => .int
abbrev wsX30 : List Cond := u_ws RX3 TX3 2
theorem nmX3 : ∀ a, a < 2 → ∀ b, b < 2 → a ≠ b → (TX3 a).2.1 ≠ (TX3 b).2.1 := by decide +kernel
theorem tyX3_ok : ∀ k, k < 2 → parseFieldDescriptor (TX3 k).2.2.1 = some (tyX3 k) := by decide +kernel
abbrev cX3_init : ByteArray := prog_5_method_1_code
def yX3_init : MethodName := ⟨RX3, "<init>", "()V"⟩
def RX4 : String := "SealedSpots"
def TX4 : u_T := fun k => match k with
  | 0 => ("SealedSpots", "state", "LSealedSpots$State;", true)
  | 1 => ("SealedSpots", "sharing", "LSealedSpots$Sharing;", true)
  | 2 => ("SealedSpots", "history", "LSealedSpots$History;", true)
  | _ => ("SealedSpots", "text", "LSealedSpots$Text;", true)
def tyX4 : Nat → FieldType := fun k => match k with
  | 0 => .object "SealedSpots$State"
  | 1 => .object "SealedSpots$Sharing"
  | 2 => .object "SealedSpots$History"
  | _ => .object "SealedSpots$Text"
abbrev wsX40 : List Cond := u_ws RX4 TX4 4
theorem nmX4 : ∀ a, a < 4 → ∀ b, b < 4 → a ≠ b → (TX4 a).2.1 ≠ (TX4 b).2.1 := by decide +kernel
theorem tyX4_ok : ∀ k, k < 4 → parseFieldDescriptor (TX4 k).2.2.1 = some (tyX4 k) := by decide +kernel
abbrev cX4_init : ByteArray := prog_1_method_1_code
def yX4_init : MethodName := ⟨RX4, "<init>", "()V"⟩
abbrev cX4_price : ByteArray := prog_1_method_2_code
def yX4_price : MethodName := ⟨RX4, "price", "(II)I"⟩
abbrev cX4_pay : ByteArray := prog_1_method_3_code
def yX4_pay : MethodName := ⟨RX4, "pay", "(II)I"⟩
abbrev cX4_set : ByteArray := prog_1_method_4_code
def yX4_set : MethodName := ⟨RX4, "set", "(II)I"⟩
abbrev cX4_bid : ByteArray := prog_1_method_5_code
def yX4_bid : MethodName := ⟨RX4, "bid", "(III)I"⟩
abbrev cX4_withdraw : ByteArray := prog_1_method_6_code
def yX4_withdraw : MethodName := ⟨RX4, "withdraw", "(II)I"⟩
abbrev cX4_pause : ByteArray := prog_1_method_7_code
def yX4_pause : MethodName := ⟨RX4, "pause", "(I)I"⟩
abbrev cX4_open : ByteArray := prog_1_method_8_code
def yX4_open : MethodName := ⟨RX4, "open", "()I"⟩
abbrev cX4_fish : ByteArray := prog_1_method_9_code
def yX4_fish : MethodName := ⟨RX4, "fish", "(I)I"⟩
abbrev cX4_nextDay : ByteArray := prog_1_method_10_code
def yX4_nextDay : MethodName := ⟨RX4, "nextDay", "()I"⟩
abbrev cX4_keep : ByteArray := prog_1_method_15_code
def yX4_keep : MethodName := ⟨RX4, "keep", "()I"⟩
abbrev cX4_goBack : ByteArray := prog_1_method_16_code
def yX4_goBack : MethodName := ⟨RX4, "goBack", "()I"⟩
abbrev cX4_undo : ByteArray := prog_1_method_17_code
def yX4_undo : MethodName := ⟨RX4, "undo", "()I"⟩
abbrev cX4_spot : ByteArray := prog_1_method_18_code
def yX4_spot : MethodName := ⟨RX4, "spot", "(II)I"⟩
abbrev cX4_bidder : ByteArray := prog_1_method_19_code
def yX4_bidder : MethodName := ⟨RX4, "bidder", "(II)I"⟩
abbrev cX4_sealed : ByteArray := prog_1_method_20_code
def yX4_sealed : MethodName := ⟨RX4, "sealed", "(III)I"⟩
abbrev cX4_count : ByteArray := prog_1_method_21_code
def yX4_count : MethodName := ⟨RX4, "count", "(I)I"⟩
abbrev cX4_setting : ByteArray := prog_1_method_22_code
def yX4_setting : MethodName := ⟨RX4, "setting", "(I)I"⟩
abbrev cX4_why : ByteArray := prog_1_method_23_code
def yX4_why : MethodName := ⟨RX4, "why", "(III)I"⟩
abbrev cX4_worth : ByteArray := prog_1_method_24_code
def yX4_worth : MethodName := ⟨RX4, "worth", "(II)I"⟩
abbrev cX4_ifOpened : ByteArray := prog_1_method_25_code
def yX4_ifOpened : MethodName := ⟨RX4, "ifOpened", "(II)I"⟩
abbrev cX4_ifBid : ByteArray := prog_1_method_26_code
def yX4_ifBid : MethodName := ⟨RX4, "ifBid", "(IIII)I"⟩
abbrev cX4_least : ByteArray := prog_1_method_27_code
def yX4_least : MethodName := ⟨RX4, "least", "(II)I"⟩
abbrev cX4_keenest : ByteArray := prog_1_method_28_code
def yX4_keenest : MethodName := ⟨RX4, "keenest", "()I"⟩
abbrev cX4_chestShare : ByteArray := prog_1_method_29_code
def yX4_chestShare : MethodName := ⟨RX4, "chestShare", "()D"⟩
abbrev cX4_meanPrice : ByteArray := prog_1_method_30_code
def yX4_meanPrice : MethodName := ⟨RX4, "meanPrice", "()F"⟩
abbrev cX4_needPlace : ByteArray := prog_1_method_32_code
def yX4_needPlace : MethodName := ⟨RX4, "needPlace", "(II)V"⟩
abbrev cX4_needRange : ByteArray := prog_1_method_33_code
def yX4_needRange : MethodName := ⟨RX4, "needRange", "(III)V"⟩
abbrev cX4_needState : ByteArray := prog_1_method_34_code
def yX4_needState : MethodName := ⟨RX4, "needState", "(Z)V"⟩
abbrev cX4_numberOfBid : ByteArray := prog_1_method_35_code
def yX4_numberOfBid : MethodName := ⟨RX4, "numberOfBid", "(III)I"⟩
abbrev cX4_findSharing : ByteArray := prog_1_method_36_code
def yX4_findSharing : MethodName := ⟨RX4, "findSharing", "()V"⟩
abbrev cX4_shareOut : ByteArray := prog_1_method_37_code
def yX4_shareOut : MethodName := ⟨RX4, "shareOut", "()I"⟩
abbrev cX4_leastWinning : ByteArray := prog_1_method_38_code
def yX4_leastWinning : MethodName := ⟨RX4, "leastWinning", "(II)I"⟩
def RX5 : String := "SealedSpotsModel"
def TX5 : u_T := fun k => match k with
  | _ => ("", "", "", false)
def tyX5 : Nat → FieldType := fun k => match k with
  | _ => .int
abbrev wsX50 : List Cond := u_ws RX5 TX5 0
theorem nmX5 : ∀ a, a < 0 → ∀ b, b < 0 → a ≠ b → (TX5 a).2.1 ≠ (TX5 b).2.1 := by decide +kernel
theorem tyX5_ok : ∀ k, k < 0 → parseFieldDescriptor (TX5 k).2.2.1 = some (tyX5 k) := by decide +kernel
def RJ9 : String := "java/lang/Math"
def TJ9 : u_T := fun k => match k with
  | _ => ("", "", "", false)
def tyJ9 : Nat → FieldType := fun k => match k with
  | _ => .int
abbrev wsJ90 : List Cond := u_ws RJ9 TJ9 0
theorem nmJ9 : ∀ a, a < 0 → ∀ b, b < 0 → a ≠ b → (TJ9 a).2.1 ≠ (TJ9 b).2.1 := by decide +kernel
theorem tyJ9_ok : ∀ k, k < 0 → parseFieldDescriptor (TJ9 k).2.2.1 = some (tyJ9 k) := by decide +kernel
abbrev cJ9_max_7cf53 : ByteArray := prog_12_method_65_code
def yJ9_max_7cf53 : MethodName := ⟨RJ9, "max", "(II)I"⟩
abbrev cJ9_max_f86c9 : ByteArray := prog_12_method_66_code
def yJ9_max_f86c9 : MethodName := ⟨RJ9, "max", "(JJ)J"⟩
abbrev cJ9_min_7cf53 : ByteArray := prog_12_method_69_code
def yJ9_min_7cf53 : MethodName := ⟨RJ9, "min", "(II)I"⟩
def RJ0 : String := "java/lang/String"
def TJ0 : u_T := fun k => match k with
  | _ => ("", "", "", false)
def tyJ0 : Nat → FieldType := fun k => match k with
  | _ => .int
abbrev wsJ00 : List Cond := u_ws RJ0 TJ0 0
theorem nmJ0 : ∀ a, a < 0 → ∀ b, b < 0 → a ≠ b → (TJ0 a).2.1 ≠ (TJ0 b).2.1 := by decide +kernel
theorem tyJ0_ok : ∀ k, k < 0 → parseFieldDescriptor (TJ0 k).2.2.1 = some (tyJ0 k) := by decide +kernel
def RL : String := "SealedSpotsLaw"
abbrev cL_cell : ByteArray := method_2_code
def yL_cell : MethodName := ⟨RL, "cell", "([II)I"⟩
abbrev cL_up : ByteArray := method_3_code
def yL_up : MethodName := ⟨RL, "up", "(II)I"⟩
abbrev cL_looks : ByteArray := method_4_code
def yL_looks : MethodName := ⟨RL, "looks", "(LSealedSpots;)J"⟩
abbrev cL_act : ByteArray := method_5_code
def yL_act : MethodName := ⟨RL, "act", "(LSealedSpots;II)I"⟩
abbrev cL_holds : ByteArray := method_6_code
def yL_holds : MethodName := ⟨RL, "holds", "(LSealedSpots;)Z"⟩
abbrev cL_isAhead : ByteArray := method_7_code
def yL_isAhead : MethodName := ⟨RL, "isAhead", "(LSealedSpots;III)Z"⟩
abbrev cL_law : ByteArray := code
def yL_law : MethodName := ⟨RL, "law", "([I)Z"⟩
def wsX0_init : List Cond := .code yX0_init cX0_init 1 none :: ([.methodLink RX0 1 objectInit, .instanceMethod objectInit, .code objectInit ⟨#[0xb1]⟩ 1 none, .arrayClass .int, .fieldLink RX0 11 "SealedSpots$History" "rows" "[I", .fieldLink RX0 15 "SealedSpots$History" "snapshot" "[I"] ++ wsX00)
def wsX0_dropOldest : List Cond := .code yX0_dropOldest cX0_dropOldest 2 none :: ([.fieldLink RX0 11 "SealedSpots$History" "rows" "[I", .fieldLink RX0 18 "SealedSpots$History" "saved" "I"] ++ wsX00)
def wsX2_get : List Cond := .code yX2_get cX2_get 4 (some .int) :: ([.fieldLink RX2 11 "SealedSpots$State" "row" "[I"] ++ wsX20)
def wsX2_get_ : List Cond := .code yX2_get_ cX2_get_ 2 (some .int) :: ([.methodLink RX2 22 yX2_get, .instanceMethod yX2_get, .selects RX2 yX2_get yX2_get, .initialized RX2, .code yX2_get cX2_get 4 (some .int), .fieldLink RX2 11 "SealedSpots$State" "row" "[I"] ++ wsX20)
def wsX2_copyTo : List Cond := .code yX2_copyTo cX2_copyTo 5 none :: ([.methodLink RX2 45 yX2_get_, .instanceMethod yX2_get_, .selects RX2 yX2_get_ yX2_get_, .initialized RX2, .code yX2_get_ cX2_get_ 2 (some .int), .methodLink RX2 22 yX2_get, .instanceMethod yX2_get, .selects RX2 yX2_get yX2_get, .code yX2_get cX2_get 4 (some .int), .fieldLink RX2 11 "SealedSpots$State" "row" "[I"] ++ wsX20)
def wsX0_save : List Cond := .code yX0_save cX0_save 2 none :: ([.fieldLink RX0 18 "SealedSpots$History" "saved" "I", .fieldLink RX0 11 "SealedSpots$History" "rows" "[I", .methodLink RX0 22 yX0_dropOldest, .instanceMethod yX0_dropOldest, .selects RX0 yX0_dropOldest yX0_dropOldest, .initialized RX0, .code yX0_dropOldest cX0_dropOldest 2 none, .methodLink RX0 25 yX2_copyTo, .instanceMethod yX2_copyTo, .selects RX2 yX2_copyTo yX2_copyTo, .initialized RX2, .code yX2_copyTo cX2_copyTo 5 none, .methodLink RX2 45 yX2_get_, .instanceMethod yX2_get_, .selects RX2 yX2_get_ yX2_get_, .code yX2_get_ cX2_get_ 2 (some .int), .methodLink RX2 22 yX2_get, .instanceMethod yX2_get, .selects RX2 yX2_get yX2_get, .code yX2_get cX2_get 4 (some .int), .fieldLink RX2 11 "SealedSpots$State" "row" "[I"] ++ wsX00 ++ wsX20)
def wsX0_savedStates : List Cond := .code yX0_savedStates cX0_savedStates 1 (some .int) :: ([.fieldLink RX0 18 "SealedSpots$History" "saved" "I"] ++ wsX00)
def wsX2_put : List Cond := .code yX2_put cX2_put 5 none :: ([.fieldLink RX2 11 "SealedSpots$State" "row" "[I"] ++ wsX20)
def wsX2_copyFrom : List Cond := .code yX2_copyFrom cX2_copyFrom 5 none :: ([.methodLink RX2 19 yX2_put, .instanceMethod yX2_put, .selects RX2 yX2_put yX2_put, .initialized RX2, .code yX2_put cX2_put 5 none, .fieldLink RX2 11 "SealedSpots$State" "row" "[I"] ++ wsX20)
def wsX0_restoreLatest : List Cond := .code yX0_restoreLatest cX0_restoreLatest 2 none :: ([.fieldLink RX0 18 "SealedSpots$History" "saved" "I", .fieldLink RX0 11 "SealedSpots$History" "rows" "[I", .methodLink RX0 29 yX2_copyFrom, .instanceMethod yX2_copyFrom, .selects RX2 yX2_copyFrom yX2_copyFrom, .initialized RX2, .code yX2_copyFrom cX2_copyFrom 5 none, .methodLink RX2 19 yX2_put, .instanceMethod yX2_put, .selects RX2 yX2_put yX2_put, .code yX2_put cX2_put 5 none, .fieldLink RX2 11 "SealedSpots$State" "row" "[I"] ++ wsX00 ++ wsX20)
def wsX0_hasSnapshot : List Cond := .code yX0_hasSnapshot cX0_hasSnapshot 1 (some .boolean) :: ([.fieldLink RX0 32 "SealedSpots$History" "snapshotTaken" "Z"] ++ wsX00)
def wsX0_takeSnapshot : List Cond := .code yX0_takeSnapshot cX0_takeSnapshot 2 none :: ([.fieldLink RX0 15 "SealedSpots$History" "snapshot" "[I", .fieldLink RX0 32 "SealedSpots$History" "snapshotTaken" "Z", .methodLink RX0 25 yX2_copyTo, .instanceMethod yX2_copyTo, .selects RX2 yX2_copyTo yX2_copyTo, .initialized RX2, .code yX2_copyTo cX2_copyTo 5 none, .methodLink RX2 45 yX2_get_, .instanceMethod yX2_get_, .selects RX2 yX2_get_ yX2_get_, .code yX2_get_ cX2_get_ 2 (some .int), .methodLink RX2 22 yX2_get, .instanceMethod yX2_get, .selects RX2 yX2_get yX2_get, .code yX2_get cX2_get 4 (some .int), .fieldLink RX2 11 "SealedSpots$State" "row" "[I"] ++ wsX00 ++ wsX20)
def wsX0_restoreSnapshot : List Cond := .code yX0_restoreSnapshot cX0_restoreSnapshot 2 none :: ([.fieldLink RX0 15 "SealedSpots$History" "snapshot" "[I", .methodLink RX0 29 yX2_copyFrom, .instanceMethod yX2_copyFrom, .selects RX2 yX2_copyFrom yX2_copyFrom, .initialized RX2, .code yX2_copyFrom cX2_copyFrom 5 none, .methodLink RX2 19 yX2_put, .instanceMethod yX2_put, .selects RX2 yX2_put yX2_put, .code yX2_put cX2_put 5 none, .fieldLink RX2 11 "SealedSpots$State" "row" "[I"] ++ wsX00 ++ wsX20)
def wsX1_init : List Cond := .code yX1_init cX1_init 1 none :: ([.methodLink RX1 5 objectInit, .instanceMethod objectInit, .code objectInit ⟨#[0xb1]⟩ 1 none, .arrayClass .long, .fieldLink RX1 11 "SealedSpots$Sharing" "keys" "[J", .fieldLink RX1 15 "SealedSpots$Sharing" "most" "[J"] ++ wsX10)
def wsX1_digitShift : List Cond := .code yX1_digitShift cX1_digitShift 1 (some .int) :: ([])
def wsX1_keyOf : List Cond := .code yX1_keyOf cX1_keyOf 7 (some .long) :: ([.constantLong RX1 28 (262144), .methodLink RX1 20 yX2_get, .instanceMethod yX2_get, .selects RX2 yX2_get yX2_get, .initialized RX2, .code yX2_get cX2_get 4 (some .int), .fieldLink RX2 11 "SealedSpots$State" "row" "[I", .methodLink RX1 24 yX1_digitShift, .static yX1_digitShift, .initialized RX1, .code yX1_digitShift cX1_digitShift 1 (some .int)] ++ wsX20)
def wsX1_worthOf : List Cond := .code yX1_worthOf cX1_worthOf 2 (some .int) :: ([])
def wsX1_setWithout : List Cond := .code yX1_setWithout cX1_setWithout 2 (some .int) :: ([])
def wsX1_isIn : List Cond := .code yX1_isIn cX1_isIn 2 (some .boolean) :: ([])
def wsX2_placeOfBid : List Cond := .code yX2_placeOfBid cX2_placeOfBid 2 (some .int) :: ([])
def wsX2_ofBid : List Cond := .code yX2_ofBid cX2_ofBid 4 (some .int) :: ([.methodLink RX2 26 yX2_placeOfBid, .static yX2_placeOfBid, .initialized RX2, .code yX2_placeOfBid cX2_placeOfBid 2 (some .int), .methodLink RX2 22 yX2_get, .instanceMethod yX2_get, .selects RX2 yX2_get yX2_get, .code yX2_get cX2_get 4 (some .int), .fieldLink RX2 11 "SealedSpots$State" "row" "[I"] ++ wsX20)
def wsX1_replaceBid : List Cond := .code yX1_replaceBid cX1_replaceBid 6 none :: ([.fieldLink RX1 11 "SealedSpots$Sharing" "keys" "[J"] ++ wsX10)
def wsX1_readBids_r1 : List Cond := [Cond.methodLink RX1 30 yX2_ofBid, Cond.instanceMethod yX2_ofBid, Cond.selects RX2 yX2_ofBid yX2_ofBid, Cond.initialized RX2, Cond.code yX2_ofBid cX2_ofBid 4 (some .int), Cond.methodLink RX2 26 yX2_placeOfBid, Cond.static yX2_placeOfBid, Cond.code yX2_placeOfBid cX2_placeOfBid 2 (some .int), Cond.methodLink RX2 22 yX2_get, Cond.instanceMethod yX2_get, Cond.selects RX2 yX2_get yX2_get, Cond.code yX2_get cX2_get 4 (some .int), Cond.fieldLink RX2 11 "SealedSpots$State" "row" "[I", Cond.methodLink RX1 34 yX1_keyOf, Cond.static yX1_keyOf, Cond.initialized RX1, Cond.code yX1_keyOf cX1_keyOf 7 (some .long), Cond.constantLong RX1 28 (262144), Cond.methodLink RX1 20 yX2_get, Cond.methodLink RX1 24 yX1_digitShift, Cond.static yX1_digitShift, Cond.code yX1_digitShift cX1_digitShift 1 (some .int), Cond.methodLink RX1 38 yX1_replaceBid, Cond.instanceMethod yX1_replaceBid]
def wsX1_readBids_r2 : List Cond := [Cond.selects RX1 yX1_replaceBid yX1_replaceBid, Cond.code yX1_replaceBid cX1_replaceBid 6 none, Cond.fieldLink RX1 11 "SealedSpots$Sharing" "keys" "[J"]
def wsX1_readBids : List Cond := .code yX1_readBids cX1_readBids 5 none :: ((wsX1_readBids_r1 ++ wsX1_readBids_r2) ++ wsX20 ++ wsX10)
def wsX1_keyIn : List Cond := .code yX1_keyIn cX1_keyIn 4 (some .long) :: ([])
def wsX1_mostOf : List Cond := .code yX1_mostOf cX1_mostOf 2 (some .long) :: ([.fieldLink RX1 15 "SealedSpots$Sharing" "most" "[J"] ++ wsX10)
def wsX1_lookAtSpot : List Cond := .code yX1_lookAtSpot cX1_lookAtSpot 8 none :: ([.fieldLink RX1 15 "SealedSpots$Sharing" "most" "[J", .fieldLink RX1 11 "SealedSpots$Sharing" "keys" "[J", .methodLink RX1 61 Lib.MathLoose.max_long.x, .static Lib.MathLoose.max_long.x, .initialized "java/lang/Math", .code Lib.MathLoose.max_long.x Lib.MathLoose.max_long.code 4 (some .long), .methodLink RX1 46 yX1_isIn, .static yX1_isIn, .initialized RX1, .code yX1_isIn cX1_isIn 2 (some .boolean), .methodLink RX1 50 yX1_keyIn, .static yX1_keyIn, .code yX1_keyIn cX1_keyIn 4 (some .long), .methodLink RX1 54 yX1_setWithout, .static yX1_setWithout, .code yX1_setWithout cX1_setWithout 2 (some .int), .methodLink RX1 57 yX1_mostOf, .instanceMethod yX1_mostOf, .selects RX1 yX1_mostOf yX1_mostOf, .code yX1_mostOf cX1_mostOf 2 (some .long)] ++ wsX10)
def wsX1_find : List Cond := .code yX1_find cX1_find 3 none :: ([.fieldLink RX1 15 "SealedSpots$Sharing" "most" "[J", .methodLink RX1 42 yX1_lookAtSpot, .instanceMethod yX1_lookAtSpot, .selects RX1 yX1_lookAtSpot yX1_lookAtSpot, .initialized RX1, .code yX1_lookAtSpot cX1_lookAtSpot 8 none, .fieldLink RX1 11 "SealedSpots$Sharing" "keys" "[J", .methodLink RX1 61 Lib.MathLoose.max_long.x, .static Lib.MathLoose.max_long.x, .initialized "java/lang/Math", .code Lib.MathLoose.max_long.x Lib.MathLoose.max_long.code 4 (some .long), .methodLink RX1 46 yX1_isIn, .static yX1_isIn, .code yX1_isIn cX1_isIn 2 (some .boolean), .methodLink RX1 50 yX1_keyIn, .static yX1_keyIn, .code yX1_keyIn cX1_keyIn 4 (some .long), .methodLink RX1 54 yX1_setWithout, .static yX1_setWithout, .code yX1_setWithout cX1_setWithout 2 (some .int), .methodLink RX1 57 yX1_mostOf, .instanceMethod yX1_mostOf, .selects RX1 yX1_mostOf yX1_mostOf, .code yX1_mostOf cX1_mostOf 2 (some .long)] ++ wsX10)
def wsX1_keyWithout : List Cond := .code yX1_keyWithout cX1_keyWithout 2 (some .long) :: ([.methodLink RX1 54 yX1_setWithout, .static yX1_setWithout, .initialized RX1, .code yX1_setWithout cX1_setWithout 2 (some .int), .methodLink RX1 57 yX1_mostOf, .instanceMethod yX1_mostOf, .selects RX1 yX1_mostOf yX1_mostOf, .code yX1_mostOf cX1_mostOf 2 (some .long), .fieldLink RX1 15 "SealedSpots$Sharing" "most" "[J"] ++ wsX10)
def wsX1_worthWithout : List Cond := .code yX1_worthWithout cX1_worthWithout 2 (some .int) :: ([.methodLink RX1 67 yX1_keyWithout, .instanceMethod yX1_keyWithout, .selects RX1 yX1_keyWithout yX1_keyWithout, .initialized RX1, .code yX1_keyWithout cX1_keyWithout 2 (some .long), .methodLink RX1 54 yX1_setWithout, .static yX1_setWithout, .code yX1_setWithout cX1_setWithout 2 (some .int), .methodLink RX1 57 yX1_mostOf, .instanceMethod yX1_mostOf, .selects RX1 yX1_mostOf yX1_mostOf, .code yX1_mostOf cX1_mostOf 2 (some .long), .fieldLink RX1 15 "SealedSpots$Sharing" "most" "[J", .methodLink RX1 70 yX1_worthOf, .static yX1_worthOf, .code yX1_worthOf cX1_worthOf 2 (some .int)] ++ wsX10)
def wsX1_ownerOf : List Cond := .code yX1_ownerOf cX1_ownerOf 3 (some .int) :: ([.methodLink RX1 67 yX1_keyWithout, .instanceMethod yX1_keyWithout, .selects RX1 yX1_keyWithout yX1_keyWithout, .initialized RX1, .code yX1_keyWithout cX1_keyWithout 2 (some .long), .methodLink RX1 54 yX1_setWithout, .static yX1_setWithout, .code yX1_setWithout cX1_setWithout 2 (some .int), .methodLink RX1 57 yX1_mostOf, .instanceMethod yX1_mostOf, .selects RX1 yX1_mostOf yX1_mostOf, .code yX1_mostOf cX1_mostOf 2 (some .long), .fieldLink RX1 15 "SealedSpots$Sharing" "most" "[J", .methodLink RX1 24 yX1_digitShift, .static yX1_digitShift, .code yX1_digitShift cX1_digitShift 1 (some .int)] ++ wsX10)
def wsX1_spotOf : List Cond := .code yX1_spotOf cX1_spotOf 3 (some .int) :: ([.methodLink RX1 74 yX1_ownerOf, .instanceMethod yX1_ownerOf, .selects RX1 yX1_ownerOf yX1_ownerOf, .initialized RX1, .code yX1_ownerOf cX1_ownerOf 3 (some .int), .methodLink RX1 67 yX1_keyWithout, .instanceMethod yX1_keyWithout, .selects RX1 yX1_keyWithout yX1_keyWithout, .code yX1_keyWithout cX1_keyWithout 2 (some .long), .methodLink RX1 54 yX1_setWithout, .static yX1_setWithout, .code yX1_setWithout cX1_setWithout 2 (some .int), .methodLink RX1 57 yX1_mostOf, .instanceMethod yX1_mostOf, .selects RX1 yX1_mostOf yX1_mostOf, .code yX1_mostOf cX1_mostOf 2 (some .long), .fieldLink RX1 15 "SealedSpots$Sharing" "most" "[J", .methodLink RX1 24 yX1_digitShift, .static yX1_digitShift, .code yX1_digitShift cX1_digitShift 1 (some .int)] ++ wsX10)
def wsX1_priceOf_r1 : List Cond := [Cond.fieldLink RX1 11 "SealedSpots$Sharing" "keys" "[J", Cond.methodLink RX1 74 yX1_ownerOf, Cond.instanceMethod yX1_ownerOf, Cond.selects RX1 yX1_ownerOf yX1_ownerOf, Cond.initialized RX1, Cond.code yX1_ownerOf cX1_ownerOf 3 (some .int), Cond.methodLink RX1 67 yX1_keyWithout, Cond.instanceMethod yX1_keyWithout, Cond.selects RX1 yX1_keyWithout yX1_keyWithout, Cond.code yX1_keyWithout cX1_keyWithout 2 (some .long), Cond.methodLink RX1 54 yX1_setWithout, Cond.static yX1_setWithout, Cond.code yX1_setWithout cX1_setWithout 2 (some .int), Cond.methodLink RX1 57 yX1_mostOf, Cond.instanceMethod yX1_mostOf, Cond.selects RX1 yX1_mostOf yX1_mostOf, Cond.code yX1_mostOf cX1_mostOf 2 (some .long), Cond.fieldLink RX1 15 "SealedSpots$Sharing" "most" "[J", Cond.methodLink RX1 24 yX1_digitShift, Cond.static yX1_digitShift, Cond.code yX1_digitShift cX1_digitShift 1 (some .int), Cond.methodLink RX1 77 yX1_worthWithout, Cond.instanceMethod yX1_worthWithout, Cond.selects RX1 yX1_worthWithout yX1_worthWithout]
def wsX1_priceOf_r2 : List Cond := [Cond.code yX1_worthWithout cX1_worthWithout 2 (some .int), Cond.methodLink RX1 70 yX1_worthOf, Cond.static yX1_worthOf, Cond.code yX1_worthOf cX1_worthOf 2 (some .int), Cond.methodLink RX1 50 yX1_keyIn, Cond.static yX1_keyIn, Cond.code yX1_keyIn cX1_keyIn 4 (some .long), Cond.methodLink RX1 20 yX2_get, Cond.instanceMethod yX2_get, Cond.selects RX2 yX2_get yX2_get, Cond.initialized RX2, Cond.code yX2_get cX2_get 4 (some .int), Cond.fieldLink RX2 11 "SealedSpots$State" "row" "[I"]
def wsX1_priceOf : List Cond := .code yX1_priceOf cX1_priceOf 5 (some .int) :: ((wsX1_priceOf_r1 ++ wsX1_priceOf_r2) ++ wsX10 ++ wsX20)
def wsX1_tryFrom : List Cond := .code yX1_tryFrom cX1_tryFrom 8 (some .int) :: ([.methodLink RX1 84 Lib.Math.max.name, .static Lib.Math.max.name, .initialized "java/lang/Math", .code Lib.Math.max.name Lib.Math.max.code 2 (some .int), .methodLink RX1 80 yX1_tryFrom, .static yX1_tryFrom, .initialized RX1, .methodLink RX1 46 yX1_isIn, .static yX1_isIn, .code yX1_isIn cX1_isIn 2 (some .boolean), .methodLink RX1 50 yX1_keyIn, .static yX1_keyIn, .code yX1_keyIn cX1_keyIn 4 (some .long), .methodLink RX1 54 yX1_setWithout, .static yX1_setWithout, .code yX1_setWithout cX1_setWithout 2 (some .int), .methodLink RX1 70 yX1_worthOf, .static yX1_worthOf, .code yX1_worthOf cX1_worthOf 2 (some .int)])
def wsX1_worthByTrying : List Cond := .code yX1_worthByTrying cX1_worthByTrying 2 (some .int) :: ([.fieldLink RX1 11 "SealedSpots$Sharing" "keys" "[J", .methodLink RX1 54 yX1_setWithout, .static yX1_setWithout, .initialized RX1, .code yX1_setWithout cX1_setWithout 2 (some .int), .methodLink RX1 80 yX1_tryFrom, .static yX1_tryFrom, .code yX1_tryFrom cX1_tryFrom 8 (some .int), .methodLink RX1 84 Lib.Math.max.name, .static Lib.Math.max.name, .initialized "java/lang/Math", .code Lib.Math.max.name Lib.Math.max.code 2 (some .int), .methodLink RX1 46 yX1_isIn, .static yX1_isIn, .code yX1_isIn cX1_isIn 2 (some .boolean), .methodLink RX1 50 yX1_keyIn, .static yX1_keyIn, .code yX1_keyIn cX1_keyIn 4 (some .long), .methodLink RX1 70 yX1_worthOf, .static yX1_worthOf, .code yX1_worthOf cX1_worthOf 2 (some .int)] ++ wsX10)
def wsX2_fill : List Cond := .code yX2_fill cX2_fill 5 none :: ([.methodLink RX2 19 yX2_put, .instanceMethod yX2_put, .selects RX2 yX2_put yX2_put, .initialized RX2, .code yX2_put cX2_put 5 none, .fieldLink RX2 11 "SealedSpots$State" "row" "[I"] ++ wsX20)
def wsX2_init : List Cond := .code yX2_init cX2_init 1 none :: ([.methodLink RX2 5 objectInit, .instanceMethod objectInit, .code objectInit ⟨#[0xb1]⟩ 1 none, .arrayClass .int, .fieldLink RX2 11 "SealedSpots$State" "row" "[I", .methodLink RX2 15 yX2_fill, .instanceMethod yX2_fill, .selects RX2 yX2_fill yX2_fill, .initialized RX2, .code yX2_fill cX2_fill 5 none, .methodLink RX2 19 yX2_put, .instanceMethod yX2_put, .selects RX2 yX2_put yX2_put, .code yX2_put cX2_put 5 none] ++ wsX20)
def wsX2_mostOfSetting : List Cond := .code yX2_mostOfSetting cX2_mostOfSetting 1 (some .int) :: ([])
def wsX2_add : List Cond := .code yX2_add cX2_add 4 none :: ([.methodLink RX2 22 yX2_get, .instanceMethod yX2_get, .selects RX2 yX2_get yX2_get, .initialized RX2, .code yX2_get cX2_get 4 (some .int), .fieldLink RX2 11 "SealedSpots$State" "row" "[I", .methodLink RX2 19 yX2_put, .instanceMethod yX2_put, .selects RX2 yX2_put yX2_put, .code yX2_put cX2_put 5 none] ++ wsX20)
def wsX2_sum : List Cond := .code yX2_sum cX2_sum 5 (some .int) :: ([.methodLink RX2 22 yX2_get, .instanceMethod yX2_get, .selects RX2 yX2_get yX2_get, .initialized RX2, .code yX2_get cX2_get 4 (some .int), .fieldLink RX2 11 "SealedSpots$State" "row" "[I"] ++ wsX20)
def wsX2_hasBid : List Cond := .code yX2_hasBid cX2_hasBid 3 (some .boolean) :: ([.methodLink RX2 29 yX2_ofBid, .instanceMethod yX2_ofBid, .selects RX2 yX2_ofBid yX2_ofBid, .initialized RX2, .code yX2_ofBid cX2_ofBid 4 (some .int), .methodLink RX2 26 yX2_placeOfBid, .static yX2_placeOfBid, .code yX2_placeOfBid cX2_placeOfBid 2 (some .int), .methodLink RX2 22 yX2_get, .instanceMethod yX2_get, .selects RX2 yX2_get yX2_get, .code yX2_get cX2_get 4 (some .int), .fieldLink RX2 11 "SealedSpots$State" "row" "[I"] ++ wsX20)
def wsX2_bidsForSpot : List Cond := .code yX2_bidsForSpot cX2_bidsForSpot 4 (some .int) :: ([.methodLink RX2 33 yX2_hasBid, .instanceMethod yX2_hasBid, .selects RX2 yX2_hasBid yX2_hasBid, .initialized RX2, .code yX2_hasBid cX2_hasBid 3 (some .boolean), .methodLink RX2 29 yX2_ofBid, .instanceMethod yX2_ofBid, .selects RX2 yX2_ofBid yX2_ofBid, .code yX2_ofBid cX2_ofBid 4 (some .int), .methodLink RX2 26 yX2_placeOfBid, .static yX2_placeOfBid, .code yX2_placeOfBid cX2_placeOfBid 2 (some .int), .methodLink RX2 22 yX2_get, .instanceMethod yX2_get, .selects RX2 yX2_get yX2_get, .code yX2_get cX2_get 4 (some .int), .fieldLink RX2 11 "SealedSpots$State" "row" "[I"] ++ wsX20)
def wsX2_bidsOfBidder : List Cond := .code yX2_bidsOfBidder cX2_bidsOfBidder 4 (some .int) :: ([.methodLink RX2 33 yX2_hasBid, .instanceMethod yX2_hasBid, .selects RX2 yX2_hasBid yX2_hasBid, .initialized RX2, .code yX2_hasBid cX2_hasBid 3 (some .boolean), .methodLink RX2 29 yX2_ofBid, .instanceMethod yX2_ofBid, .selects RX2 yX2_ofBid yX2_ofBid, .code yX2_ofBid cX2_ofBid 4 (some .int), .methodLink RX2 26 yX2_placeOfBid, .static yX2_placeOfBid, .code yX2_placeOfBid cX2_placeOfBid 2 (some .int), .methodLink RX2 22 yX2_get, .instanceMethod yX2_get, .selects RX2 yX2_get yX2_get, .code yX2_get cX2_get 4 (some .int), .fieldLink RX2 11 "SealedSpots$State" "row" "[I"] ++ wsX20)
def wsX2_bidsInAll : List Cond := .code yX2_bidsInAll cX2_bidsInAll 3 (some .int) :: ([.methodLink RX2 37 yX2_bidsOfBidder, .instanceMethod yX2_bidsOfBidder, .selects RX2 yX2_bidsOfBidder yX2_bidsOfBidder, .initialized RX2, .code yX2_bidsOfBidder cX2_bidsOfBidder 4 (some .int), .methodLink RX2 33 yX2_hasBid, .instanceMethod yX2_hasBid, .selects RX2 yX2_hasBid yX2_hasBid, .code yX2_hasBid cX2_hasBid 3 (some .boolean), .methodLink RX2 29 yX2_ofBid, .instanceMethod yX2_ofBid, .selects RX2 yX2_ofBid yX2_ofBid, .code yX2_ofBid cX2_ofBid 4 (some .int), .methodLink RX2 26 yX2_placeOfBid, .static yX2_placeOfBid, .code yX2_placeOfBid cX2_placeOfBid 2 (some .int), .methodLink RX2 22 yX2_get, .instanceMethod yX2_get, .selects RX2 yX2_get yX2_get, .code yX2_get cX2_get 4 (some .int), .fieldLink RX2 11 "SealedSpots$State" "row" "[I"] ++ wsX20)
def wsX2_isOpened : List Cond := .code yX2_isOpened cX2_isOpened 1 (some .boolean) :: ([.methodLink RX2 45 yX2_get_, .instanceMethod yX2_get_, .selects RX2 yX2_get_ yX2_get_, .initialized RX2, .code yX2_get_ cX2_get_ 2 (some .int), .methodLink RX2 22 yX2_get, .instanceMethod yX2_get, .selects RX2 yX2_get yX2_get, .code yX2_get cX2_get 4 (some .int), .fieldLink RX2 11 "SealedSpots$State" "row" "[I"] ++ wsX20)
def wsX2_whyNotSealed_r1 : List Cond := [Cond.methodLink RX2 41 yX2_isOpened, Cond.instanceMethod yX2_isOpened, Cond.selects RX2 yX2_isOpened yX2_isOpened, Cond.initialized RX2, Cond.code yX2_isOpened cX2_isOpened 1 (some .boolean), Cond.methodLink RX2 45 yX2_get_, Cond.instanceMethod yX2_get_, Cond.selects RX2 yX2_get_ yX2_get_, Cond.code yX2_get_ cX2_get_ 2 (some .int), Cond.methodLink RX2 22 yX2_get, Cond.instanceMethod yX2_get, Cond.selects RX2 yX2_get yX2_get, Cond.code yX2_get cX2_get 4 (some .int), Cond.fieldLink RX2 11 "SealedSpots$State" "row" "[I", Cond.methodLink RX2 33 yX2_hasBid, Cond.instanceMethod yX2_hasBid, Cond.selects RX2 yX2_hasBid yX2_hasBid, Cond.code yX2_hasBid cX2_hasBid 3 (some .boolean), Cond.methodLink RX2 29 yX2_ofBid, Cond.instanceMethod yX2_ofBid, Cond.selects RX2 yX2_ofBid yX2_ofBid, Cond.code yX2_ofBid cX2_ofBid 4 (some .int), Cond.methodLink RX2 26 yX2_placeOfBid, Cond.static yX2_placeOfBid]
def wsX2_whyNotSealed_r2 : List Cond := [Cond.code yX2_placeOfBid cX2_placeOfBid 2 (some .int)]
def wsX2_whyNotSealed : List Cond := .code yX2_whyNotSealed cX2_whyNotSealed 4 (some .int) :: ((wsX2_whyNotSealed_r1 ++ wsX2_whyNotSealed_r2) ++ wsX20)
def wsX2_sealBid : List Cond := .code yX2_sealBid cX2_sealBid 6 (some .int) :: ([.methodLink RX2 26 yX2_placeOfBid, .static yX2_placeOfBid, .initialized RX2, .code yX2_placeOfBid cX2_placeOfBid 2 (some .int), .methodLink RX2 45 yX2_get_, .instanceMethod yX2_get_, .selects RX2 yX2_get_ yX2_get_, .code yX2_get_ cX2_get_ 2 (some .int), .methodLink RX2 22 yX2_get, .instanceMethod yX2_get, .selects RX2 yX2_get yX2_get, .code yX2_get cX2_get 4 (some .int), .fieldLink RX2 11 "SealedSpots$State" "row" "[I", .methodLink RX2 19 yX2_put, .instanceMethod yX2_put, .selects RX2 yX2_put yX2_put, .code yX2_put cX2_put 5 none, .methodLink RX2 47 yX2_add, .instanceMethod yX2_add, .selects RX2 yX2_add yX2_add, .code yX2_add cX2_add 4 none] ++ wsX20)
def wsX2_feeFor : List Cond := .code yX2_feeFor cX2_feeFor 4 (some .int) :: ([.methodLink RX2 45 yX2_get_, .instanceMethod yX2_get_, .selects RX2 yX2_get_ yX2_get_, .initialized RX2, .code yX2_get_ cX2_get_ 2 (some .int), .methodLink RX2 22 yX2_get, .instanceMethod yX2_get, .selects RX2 yX2_get yX2_get, .code yX2_get cX2_get 4 (some .int), .fieldLink RX2 11 "SealedSpots$State" "row" "[I", .methodLink RX2 29 yX2_ofBid, .instanceMethod yX2_ofBid, .selects RX2 yX2_ofBid yX2_ofBid, .code yX2_ofBid cX2_ofBid 4 (some .int), .methodLink RX2 26 yX2_placeOfBid, .static yX2_placeOfBid, .code yX2_placeOfBid cX2_placeOfBid 2 (some .int)] ++ wsX20)
def wsX2_whyNotWithdrawn_r1 : List Cond := [Cond.methodLink RX2 41 yX2_isOpened, Cond.instanceMethod yX2_isOpened, Cond.selects RX2 yX2_isOpened yX2_isOpened, Cond.initialized RX2, Cond.code yX2_isOpened cX2_isOpened 1 (some .boolean), Cond.methodLink RX2 45 yX2_get_, Cond.instanceMethod yX2_get_, Cond.selects RX2 yX2_get_ yX2_get_, Cond.code yX2_get_ cX2_get_ 2 (some .int), Cond.methodLink RX2 22 yX2_get, Cond.instanceMethod yX2_get, Cond.selects RX2 yX2_get yX2_get, Cond.code yX2_get cX2_get 4 (some .int), Cond.fieldLink RX2 11 "SealedSpots$State" "row" "[I", Cond.methodLink RX2 33 yX2_hasBid, Cond.instanceMethod yX2_hasBid, Cond.selects RX2 yX2_hasBid yX2_hasBid, Cond.code yX2_hasBid cX2_hasBid 3 (some .boolean), Cond.methodLink RX2 29 yX2_ofBid, Cond.instanceMethod yX2_ofBid, Cond.selects RX2 yX2_ofBid yX2_ofBid, Cond.code yX2_ofBid cX2_ofBid 4 (some .int), Cond.methodLink RX2 26 yX2_placeOfBid, Cond.static yX2_placeOfBid]
def wsX2_whyNotWithdrawn_r2 : List Cond := [Cond.code yX2_placeOfBid cX2_placeOfBid 2 (some .int), Cond.methodLink RX2 50 yX2_feeFor, Cond.instanceMethod yX2_feeFor, Cond.selects RX2 yX2_feeFor yX2_feeFor, Cond.code yX2_feeFor cX2_feeFor 4 (some .int)]
def wsX2_whyNotWithdrawn : List Cond := .code yX2_whyNotWithdrawn cX2_whyNotWithdrawn 3 (some .int) :: ((wsX2_whyNotWithdrawn_r1 ++ wsX2_whyNotWithdrawn_r2) ++ wsX20)
def wsX2_putInChest : List Cond := .code yX2_putInChest cX2_putInChest 3 none :: ([.methodLink RX2 47 yX2_add, .instanceMethod yX2_add, .selects RX2 yX2_add yX2_add, .initialized RX2, .code yX2_add cX2_add 4 none, .methodLink RX2 22 yX2_get, .instanceMethod yX2_get, .selects RX2 yX2_get yX2_get, .code yX2_get cX2_get 4 (some .int), .fieldLink RX2 11 "SealedSpots$State" "row" "[I", .methodLink RX2 19 yX2_put, .instanceMethod yX2_put, .selects RX2 yX2_put yX2_put, .code yX2_put cX2_put 5 none] ++ wsX20)
def wsX2_takeBack_r1 : List Cond := [Cond.methodLink RX2 50 yX2_feeFor, Cond.instanceMethod yX2_feeFor, Cond.selects RX2 yX2_feeFor yX2_feeFor, Cond.initialized RX2, Cond.code yX2_feeFor cX2_feeFor 4 (some .int), Cond.methodLink RX2 45 yX2_get_, Cond.instanceMethod yX2_get_, Cond.selects RX2 yX2_get_ yX2_get_, Cond.code yX2_get_ cX2_get_ 2 (some .int), Cond.methodLink RX2 22 yX2_get, Cond.instanceMethod yX2_get, Cond.selects RX2 yX2_get yX2_get, Cond.code yX2_get cX2_get 4 (some .int), Cond.fieldLink RX2 11 "SealedSpots$State" "row" "[I", Cond.methodLink RX2 29 yX2_ofBid, Cond.instanceMethod yX2_ofBid, Cond.selects RX2 yX2_ofBid yX2_ofBid, Cond.code yX2_ofBid cX2_ofBid 4 (some .int), Cond.methodLink RX2 26 yX2_placeOfBid, Cond.static yX2_placeOfBid, Cond.code yX2_placeOfBid cX2_placeOfBid 2 (some .int), Cond.methodLink RX2 19 yX2_put, Cond.instanceMethod yX2_put, Cond.selects RX2 yX2_put yX2_put]
def wsX2_takeBack_r2 : List Cond := [Cond.code yX2_put cX2_put 5 none, Cond.methodLink RX2 53 yX2_putInChest, Cond.instanceMethod yX2_putInChest, Cond.selects RX2 yX2_putInChest yX2_putInChest, Cond.code yX2_putInChest cX2_putInChest 3 none, Cond.methodLink RX2 47 yX2_add, Cond.instanceMethod yX2_add, Cond.selects RX2 yX2_add yX2_add, Cond.code yX2_add cX2_add 4 none]
def wsX2_takeBack : List Cond := .code yX2_takeBack cX2_takeBack 4 (some .int) :: ((wsX2_takeBack_r1 ++ wsX2_takeBack_r2) ++ wsX20)
def wsX2_openBids : List Cond := .code yX2_openBids cX2_openBids 1 none :: ([.methodLink RX2 19 yX2_put, .instanceMethod yX2_put, .selects RX2 yX2_put yX2_put, .initialized RX2, .code yX2_put cX2_put 5 none, .fieldLink RX2 11 "SealedSpots$State" "row" "[I"] ++ wsX20)
def wsX2_passHours : List Cond := .code yX2_passHours cX2_passHours 2 (some .int) :: ([.methodLink RX2 57 Lib.Math.min.name, .static Lib.Math.min.name, .initialized "java/lang/Math", .code Lib.Math.min.name Lib.Math.min.code 2 (some .int), .methodLink RX2 45 yX2_get_, .instanceMethod yX2_get_, .selects RX2 yX2_get_ yX2_get_, .initialized RX2, .code yX2_get_ cX2_get_ 2 (some .int), .methodLink RX2 22 yX2_get, .instanceMethod yX2_get, .selects RX2 yX2_get yX2_get, .code yX2_get cX2_get 4 (some .int), .fieldLink RX2 11 "SealedSpots$State" "row" "[I", .methodLink RX2 19 yX2_put, .instanceMethod yX2_put, .selects RX2 yX2_put yX2_put, .code yX2_put cX2_put 5 none] ++ wsX20)
def wsX2_giveSpot : List Cond := .code yX2_giveSpot cX2_giveSpot 4 none :: ([.methodLink RX2 19 yX2_put, .instanceMethod yX2_put, .selects RX2 yX2_put yX2_put, .initialized RX2, .code yX2_put cX2_put 5 none, .fieldLink RX2 11 "SealedSpots$State" "row" "[I", .methodLink RX2 53 yX2_putInChest, .instanceMethod yX2_putInChest, .selects RX2 yX2_putInChest yX2_putInChest, .code yX2_putInChest cX2_putInChest 3 none, .methodLink RX2 47 yX2_add, .instanceMethod yX2_add, .selects RX2 yX2_add yX2_add, .code yX2_add cX2_add 4 none, .methodLink RX2 22 yX2_get, .instanceMethod yX2_get, .selects RX2 yX2_get yX2_get, .code yX2_get cX2_get 4 (some .int)] ++ wsX20)
def wsX2_spotOfOwner : List Cond := .code yX2_spotOfOwner cX2_spotOfOwner 3 (some .int) :: ([.methodLink RX2 22 yX2_get, .instanceMethod yX2_get, .selects RX2 yX2_get yX2_get, .initialized RX2, .code yX2_get cX2_get 4 (some .int), .fieldLink RX2 11 "SealedSpots$State" "row" "[I"] ++ wsX20)
def wsX2_canFish : List Cond := .code yX2_canFish cX2_canFish 2 (some .boolean) :: ([.methodLink RX2 41 yX2_isOpened, .instanceMethod yX2_isOpened, .selects RX2 yX2_isOpened yX2_isOpened, .initialized RX2, .code yX2_isOpened cX2_isOpened 1 (some .boolean), .methodLink RX2 45 yX2_get_, .instanceMethod yX2_get_, .selects RX2 yX2_get_ yX2_get_, .code yX2_get_ cX2_get_ 2 (some .int), .methodLink RX2 22 yX2_get, .instanceMethod yX2_get, .selects RX2 yX2_get yX2_get, .code yX2_get cX2_get 4 (some .int), .fieldLink RX2 11 "SealedSpots$State" "row" "[I"] ++ wsX20)
def wsX2_swim : List Cond := .code yX2_swim cX2_swim 5 none :: ([.methodLink RX2 57 Lib.Math.min.name, .static Lib.Math.min.name, .initialized "java/lang/Math", .code Lib.Math.min.name Lib.Math.min.code 2 (some .int), .methodLink RX2 22 yX2_get, .instanceMethod yX2_get, .selects RX2 yX2_get yX2_get, .initialized RX2, .code yX2_get cX2_get 4 (some .int), .fieldLink RX2 11 "SealedSpots$State" "row" "[I", .methodLink RX2 47 yX2_add, .instanceMethod yX2_add, .selects RX2 yX2_add yX2_add, .code yX2_add cX2_add 4 none, .methodLink RX2 19 yX2_put, .instanceMethod yX2_put, .selects RX2 yX2_put yX2_put, .code yX2_put cX2_put 5 none] ++ wsX20)
def wsX2_catchFish : List Cond := .code yX2_catchFish cX2_catchFish 4 (some .int) :: ([.methodLink RX2 57 Lib.Math.min.name, .static Lib.Math.min.name, .initialized "java/lang/Math", .code Lib.Math.min.name Lib.Math.min.code 2 (some .int), .methodLink RX2 22 yX2_get, .instanceMethod yX2_get, .selects RX2 yX2_get yX2_get, .initialized RX2, .code yX2_get cX2_get 4 (some .int), .fieldLink RX2 11 "SealedSpots$State" "row" "[I", .methodLink RX2 47 yX2_add, .instanceMethod yX2_add, .selects RX2 yX2_add yX2_add, .code yX2_add cX2_add 4 none, .methodLink RX2 19 yX2_put, .instanceMethod yX2_put, .selects RX2 yX2_put yX2_put, .code yX2_put cX2_put 5 none, .methodLink RX2 62 yX2_swim, .instanceMethod yX2_swim, .selects RX2 yX2_swim yX2_swim, .code yX2_swim cX2_swim 5 none] ++ wsX20)
def wsX2_beginDay : List Cond := .code yX2_beginDay cX2_beginDay 4 (some .int) :: ([.methodLink RX2 57 Lib.Math.min.name, .static Lib.Math.min.name, .initialized "java/lang/Math", .code Lib.Math.min.name Lib.Math.min.code 2 (some .int), .methodLink RX2 22 yX2_get, .instanceMethod yX2_get, .selects RX2 yX2_get yX2_get, .initialized RX2, .code yX2_get cX2_get 4 (some .int), .fieldLink RX2 11 "SealedSpots$State" "row" "[I", .methodLink RX2 47 yX2_add, .instanceMethod yX2_add, .selects RX2 yX2_add yX2_add, .code yX2_add cX2_add 4 none, .methodLink RX2 19 yX2_put, .instanceMethod yX2_put, .selects RX2 yX2_put yX2_put, .code yX2_put cX2_put 5 none, .methodLink RX2 15 yX2_fill, .instanceMethod yX2_fill, .selects RX2 yX2_fill yX2_fill, .code yX2_fill cX2_fill 5 none] ++ wsX20)
def wsX3_init : List Cond := .code yX3_init cX3_init 1 none :: ([.methodLink RX3 1 objectInit, .instanceMethod objectInit, .code objectInit ⟨#[0xb1]⟩ 1 none, .arrayClass .int, .fieldLink RX3 9 "SealedSpots$Text" "codes" "[I"] ++ wsX30)
def wsX4_init_r1 : List Cond := [Cond.methodLink RX4 3 objectInit, Cond.instanceMethod objectInit, Cond.code objectInit ⟨#[0xb1]⟩ 1 none, Cond.classLink RX4 9 RX2, Cond.instantiable RX2 1, Cond.initialized RX2, Cond.fieldLink RX4 12 "SealedSpots" "state" "LSealedSpots$State;", Cond.classLink RX4 16 RX1, Cond.instantiable RX1 2, Cond.initialized RX1, Cond.fieldLink RX4 19 "SealedSpots" "sharing" "LSealedSpots$Sharing;", Cond.classLink RX4 23 RX0, Cond.instantiable RX0 4, Cond.initialized RX0, Cond.fieldLink RX4 26 "SealedSpots" "history" "LSealedSpots$History;", Cond.classLink RX4 30 RX3, Cond.instantiable RX3 2, Cond.initialized RX3, Cond.fieldLink RX4 33 "SealedSpots" "text" "LSealedSpots$Text;", Cond.methodLink RX4 11 yX2_init, Cond.instanceMethod yX2_init, Cond.code yX2_init cX2_init 1 none, Cond.methodLink RX2 5 objectInit, Cond.arrayClass .int]
def wsX4_init_r2 : List Cond := [Cond.fieldLink RX2 11 "SealedSpots$State" "row" "[I", Cond.methodLink RX2 15 yX2_fill, Cond.instanceMethod yX2_fill, Cond.selects RX2 yX2_fill yX2_fill, Cond.code yX2_fill cX2_fill 5 none, Cond.methodLink RX2 19 yX2_put, Cond.instanceMethod yX2_put, Cond.selects RX2 yX2_put yX2_put, Cond.code yX2_put cX2_put 5 none, Cond.instanceMethod yX1_init, Cond.code yX1_init cX1_init 1 none, Cond.methodLink RX1 5 objectInit, Cond.arrayClass .long, Cond.fieldLink RX1 11 "SealedSpots$Sharing" "keys" "[J", Cond.fieldLink RX1 15 "SealedSpots$Sharing" "most" "[J", Cond.instanceMethod yX0_init, Cond.code yX0_init cX0_init 1 none, Cond.methodLink RX0 1 objectInit, Cond.fieldLink RX0 11 "SealedSpots$History" "rows" "[I", Cond.fieldLink RX0 15 "SealedSpots$History" "snapshot" "[I", Cond.instanceMethod yX3_init, Cond.code yX3_init cX3_init 1 none, Cond.methodLink RX3 1 objectInit, Cond.fieldLink RX3 9 "SealedSpots$Text" "codes" "[I"]
def wsX4_init : List Cond := .code yX4_init cX4_init 1 none :: ((wsX4_init_r1 ++ wsX4_init_r2) ++ wsX20 ++ wsX40 ++ wsX10 ++ wsX00 ++ wsX30)
def wsX4_needPlace : List Cond := .code yX4_needPlace cX4_needPlace 2 none :: ([.classLink RX4 263 "java/lang/IndexOutOfBoundsException", .initialized "java/lang/IndexOutOfBoundsException"] ++ (vx_atS RX4 267 "java/lang/IndexOutOfBoundsException" ["java/lang/RuntimeException", "java/lang/Exception"]).filter goodWord)
def wsX4_needRange : List Cond := .code yX4_needRange cX4_needRange 3 none :: ([.classLink RX4 117 "java/lang/IllegalArgumentException", .initialized "java/lang/IllegalArgumentException"] ++ (vx_atS RX4 121 "java/lang/IllegalArgumentException" ["java/lang/RuntimeException", "java/lang/Exception"]).filter goodWord)
def wsX4_price_r1 : List Cond := [Cond.fieldLink RX4 26 "SealedSpots" "history" "LSealedSpots$History;", Cond.fieldLink RX4 12 "SealedSpots" "state" "LSealedSpots$State;", Cond.methodLink RX4 37 yX4_needPlace, Cond.static yX4_needPlace, Cond.initialized RX4, Cond.code yX4_needPlace cX4_needPlace 2 none, Cond.classLink RX4 263 "java/lang/IndexOutOfBoundsException", Cond.initialized "java/lang/IndexOutOfBoundsException", Cond.methodLink RX4 41 yX4_needRange, Cond.static yX4_needRange, Cond.code yX4_needRange cX4_needRange 3 none, Cond.classLink RX4 117 "java/lang/IllegalArgumentException", Cond.initialized "java/lang/IllegalArgumentException", Cond.methodLink RX4 45 yX0_save, Cond.instanceMethod yX0_save, Cond.selects RX0 yX0_save yX0_save, Cond.initialized RX0, Cond.code yX0_save cX0_save 2 none, Cond.fieldLink RX0 18 "SealedSpots$History" "saved" "I", Cond.fieldLink RX0 11 "SealedSpots$History" "rows" "[I", Cond.methodLink RX0 22 yX0_dropOldest, Cond.instanceMethod yX0_dropOldest, Cond.selects RX0 yX0_dropOldest yX0_dropOldest, Cond.code yX0_dropOldest cX0_dropOldest 2 none]
def wsX4_price_r2 : List Cond := [Cond.methodLink RX0 25 yX2_copyTo, Cond.instanceMethod yX2_copyTo, Cond.selects RX2 yX2_copyTo yX2_copyTo, Cond.initialized RX2, Cond.code yX2_copyTo cX2_copyTo 5 none, Cond.methodLink RX2 45 yX2_get_, Cond.instanceMethod yX2_get_, Cond.selects RX2 yX2_get_ yX2_get_, Cond.code yX2_get_ cX2_get_ 2 (some .int), Cond.methodLink RX2 22 yX2_get, Cond.instanceMethod yX2_get, Cond.selects RX2 yX2_get yX2_get, Cond.code yX2_get cX2_get 4 (some .int), Cond.fieldLink RX2 11 "SealedSpots$State" "row" "[I", Cond.methodLink RX4 49 yX2_get, Cond.methodLink RX4 53 yX2_put, Cond.instanceMethod yX2_put, Cond.selects RX2 yX2_put yX2_put, Cond.code yX2_put cX2_put 5 none]
def wsX4_price : List Cond := .code yX4_price cX4_price 4 (some .int) :: ((wsX4_price_r1 ++ wsX4_price_r2) ++ wsX40 ++ wsX00 ++ wsX20 ++ (vx_atS RX4 267 "java/lang/IndexOutOfBoundsException" ["java/lang/RuntimeException", "java/lang/Exception"]).filter goodWord ++ (vx_atS RX4 121 "java/lang/IllegalArgumentException" ["java/lang/RuntimeException", "java/lang/Exception"]).filter goodWord)
def wsX4_needState : List Cond := .code yX4_needState cX4_needState 1 none :: ([.classLink RX4 270 "java/lang/IllegalStateException", .initialized "java/lang/IllegalStateException"] ++ (vx_atS RX4 274 "java/lang/IllegalStateException" ["java/lang/RuntimeException", "java/lang/Exception"]).filter goodWord)
def wsX4_pay_r1 : List Cond := [Cond.fieldLink RX4 12 "SealedSpots" "state" "LSealedSpots$State;", Cond.fieldLink RX4 26 "SealedSpots" "history" "LSealedSpots$History;", Cond.methodLink RX4 37 yX4_needPlace, Cond.static yX4_needPlace, Cond.initialized RX4, Cond.code yX4_needPlace cX4_needPlace 2 none, Cond.classLink RX4 263 "java/lang/IndexOutOfBoundsException", Cond.initialized "java/lang/IndexOutOfBoundsException", Cond.methodLink RX4 41 yX4_needRange, Cond.static yX4_needRange, Cond.code yX4_needRange cX4_needRange 3 none, Cond.classLink RX4 117 "java/lang/IllegalArgumentException", Cond.initialized "java/lang/IllegalArgumentException", Cond.methodLink RX4 56 yX2_get_, Cond.instanceMethod yX2_get_, Cond.selects RX2 yX2_get_ yX2_get_, Cond.initialized RX2, Cond.code yX2_get_ cX2_get_ 2 (some .int), Cond.methodLink RX2 22 yX2_get, Cond.instanceMethod yX2_get, Cond.selects RX2 yX2_get yX2_get, Cond.code yX2_get cX2_get 4 (some .int), Cond.fieldLink RX2 11 "SealedSpots$State" "row" "[I", Cond.methodLink RX4 59 yX4_needState]
def wsX4_pay_r2 : List Cond := [Cond.static yX4_needState, Cond.code yX4_needState cX4_needState 1 none, Cond.classLink RX4 270 "java/lang/IllegalStateException", Cond.initialized "java/lang/IllegalStateException", Cond.methodLink RX4 45 yX0_save, Cond.instanceMethod yX0_save, Cond.selects RX0 yX0_save yX0_save, Cond.initialized RX0, Cond.code yX0_save cX0_save 2 none, Cond.fieldLink RX0 18 "SealedSpots$History" "saved" "I", Cond.fieldLink RX0 11 "SealedSpots$History" "rows" "[I", Cond.methodLink RX0 22 yX0_dropOldest, Cond.instanceMethod yX0_dropOldest, Cond.selects RX0 yX0_dropOldest yX0_dropOldest, Cond.code yX0_dropOldest cX0_dropOldest 2 none, Cond.methodLink RX0 25 yX2_copyTo, Cond.instanceMethod yX2_copyTo, Cond.selects RX2 yX2_copyTo yX2_copyTo, Cond.code yX2_copyTo cX2_copyTo 5 none, Cond.methodLink RX2 45 yX2_get_, Cond.methodLink RX4 63 yX2_add, Cond.instanceMethod yX2_add, Cond.selects RX2 yX2_add yX2_add, Cond.code yX2_add cX2_add 4 none]
def wsX4_pay_r3 : List Cond := [Cond.methodLink RX2 19 yX2_put, Cond.instanceMethod yX2_put, Cond.selects RX2 yX2_put yX2_put, Cond.code yX2_put cX2_put 5 none, Cond.methodLink RX4 49 yX2_get]
def wsX4_pay : List Cond := .code yX4_pay cX4_pay 3 (some .int) :: ((wsX4_pay_r1 ++ (wsX4_pay_r2 ++ wsX4_pay_r3)) ++ wsX40 ++ wsX20 ++ wsX00 ++ (vx_atS RX4 267 "java/lang/IndexOutOfBoundsException" ["java/lang/RuntimeException", "java/lang/Exception"]).filter goodWord ++ (vx_atS RX4 121 "java/lang/IllegalArgumentException" ["java/lang/RuntimeException", "java/lang/Exception"]).filter goodWord ++ (vx_atS RX4 274 "java/lang/IllegalStateException" ["java/lang/RuntimeException", "java/lang/Exception"]).filter goodWord)
def wsX4_set_r1 : List Cond := [Cond.fieldLink RX4 26 "SealedSpots" "history" "LSealedSpots$History;", Cond.fieldLink RX4 12 "SealedSpots" "state" "LSealedSpots$State;", Cond.methodLink RX4 37 yX4_needPlace, Cond.static yX4_needPlace, Cond.initialized RX4, Cond.code yX4_needPlace cX4_needPlace 2 none, Cond.classLink RX4 263 "java/lang/IndexOutOfBoundsException", Cond.initialized "java/lang/IndexOutOfBoundsException", Cond.methodLink RX4 66 yX2_mostOfSetting, Cond.static yX2_mostOfSetting, Cond.initialized RX2, Cond.code yX2_mostOfSetting cX2_mostOfSetting 1 (some .int), Cond.methodLink RX4 41 yX4_needRange, Cond.static yX4_needRange, Cond.code yX4_needRange cX4_needRange 3 none, Cond.classLink RX4 117 "java/lang/IllegalArgumentException", Cond.initialized "java/lang/IllegalArgumentException", Cond.methodLink RX4 45 yX0_save, Cond.instanceMethod yX0_save, Cond.selects RX0 yX0_save yX0_save, Cond.initialized RX0, Cond.code yX0_save cX0_save 2 none, Cond.fieldLink RX0 18 "SealedSpots$History" "saved" "I", Cond.fieldLink RX0 11 "SealedSpots$History" "rows" "[I"]
def wsX4_set_r2 : List Cond := [Cond.methodLink RX0 22 yX0_dropOldest, Cond.instanceMethod yX0_dropOldest, Cond.selects RX0 yX0_dropOldest yX0_dropOldest, Cond.code yX0_dropOldest cX0_dropOldest 2 none, Cond.methodLink RX0 25 yX2_copyTo, Cond.instanceMethod yX2_copyTo, Cond.selects RX2 yX2_copyTo yX2_copyTo, Cond.code yX2_copyTo cX2_copyTo 5 none, Cond.methodLink RX2 45 yX2_get_, Cond.instanceMethod yX2_get_, Cond.selects RX2 yX2_get_ yX2_get_, Cond.code yX2_get_ cX2_get_ 2 (some .int), Cond.methodLink RX2 22 yX2_get, Cond.instanceMethod yX2_get, Cond.selects RX2 yX2_get yX2_get, Cond.code yX2_get cX2_get 4 (some .int), Cond.fieldLink RX2 11 "SealedSpots$State" "row" "[I", Cond.methodLink RX4 49 yX2_get, Cond.methodLink RX4 53 yX2_put, Cond.instanceMethod yX2_put, Cond.selects RX2 yX2_put yX2_put, Cond.code yX2_put cX2_put 5 none]
def wsX4_set : List Cond := .code yX4_set cX4_set 4 (some .int) :: ((wsX4_set_r1 ++ wsX4_set_r2) ++ wsX40 ++ wsX00 ++ wsX20 ++ (vx_atS RX4 267 "java/lang/IndexOutOfBoundsException" ["java/lang/RuntimeException", "java/lang/Exception"]).filter goodWord ++ (vx_atS RX4 121 "java/lang/IllegalArgumentException" ["java/lang/RuntimeException", "java/lang/Exception"]).filter goodWord)
def wsX4_bid_r1 : List Cond := [Cond.fieldLink RX4 12 "SealedSpots" "state" "LSealedSpots$State;", Cond.fieldLink RX4 26 "SealedSpots" "history" "LSealedSpots$History;", Cond.methodLink RX4 37 yX4_needPlace, Cond.static yX4_needPlace, Cond.initialized RX4, Cond.code yX4_needPlace cX4_needPlace 2 none, Cond.classLink RX4 263 "java/lang/IndexOutOfBoundsException", Cond.initialized "java/lang/IndexOutOfBoundsException", Cond.methodLink RX4 41 yX4_needRange, Cond.static yX4_needRange, Cond.code yX4_needRange cX4_needRange 3 none, Cond.classLink RX4 117 "java/lang/IllegalArgumentException", Cond.initialized "java/lang/IllegalArgumentException", Cond.methodLink RX4 69 yX2_whyNotSealed, Cond.instanceMethod yX2_whyNotSealed, Cond.selects RX2 yX2_whyNotSealed yX2_whyNotSealed, Cond.initialized RX2, Cond.code yX2_whyNotSealed cX2_whyNotSealed 4 (some .int), Cond.methodLink RX2 41 yX2_isOpened, Cond.instanceMethod yX2_isOpened, Cond.selects RX2 yX2_isOpened yX2_isOpened, Cond.code yX2_isOpened cX2_isOpened 1 (some .boolean), Cond.methodLink RX2 45 yX2_get_, Cond.instanceMethod yX2_get_]
def wsX4_bid_r2 : List Cond := [Cond.selects RX2 yX2_get_ yX2_get_, Cond.code yX2_get_ cX2_get_ 2 (some .int), Cond.methodLink RX2 22 yX2_get, Cond.instanceMethod yX2_get, Cond.selects RX2 yX2_get yX2_get, Cond.code yX2_get cX2_get 4 (some .int), Cond.fieldLink RX2 11 "SealedSpots$State" "row" "[I", Cond.methodLink RX2 33 yX2_hasBid, Cond.instanceMethod yX2_hasBid, Cond.selects RX2 yX2_hasBid yX2_hasBid, Cond.code yX2_hasBid cX2_hasBid 3 (some .boolean), Cond.methodLink RX2 29 yX2_ofBid, Cond.instanceMethod yX2_ofBid, Cond.selects RX2 yX2_ofBid yX2_ofBid, Cond.code yX2_ofBid cX2_ofBid 4 (some .int), Cond.methodLink RX2 26 yX2_placeOfBid, Cond.static yX2_placeOfBid, Cond.code yX2_placeOfBid cX2_placeOfBid 2 (some .int), Cond.methodLink RX4 59 yX4_needState, Cond.static yX4_needState, Cond.code yX4_needState cX4_needState 1 none, Cond.classLink RX4 270 "java/lang/IllegalStateException", Cond.initialized "java/lang/IllegalStateException", Cond.methodLink RX4 45 yX0_save]
def wsX4_bid_r3 : List Cond := [Cond.instanceMethod yX0_save, Cond.selects RX0 yX0_save yX0_save, Cond.initialized RX0, Cond.code yX0_save cX0_save 2 none, Cond.fieldLink RX0 18 "SealedSpots$History" "saved" "I", Cond.fieldLink RX0 11 "SealedSpots$History" "rows" "[I", Cond.methodLink RX0 22 yX0_dropOldest, Cond.instanceMethod yX0_dropOldest, Cond.selects RX0 yX0_dropOldest yX0_dropOldest, Cond.code yX0_dropOldest cX0_dropOldest 2 none, Cond.methodLink RX0 25 yX2_copyTo, Cond.instanceMethod yX2_copyTo, Cond.selects RX2 yX2_copyTo yX2_copyTo, Cond.code yX2_copyTo cX2_copyTo 5 none, Cond.methodLink RX4 73 yX2_sealBid, Cond.instanceMethod yX2_sealBid, Cond.selects RX2 yX2_sealBid yX2_sealBid, Cond.code yX2_sealBid cX2_sealBid 6 (some .int), Cond.methodLink RX2 19 yX2_put, Cond.instanceMethod yX2_put, Cond.selects RX2 yX2_put yX2_put, Cond.code yX2_put cX2_put 5 none, Cond.methodLink RX2 47 yX2_add, Cond.instanceMethod yX2_add]
def wsX4_bid_r4 : List Cond := [Cond.selects RX2 yX2_add yX2_add, Cond.code yX2_add cX2_add 4 none]
def wsX4_bid : List Cond := .code yX4_bid cX4_bid 4 (some .int) :: ((wsX4_bid_r1 ++ (wsX4_bid_r2 ++ (wsX4_bid_r3 ++ wsX4_bid_r4))) ++ wsX40 ++ wsX20 ++ wsX00 ++ (vx_atS RX4 267 "java/lang/IndexOutOfBoundsException" ["java/lang/RuntimeException", "java/lang/Exception"]).filter goodWord ++ (vx_atS RX4 121 "java/lang/IllegalArgumentException" ["java/lang/RuntimeException", "java/lang/Exception"]).filter goodWord ++ (vx_atS RX4 274 "java/lang/IllegalStateException" ["java/lang/RuntimeException", "java/lang/Exception"]).filter goodWord)
def wsX4_withdraw_r1 : List Cond := [Cond.fieldLink RX4 12 "SealedSpots" "state" "LSealedSpots$State;", Cond.fieldLink RX4 26 "SealedSpots" "history" "LSealedSpots$History;", Cond.methodLink RX4 37 yX4_needPlace, Cond.static yX4_needPlace, Cond.initialized RX4, Cond.code yX4_needPlace cX4_needPlace 2 none, Cond.classLink RX4 263 "java/lang/IndexOutOfBoundsException", Cond.initialized "java/lang/IndexOutOfBoundsException", Cond.methodLink RX4 76 yX2_whyNotWithdrawn, Cond.instanceMethod yX2_whyNotWithdrawn, Cond.selects RX2 yX2_whyNotWithdrawn yX2_whyNotWithdrawn, Cond.initialized RX2, Cond.code yX2_whyNotWithdrawn cX2_whyNotWithdrawn 3 (some .int), Cond.methodLink RX2 41 yX2_isOpened, Cond.instanceMethod yX2_isOpened, Cond.selects RX2 yX2_isOpened yX2_isOpened, Cond.code yX2_isOpened cX2_isOpened 1 (some .boolean), Cond.methodLink RX2 45 yX2_get_, Cond.instanceMethod yX2_get_, Cond.selects RX2 yX2_get_ yX2_get_, Cond.code yX2_get_ cX2_get_ 2 (some .int), Cond.methodLink RX2 22 yX2_get, Cond.instanceMethod yX2_get, Cond.selects RX2 yX2_get yX2_get]
def wsX4_withdraw_r2 : List Cond := [Cond.code yX2_get cX2_get 4 (some .int), Cond.fieldLink RX2 11 "SealedSpots$State" "row" "[I", Cond.methodLink RX2 33 yX2_hasBid, Cond.instanceMethod yX2_hasBid, Cond.selects RX2 yX2_hasBid yX2_hasBid, Cond.code yX2_hasBid cX2_hasBid 3 (some .boolean), Cond.methodLink RX2 29 yX2_ofBid, Cond.instanceMethod yX2_ofBid, Cond.selects RX2 yX2_ofBid yX2_ofBid, Cond.code yX2_ofBid cX2_ofBid 4 (some .int), Cond.methodLink RX2 26 yX2_placeOfBid, Cond.static yX2_placeOfBid, Cond.code yX2_placeOfBid cX2_placeOfBid 2 (some .int), Cond.methodLink RX2 50 yX2_feeFor, Cond.instanceMethod yX2_feeFor, Cond.selects RX2 yX2_feeFor yX2_feeFor, Cond.code yX2_feeFor cX2_feeFor 4 (some .int), Cond.methodLink RX4 59 yX4_needState, Cond.static yX4_needState, Cond.code yX4_needState cX4_needState 1 none, Cond.classLink RX4 270 "java/lang/IllegalStateException", Cond.initialized "java/lang/IllegalStateException", Cond.methodLink RX4 45 yX0_save, Cond.instanceMethod yX0_save]
def wsX4_withdraw_r3 : List Cond := [Cond.selects RX0 yX0_save yX0_save, Cond.initialized RX0, Cond.code yX0_save cX0_save 2 none, Cond.fieldLink RX0 18 "SealedSpots$History" "saved" "I", Cond.fieldLink RX0 11 "SealedSpots$History" "rows" "[I", Cond.methodLink RX0 22 yX0_dropOldest, Cond.instanceMethod yX0_dropOldest, Cond.selects RX0 yX0_dropOldest yX0_dropOldest, Cond.code yX0_dropOldest cX0_dropOldest 2 none, Cond.methodLink RX0 25 yX2_copyTo, Cond.instanceMethod yX2_copyTo, Cond.selects RX2 yX2_copyTo yX2_copyTo, Cond.code yX2_copyTo cX2_copyTo 5 none, Cond.methodLink RX4 79 yX2_takeBack, Cond.instanceMethod yX2_takeBack, Cond.selects RX2 yX2_takeBack yX2_takeBack, Cond.code yX2_takeBack cX2_takeBack 4 (some .int), Cond.methodLink RX2 19 yX2_put, Cond.instanceMethod yX2_put, Cond.selects RX2 yX2_put yX2_put, Cond.code yX2_put cX2_put 5 none, Cond.methodLink RX2 53 yX2_putInChest, Cond.instanceMethod yX2_putInChest, Cond.selects RX2 yX2_putInChest yX2_putInChest]
def wsX4_withdraw_r4 : List Cond := [Cond.code yX2_putInChest cX2_putInChest 3 none, Cond.methodLink RX2 47 yX2_add, Cond.instanceMethod yX2_add, Cond.selects RX2 yX2_add yX2_add, Cond.code yX2_add cX2_add 4 none]
def wsX4_withdraw : List Cond := .code yX4_withdraw cX4_withdraw 3 (some .int) :: ((wsX4_withdraw_r1 ++ (wsX4_withdraw_r2 ++ (wsX4_withdraw_r3 ++ wsX4_withdraw_r4))) ++ wsX40 ++ wsX20 ++ wsX00 ++ (vx_atS RX4 267 "java/lang/IndexOutOfBoundsException" ["java/lang/RuntimeException", "java/lang/Exception"]).filter goodWord ++ (vx_atS RX4 274 "java/lang/IllegalStateException" ["java/lang/RuntimeException", "java/lang/Exception"]).filter goodWord)
def wsX4_pause_r1 : List Cond := [Cond.fieldLink RX4 26 "SealedSpots" "history" "LSealedSpots$History;", Cond.fieldLink RX4 12 "SealedSpots" "state" "LSealedSpots$State;", Cond.methodLink RX4 41 yX4_needRange, Cond.static yX4_needRange, Cond.initialized RX4, Cond.code yX4_needRange cX4_needRange 3 none, Cond.classLink RX4 117 "java/lang/IllegalArgumentException", Cond.initialized "java/lang/IllegalArgumentException", Cond.methodLink RX4 45 yX0_save, Cond.instanceMethod yX0_save, Cond.selects RX0 yX0_save yX0_save, Cond.initialized RX0, Cond.code yX0_save cX0_save 2 none, Cond.fieldLink RX0 18 "SealedSpots$History" "saved" "I", Cond.fieldLink RX0 11 "SealedSpots$History" "rows" "[I", Cond.methodLink RX0 22 yX0_dropOldest, Cond.instanceMethod yX0_dropOldest, Cond.selects RX0 yX0_dropOldest yX0_dropOldest, Cond.code yX0_dropOldest cX0_dropOldest 2 none, Cond.methodLink RX0 25 yX2_copyTo, Cond.instanceMethod yX2_copyTo, Cond.selects RX2 yX2_copyTo yX2_copyTo, Cond.initialized RX2, Cond.code yX2_copyTo cX2_copyTo 5 none]
def wsX4_pause_r2 : List Cond := [Cond.methodLink RX2 45 yX2_get_, Cond.instanceMethod yX2_get_, Cond.selects RX2 yX2_get_ yX2_get_, Cond.code yX2_get_ cX2_get_ 2 (some .int), Cond.methodLink RX2 22 yX2_get, Cond.instanceMethod yX2_get, Cond.selects RX2 yX2_get yX2_get, Cond.code yX2_get cX2_get 4 (some .int), Cond.fieldLink RX2 11 "SealedSpots$State" "row" "[I", Cond.methodLink RX4 82 yX2_passHours, Cond.instanceMethod yX2_passHours, Cond.selects RX2 yX2_passHours yX2_passHours, Cond.code yX2_passHours cX2_passHours 2 (some .int), Cond.methodLink RX2 57 Lib.Math.min.name, Cond.static Lib.Math.min.name, Cond.initialized "java/lang/Math", Cond.code Lib.Math.min.name Lib.Math.min.code 2 (some .int), Cond.methodLink RX2 19 yX2_put, Cond.instanceMethod yX2_put, Cond.selects RX2 yX2_put yX2_put, Cond.code yX2_put cX2_put 5 none]
def wsX4_pause : List Cond := .code yX4_pause cX4_pause 2 (some .int) :: ((wsX4_pause_r1 ++ wsX4_pause_r2) ++ wsX40 ++ wsX00 ++ wsX20 ++ (vx_atS RX4 121 "java/lang/IllegalArgumentException" ["java/lang/RuntimeException", "java/lang/Exception"]).filter goodWord)
def wsX4_findSharing_r1 : List Cond := [Cond.fieldLink RX4 19 "SealedSpots" "sharing" "LSealedSpots$Sharing;", Cond.fieldLink RX4 12 "SealedSpots" "state" "LSealedSpots$State;", Cond.methodLink RX4 192 yX1_readBids, Cond.instanceMethod yX1_readBids, Cond.selects RX1 yX1_readBids yX1_readBids, Cond.initialized RX1, Cond.code yX1_readBids cX1_readBids 5 none, Cond.methodLink RX1 30 yX2_ofBid, Cond.instanceMethod yX2_ofBid, Cond.selects RX2 yX2_ofBid yX2_ofBid, Cond.initialized RX2, Cond.code yX2_ofBid cX2_ofBid 4 (some .int), Cond.methodLink RX2 26 yX2_placeOfBid, Cond.static yX2_placeOfBid, Cond.code yX2_placeOfBid cX2_placeOfBid 2 (some .int), Cond.methodLink RX2 22 yX2_get, Cond.instanceMethod yX2_get, Cond.selects RX2 yX2_get yX2_get, Cond.code yX2_get cX2_get 4 (some .int), Cond.fieldLink RX2 11 "SealedSpots$State" "row" "[I", Cond.methodLink RX1 34 yX1_keyOf, Cond.static yX1_keyOf, Cond.code yX1_keyOf cX1_keyOf 7 (some .long), Cond.constantLong RX1 28 (262144)]
def wsX4_findSharing_r2 : List Cond := [Cond.methodLink RX1 20 yX2_get, Cond.methodLink RX1 24 yX1_digitShift, Cond.static yX1_digitShift, Cond.code yX1_digitShift cX1_digitShift 1 (some .int), Cond.methodLink RX1 38 yX1_replaceBid, Cond.instanceMethod yX1_replaceBid, Cond.selects RX1 yX1_replaceBid yX1_replaceBid, Cond.code yX1_replaceBid cX1_replaceBid 6 none, Cond.fieldLink RX1 11 "SealedSpots$Sharing" "keys" "[J", Cond.methodLink RX4 203 yX1_find, Cond.instanceMethod yX1_find, Cond.selects RX1 yX1_find yX1_find, Cond.code yX1_find cX1_find 3 none, Cond.fieldLink RX1 15 "SealedSpots$Sharing" "most" "[J", Cond.methodLink RX1 42 yX1_lookAtSpot, Cond.instanceMethod yX1_lookAtSpot, Cond.selects RX1 yX1_lookAtSpot yX1_lookAtSpot, Cond.code yX1_lookAtSpot cX1_lookAtSpot 8 none, Cond.methodLink RX1 61 Lib.MathLoose.max_long.x, Cond.static Lib.MathLoose.max_long.x, Cond.initialized "java/lang/Math", Cond.code Lib.MathLoose.max_long.x Lib.MathLoose.max_long.code 4 (some .long), Cond.methodLink RX1 46 yX1_isIn, Cond.static yX1_isIn]
def wsX4_findSharing_r3 : List Cond := [Cond.code yX1_isIn cX1_isIn 2 (some .boolean), Cond.methodLink RX1 50 yX1_keyIn, Cond.static yX1_keyIn, Cond.code yX1_keyIn cX1_keyIn 4 (some .long), Cond.methodLink RX1 54 yX1_setWithout, Cond.static yX1_setWithout, Cond.code yX1_setWithout cX1_setWithout 2 (some .int), Cond.methodLink RX1 57 yX1_mostOf, Cond.instanceMethod yX1_mostOf, Cond.selects RX1 yX1_mostOf yX1_mostOf, Cond.code yX1_mostOf cX1_mostOf 2 (some .long)]
def wsX4_findSharing : List Cond := .code yX4_findSharing cX4_findSharing 1 none :: ((wsX4_findSharing_r1 ++ (wsX4_findSharing_r2 ++ wsX4_findSharing_r3)) ++ wsX40 ++ wsX20 ++ wsX10)
def wsX4_shareOut_r1 : List Cond := [Cond.fieldLink RX4 12 "SealedSpots" "state" "LSealedSpots$State;", Cond.fieldLink RX4 19 "SealedSpots" "sharing" "LSealedSpots$Sharing;", Cond.methodLink RX4 176 yX4_findSharing, Cond.instanceMethod yX4_findSharing, Cond.selects RX4 yX4_findSharing yX4_findSharing, Cond.initialized RX4, Cond.code yX4_findSharing cX4_findSharing 1 none, Cond.methodLink RX4 192 yX1_readBids, Cond.instanceMethod yX1_readBids, Cond.selects RX1 yX1_readBids yX1_readBids, Cond.initialized RX1, Cond.code yX1_readBids cX1_readBids 5 none, Cond.methodLink RX1 30 yX2_ofBid, Cond.instanceMethod yX2_ofBid, Cond.selects RX2 yX2_ofBid yX2_ofBid, Cond.initialized RX2, Cond.code yX2_ofBid cX2_ofBid 4 (some .int), Cond.methodLink RX2 26 yX2_placeOfBid, Cond.static yX2_placeOfBid, Cond.code yX2_placeOfBid cX2_placeOfBid 2 (some .int), Cond.methodLink RX2 22 yX2_get, Cond.instanceMethod yX2_get, Cond.selects RX2 yX2_get yX2_get, Cond.code yX2_get cX2_get 4 (some .int)]
def wsX4_shareOut_r2 : List Cond := [Cond.fieldLink RX2 11 "SealedSpots$State" "row" "[I", Cond.methodLink RX1 34 yX1_keyOf, Cond.static yX1_keyOf, Cond.code yX1_keyOf cX1_keyOf 7 (some .long), Cond.constantLong RX1 28 (262144), Cond.methodLink RX1 20 yX2_get, Cond.methodLink RX1 24 yX1_digitShift, Cond.static yX1_digitShift, Cond.code yX1_digitShift cX1_digitShift 1 (some .int), Cond.methodLink RX1 38 yX1_replaceBid, Cond.instanceMethod yX1_replaceBid, Cond.selects RX1 yX1_replaceBid yX1_replaceBid, Cond.code yX1_replaceBid cX1_replaceBid 6 none, Cond.fieldLink RX1 11 "SealedSpots$Sharing" "keys" "[J", Cond.methodLink RX4 203 yX1_find, Cond.instanceMethod yX1_find, Cond.selects RX1 yX1_find yX1_find, Cond.code yX1_find cX1_find 3 none, Cond.fieldLink RX1 15 "SealedSpots$Sharing" "most" "[J", Cond.methodLink RX1 42 yX1_lookAtSpot, Cond.instanceMethod yX1_lookAtSpot, Cond.selects RX1 yX1_lookAtSpot yX1_lookAtSpot, Cond.code yX1_lookAtSpot cX1_lookAtSpot 8 none, Cond.methodLink RX1 61 Lib.MathLoose.max_long.x]
def wsX4_shareOut_r3 : List Cond := [Cond.static Lib.MathLoose.max_long.x, Cond.initialized "java/lang/Math", Cond.code Lib.MathLoose.max_long.x Lib.MathLoose.max_long.code 4 (some .long), Cond.methodLink RX1 46 yX1_isIn, Cond.static yX1_isIn, Cond.code yX1_isIn cX1_isIn 2 (some .boolean), Cond.methodLink RX1 50 yX1_keyIn, Cond.static yX1_keyIn, Cond.code yX1_keyIn cX1_keyIn 4 (some .long), Cond.methodLink RX1 54 yX1_setWithout, Cond.static yX1_setWithout, Cond.code yX1_setWithout cX1_setWithout 2 (some .int), Cond.methodLink RX1 57 yX1_mostOf, Cond.instanceMethod yX1_mostOf, Cond.selects RX1 yX1_mostOf yX1_mostOf, Cond.code yX1_mostOf cX1_mostOf 2 (some .long), Cond.methodLink RX4 281 yX2_openBids, Cond.instanceMethod yX2_openBids, Cond.selects RX2 yX2_openBids yX2_openBids, Cond.code yX2_openBids cX2_openBids 1 none, Cond.methodLink RX2 19 yX2_put, Cond.instanceMethod yX2_put, Cond.selects RX2 yX2_put yX2_put, Cond.code yX2_put cX2_put 5 none]
def wsX4_shareOut_r4 : List Cond := [Cond.methodLink RX4 185 yX1_ownerOf, Cond.instanceMethod yX1_ownerOf, Cond.selects RX1 yX1_ownerOf yX1_ownerOf, Cond.code yX1_ownerOf cX1_ownerOf 3 (some .int), Cond.methodLink RX1 67 yX1_keyWithout, Cond.instanceMethod yX1_keyWithout, Cond.selects RX1 yX1_keyWithout yX1_keyWithout, Cond.code yX1_keyWithout cX1_keyWithout 2 (some .long), Cond.methodLink RX4 188 yX1_priceOf, Cond.instanceMethod yX1_priceOf, Cond.selects RX1 yX1_priceOf yX1_priceOf, Cond.code yX1_priceOf cX1_priceOf 5 (some .int), Cond.methodLink RX1 74 yX1_ownerOf, Cond.methodLink RX1 77 yX1_worthWithout, Cond.instanceMethod yX1_worthWithout, Cond.selects RX1 yX1_worthWithout yX1_worthWithout, Cond.code yX1_worthWithout cX1_worthWithout 2 (some .int), Cond.methodLink RX1 70 yX1_worthOf, Cond.static yX1_worthOf, Cond.code yX1_worthOf cX1_worthOf 2 (some .int), Cond.methodLink RX4 284 yX2_giveSpot, Cond.instanceMethod yX2_giveSpot, Cond.selects RX2 yX2_giveSpot yX2_giveSpot, Cond.code yX2_giveSpot cX2_giveSpot 4 none]
def wsX4_shareOut_r5 : List Cond := [Cond.methodLink RX2 53 yX2_putInChest, Cond.instanceMethod yX2_putInChest, Cond.selects RX2 yX2_putInChest yX2_putInChest, Cond.code yX2_putInChest cX2_putInChest 3 none, Cond.methodLink RX2 47 yX2_add, Cond.instanceMethod yX2_add, Cond.selects RX2 yX2_add yX2_add, Cond.code yX2_add cX2_add 4 none]
def wsX4_shareOut : List Cond := .code yX4_shareOut cX4_shareOut 4 (some .int) :: ((wsX4_shareOut_r1 ++ (wsX4_shareOut_r2 ++ (wsX4_shareOut_r3 ++ (wsX4_shareOut_r4 ++ wsX4_shareOut_r5)))) ++ wsX40 ++ wsX20 ++ wsX10)
def wsX4_open_r1 : List Cond := [Cond.fieldLink RX4 12 "SealedSpots" "state" "LSealedSpots$State;", Cond.fieldLink RX4 26 "SealedSpots" "history" "LSealedSpots$History;", Cond.methodLink RX4 85 yX2_isOpened, Cond.instanceMethod yX2_isOpened, Cond.selects RX2 yX2_isOpened yX2_isOpened, Cond.initialized RX2, Cond.code yX2_isOpened cX2_isOpened 1 (some .boolean), Cond.methodLink RX2 45 yX2_get_, Cond.instanceMethod yX2_get_, Cond.selects RX2 yX2_get_ yX2_get_, Cond.code yX2_get_ cX2_get_ 2 (some .int), Cond.methodLink RX2 22 yX2_get, Cond.instanceMethod yX2_get, Cond.selects RX2 yX2_get yX2_get, Cond.code yX2_get cX2_get 4 (some .int), Cond.fieldLink RX2 11 "SealedSpots$State" "row" "[I", Cond.methodLink RX4 59 yX4_needState, Cond.static yX4_needState, Cond.initialized RX4, Cond.code yX4_needState cX4_needState 1 none, Cond.classLink RX4 270 "java/lang/IllegalStateException", Cond.initialized "java/lang/IllegalStateException", Cond.methodLink RX4 45 yX0_save, Cond.instanceMethod yX0_save]
def wsX4_open_r2 : List Cond := [Cond.selects RX0 yX0_save yX0_save, Cond.initialized RX0, Cond.code yX0_save cX0_save 2 none, Cond.fieldLink RX0 18 "SealedSpots$History" "saved" "I", Cond.fieldLink RX0 11 "SealedSpots$History" "rows" "[I", Cond.methodLink RX0 22 yX0_dropOldest, Cond.instanceMethod yX0_dropOldest, Cond.selects RX0 yX0_dropOldest yX0_dropOldest, Cond.code yX0_dropOldest cX0_dropOldest 2 none, Cond.methodLink RX0 25 yX2_copyTo, Cond.instanceMethod yX2_copyTo, Cond.selects RX2 yX2_copyTo yX2_copyTo, Cond.code yX2_copyTo cX2_copyTo 5 none, Cond.methodLink RX4 89 yX4_shareOut, Cond.instanceMethod yX4_shareOut, Cond.selects RX4 yX4_shareOut yX4_shareOut, Cond.code yX4_shareOut cX4_shareOut 4 (some .int), Cond.fieldLink RX4 19 "SealedSpots" "sharing" "LSealedSpots$Sharing;", Cond.methodLink RX4 176 yX4_findSharing, Cond.instanceMethod yX4_findSharing, Cond.selects RX4 yX4_findSharing yX4_findSharing, Cond.code yX4_findSharing cX4_findSharing 1 none, Cond.methodLink RX4 192 yX1_readBids, Cond.instanceMethod yX1_readBids]
def wsX4_open_r3 : List Cond := [Cond.selects RX1 yX1_readBids yX1_readBids, Cond.initialized RX1, Cond.code yX1_readBids cX1_readBids 5 none, Cond.methodLink RX1 30 yX2_ofBid, Cond.instanceMethod yX2_ofBid, Cond.selects RX2 yX2_ofBid yX2_ofBid, Cond.code yX2_ofBid cX2_ofBid 4 (some .int), Cond.methodLink RX2 26 yX2_placeOfBid, Cond.static yX2_placeOfBid, Cond.code yX2_placeOfBid cX2_placeOfBid 2 (some .int), Cond.methodLink RX1 34 yX1_keyOf, Cond.static yX1_keyOf, Cond.code yX1_keyOf cX1_keyOf 7 (some .long), Cond.constantLong RX1 28 (262144), Cond.methodLink RX1 20 yX2_get, Cond.methodLink RX1 24 yX1_digitShift, Cond.static yX1_digitShift, Cond.code yX1_digitShift cX1_digitShift 1 (some .int), Cond.methodLink RX1 38 yX1_replaceBid, Cond.instanceMethod yX1_replaceBid, Cond.selects RX1 yX1_replaceBid yX1_replaceBid, Cond.code yX1_replaceBid cX1_replaceBid 6 none, Cond.fieldLink RX1 11 "SealedSpots$Sharing" "keys" "[J", Cond.methodLink RX4 203 yX1_find]
def wsX4_open_r4 : List Cond := [Cond.instanceMethod yX1_find, Cond.selects RX1 yX1_find yX1_find, Cond.code yX1_find cX1_find 3 none, Cond.fieldLink RX1 15 "SealedSpots$Sharing" "most" "[J", Cond.methodLink RX1 42 yX1_lookAtSpot, Cond.instanceMethod yX1_lookAtSpot, Cond.selects RX1 yX1_lookAtSpot yX1_lookAtSpot, Cond.code yX1_lookAtSpot cX1_lookAtSpot 8 none, Cond.methodLink RX1 61 Lib.MathLoose.max_long.x, Cond.static Lib.MathLoose.max_long.x, Cond.initialized "java/lang/Math", Cond.code Lib.MathLoose.max_long.x Lib.MathLoose.max_long.code 4 (some .long), Cond.methodLink RX1 46 yX1_isIn, Cond.static yX1_isIn, Cond.code yX1_isIn cX1_isIn 2 (some .boolean), Cond.methodLink RX1 50 yX1_keyIn, Cond.static yX1_keyIn, Cond.code yX1_keyIn cX1_keyIn 4 (some .long), Cond.methodLink RX1 54 yX1_setWithout, Cond.static yX1_setWithout, Cond.code yX1_setWithout cX1_setWithout 2 (some .int), Cond.methodLink RX1 57 yX1_mostOf, Cond.instanceMethod yX1_mostOf, Cond.selects RX1 yX1_mostOf yX1_mostOf]
def wsX4_open_r5 : List Cond := [Cond.code yX1_mostOf cX1_mostOf 2 (some .long), Cond.methodLink RX4 281 yX2_openBids, Cond.instanceMethod yX2_openBids, Cond.selects RX2 yX2_openBids yX2_openBids, Cond.code yX2_openBids cX2_openBids 1 none, Cond.methodLink RX2 19 yX2_put, Cond.instanceMethod yX2_put, Cond.selects RX2 yX2_put yX2_put, Cond.code yX2_put cX2_put 5 none, Cond.methodLink RX4 185 yX1_ownerOf, Cond.instanceMethod yX1_ownerOf, Cond.selects RX1 yX1_ownerOf yX1_ownerOf, Cond.code yX1_ownerOf cX1_ownerOf 3 (some .int), Cond.methodLink RX1 67 yX1_keyWithout, Cond.instanceMethod yX1_keyWithout, Cond.selects RX1 yX1_keyWithout yX1_keyWithout, Cond.code yX1_keyWithout cX1_keyWithout 2 (some .long), Cond.methodLink RX4 188 yX1_priceOf, Cond.instanceMethod yX1_priceOf, Cond.selects RX1 yX1_priceOf yX1_priceOf, Cond.code yX1_priceOf cX1_priceOf 5 (some .int), Cond.methodLink RX1 74 yX1_ownerOf, Cond.methodLink RX1 77 yX1_worthWithout, Cond.instanceMethod yX1_worthWithout]
def wsX4_open_r6 : List Cond := [Cond.selects RX1 yX1_worthWithout yX1_worthWithout, Cond.code yX1_worthWithout cX1_worthWithout 2 (some .int), Cond.methodLink RX1 70 yX1_worthOf, Cond.static yX1_worthOf, Cond.code yX1_worthOf cX1_worthOf 2 (some .int), Cond.methodLink RX4 284 yX2_giveSpot, Cond.instanceMethod yX2_giveSpot, Cond.selects RX2 yX2_giveSpot yX2_giveSpot, Cond.code yX2_giveSpot cX2_giveSpot 4 none, Cond.methodLink RX2 53 yX2_putInChest, Cond.instanceMethod yX2_putInChest, Cond.selects RX2 yX2_putInChest yX2_putInChest, Cond.code yX2_putInChest cX2_putInChest 3 none, Cond.methodLink RX2 47 yX2_add, Cond.instanceMethod yX2_add, Cond.selects RX2 yX2_add yX2_add, Cond.code yX2_add cX2_add 4 none]
def wsX4_open : List Cond := .code yX4_open cX4_open 1 (some .int) :: ((wsX4_open_r1 ++ (wsX4_open_r2 ++ (wsX4_open_r3 ++ (wsX4_open_r4 ++ (wsX4_open_r5 ++ wsX4_open_r6))))) ++ wsX40 ++ wsX20 ++ wsX00 ++ wsX10 ++ (vx_atS RX4 274 "java/lang/IllegalStateException" ["java/lang/RuntimeException", "java/lang/Exception"]).filter goodWord)
def wsX4_fish_r1 : List Cond := [Cond.fieldLink RX4 12 "SealedSpots" "state" "LSealedSpots$State;", Cond.fieldLink RX4 26 "SealedSpots" "history" "LSealedSpots$History;", Cond.methodLink RX4 37 yX4_needPlace, Cond.static yX4_needPlace, Cond.initialized RX4, Cond.code yX4_needPlace cX4_needPlace 2 none, Cond.classLink RX4 263 "java/lang/IndexOutOfBoundsException", Cond.initialized "java/lang/IndexOutOfBoundsException", Cond.methodLink RX4 93 yX2_canFish, Cond.instanceMethod yX2_canFish, Cond.selects RX2 yX2_canFish yX2_canFish, Cond.initialized RX2, Cond.code yX2_canFish cX2_canFish 2 (some .boolean), Cond.methodLink RX2 41 yX2_isOpened, Cond.instanceMethod yX2_isOpened, Cond.selects RX2 yX2_isOpened yX2_isOpened, Cond.code yX2_isOpened cX2_isOpened 1 (some .boolean), Cond.methodLink RX2 45 yX2_get_, Cond.instanceMethod yX2_get_, Cond.selects RX2 yX2_get_ yX2_get_, Cond.code yX2_get_ cX2_get_ 2 (some .int), Cond.methodLink RX2 22 yX2_get, Cond.instanceMethod yX2_get, Cond.selects RX2 yX2_get yX2_get]
def wsX4_fish_r2 : List Cond := [Cond.code yX2_get cX2_get 4 (some .int), Cond.fieldLink RX2 11 "SealedSpots$State" "row" "[I", Cond.methodLink RX4 59 yX4_needState, Cond.static yX4_needState, Cond.code yX4_needState cX4_needState 1 none, Cond.classLink RX4 270 "java/lang/IllegalStateException", Cond.initialized "java/lang/IllegalStateException", Cond.methodLink RX4 45 yX0_save, Cond.instanceMethod yX0_save, Cond.selects RX0 yX0_save yX0_save, Cond.initialized RX0, Cond.code yX0_save cX0_save 2 none, Cond.fieldLink RX0 18 "SealedSpots$History" "saved" "I", Cond.fieldLink RX0 11 "SealedSpots$History" "rows" "[I", Cond.methodLink RX0 22 yX0_dropOldest, Cond.instanceMethod yX0_dropOldest, Cond.selects RX0 yX0_dropOldest yX0_dropOldest, Cond.code yX0_dropOldest cX0_dropOldest 2 none, Cond.methodLink RX0 25 yX2_copyTo, Cond.instanceMethod yX2_copyTo, Cond.selects RX2 yX2_copyTo yX2_copyTo, Cond.code yX2_copyTo cX2_copyTo 5 none, Cond.methodLink RX4 97 yX2_catchFish, Cond.instanceMethod yX2_catchFish]
def wsX4_fish_r3 : List Cond := [Cond.selects RX2 yX2_catchFish yX2_catchFish, Cond.code yX2_catchFish cX2_catchFish 4 (some .int), Cond.methodLink RX2 57 Lib.Math.min.name, Cond.static Lib.Math.min.name, Cond.initialized "java/lang/Math", Cond.code Lib.Math.min.name Lib.Math.min.code 2 (some .int), Cond.methodLink RX2 47 yX2_add, Cond.instanceMethod yX2_add, Cond.selects RX2 yX2_add yX2_add, Cond.code yX2_add cX2_add 4 none, Cond.methodLink RX2 19 yX2_put, Cond.instanceMethod yX2_put, Cond.selects RX2 yX2_put yX2_put, Cond.code yX2_put cX2_put 5 none, Cond.methodLink RX2 62 yX2_swim, Cond.instanceMethod yX2_swim, Cond.selects RX2 yX2_swim yX2_swim, Cond.code yX2_swim cX2_swim 5 none]
def wsX4_fish : List Cond := .code yX4_fish cX4_fish 2 (some .int) :: ((wsX4_fish_r1 ++ (wsX4_fish_r2 ++ wsX4_fish_r3)) ++ wsX40 ++ wsX20 ++ wsX00 ++ (vx_atS RX4 267 "java/lang/IndexOutOfBoundsException" ["java/lang/RuntimeException", "java/lang/Exception"]).filter goodWord ++ (vx_atS RX4 274 "java/lang/IllegalStateException" ["java/lang/RuntimeException", "java/lang/Exception"]).filter goodWord)
def wsX4_nextDay_r1 : List Cond := [Cond.fieldLink RX4 26 "SealedSpots" "history" "LSealedSpots$History;", Cond.fieldLink RX4 12 "SealedSpots" "state" "LSealedSpots$State;", Cond.methodLink RX4 45 yX0_save, Cond.instanceMethod yX0_save, Cond.selects RX0 yX0_save yX0_save, Cond.initialized RX0, Cond.code yX0_save cX0_save 2 none, Cond.fieldLink RX0 18 "SealedSpots$History" "saved" "I", Cond.fieldLink RX0 11 "SealedSpots$History" "rows" "[I", Cond.methodLink RX0 22 yX0_dropOldest, Cond.instanceMethod yX0_dropOldest, Cond.selects RX0 yX0_dropOldest yX0_dropOldest, Cond.code yX0_dropOldest cX0_dropOldest 2 none, Cond.methodLink RX0 25 yX2_copyTo, Cond.instanceMethod yX2_copyTo, Cond.selects RX2 yX2_copyTo yX2_copyTo, Cond.initialized RX2, Cond.code yX2_copyTo cX2_copyTo 5 none, Cond.methodLink RX2 45 yX2_get_, Cond.instanceMethod yX2_get_, Cond.selects RX2 yX2_get_ yX2_get_, Cond.code yX2_get_ cX2_get_ 2 (some .int), Cond.methodLink RX2 22 yX2_get, Cond.instanceMethod yX2_get]
def wsX4_nextDay_r2 : List Cond := [Cond.selects RX2 yX2_get yX2_get, Cond.code yX2_get cX2_get 4 (some .int), Cond.fieldLink RX2 11 "SealedSpots$State" "row" "[I", Cond.methodLink RX4 100 yX2_beginDay, Cond.instanceMethod yX2_beginDay, Cond.selects RX2 yX2_beginDay yX2_beginDay, Cond.code yX2_beginDay cX2_beginDay 4 (some .int), Cond.methodLink RX2 57 Lib.Math.min.name, Cond.static Lib.Math.min.name, Cond.initialized "java/lang/Math", Cond.code Lib.Math.min.name Lib.Math.min.code 2 (some .int), Cond.methodLink RX2 47 yX2_add, Cond.instanceMethod yX2_add, Cond.selects RX2 yX2_add yX2_add, Cond.code yX2_add cX2_add 4 none, Cond.methodLink RX2 19 yX2_put, Cond.instanceMethod yX2_put, Cond.selects RX2 yX2_put yX2_put, Cond.code yX2_put cX2_put 5 none, Cond.methodLink RX2 15 yX2_fill, Cond.instanceMethod yX2_fill, Cond.selects RX2 yX2_fill yX2_fill, Cond.code yX2_fill cX2_fill 5 none]
def wsX4_nextDay : List Cond := .code yX4_nextDay cX4_nextDay 1 (some .int) :: ((wsX4_nextDay_r1 ++ wsX4_nextDay_r2) ++ wsX40 ++ wsX00 ++ wsX20)
def wsX4_keep : List Cond := .code yX4_keep cX4_keep 1 (some .int) :: ([.fieldLink RX4 26 "SealedSpots" "history" "LSealedSpots$History;", .fieldLink RX4 12 "SealedSpots" "state" "LSealedSpots$State;", .methodLink RX4 134 yX0_takeSnapshot, .instanceMethod yX0_takeSnapshot, .selects RX0 yX0_takeSnapshot yX0_takeSnapshot, .initialized RX0, .code yX0_takeSnapshot cX0_takeSnapshot 2 none, .fieldLink RX0 15 "SealedSpots$History" "snapshot" "[I", .fieldLink RX0 32 "SealedSpots$History" "snapshotTaken" "Z", .methodLink RX0 25 yX2_copyTo, .instanceMethod yX2_copyTo, .selects RX2 yX2_copyTo yX2_copyTo, .initialized RX2, .code yX2_copyTo cX2_copyTo 5 none, .methodLink RX2 45 yX2_get_, .instanceMethod yX2_get_, .selects RX2 yX2_get_ yX2_get_, .code yX2_get_ cX2_get_ 2 (some .int), .methodLink RX2 22 yX2_get, .instanceMethod yX2_get, .selects RX2 yX2_get yX2_get, .code yX2_get cX2_get 4 (some .int), .fieldLink RX2 11 "SealedSpots$State" "row" "[I", .methodLink RX4 56 yX2_get_] ++ wsX40 ++ wsX00 ++ wsX20)
def wsX4_goBack_r1 : List Cond := [Cond.fieldLink RX4 26 "SealedSpots" "history" "LSealedSpots$History;", Cond.fieldLink RX4 12 "SealedSpots" "state" "LSealedSpots$State;", Cond.methodLink RX4 137 yX0_hasSnapshot, Cond.instanceMethod yX0_hasSnapshot, Cond.selects RX0 yX0_hasSnapshot yX0_hasSnapshot, Cond.initialized RX0, Cond.code yX0_hasSnapshot cX0_hasSnapshot 1 (some .boolean), Cond.fieldLink RX0 32 "SealedSpots$History" "snapshotTaken" "Z", Cond.methodLink RX4 59 yX4_needState, Cond.static yX4_needState, Cond.initialized RX4, Cond.code yX4_needState cX4_needState 1 none, Cond.classLink RX4 270 "java/lang/IllegalStateException", Cond.initialized "java/lang/IllegalStateException", Cond.methodLink RX4 45 yX0_save, Cond.instanceMethod yX0_save, Cond.selects RX0 yX0_save yX0_save, Cond.code yX0_save cX0_save 2 none, Cond.fieldLink RX0 18 "SealedSpots$History" "saved" "I", Cond.fieldLink RX0 11 "SealedSpots$History" "rows" "[I", Cond.methodLink RX0 22 yX0_dropOldest, Cond.instanceMethod yX0_dropOldest, Cond.selects RX0 yX0_dropOldest yX0_dropOldest, Cond.code yX0_dropOldest cX0_dropOldest 2 none]
def wsX4_goBack_r2 : List Cond := [Cond.methodLink RX0 25 yX2_copyTo, Cond.instanceMethod yX2_copyTo, Cond.selects RX2 yX2_copyTo yX2_copyTo, Cond.initialized RX2, Cond.code yX2_copyTo cX2_copyTo 5 none, Cond.methodLink RX2 45 yX2_get_, Cond.instanceMethod yX2_get_, Cond.selects RX2 yX2_get_ yX2_get_, Cond.code yX2_get_ cX2_get_ 2 (some .int), Cond.methodLink RX2 22 yX2_get, Cond.instanceMethod yX2_get, Cond.selects RX2 yX2_get yX2_get, Cond.code yX2_get cX2_get 4 (some .int), Cond.fieldLink RX2 11 "SealedSpots$State" "row" "[I", Cond.methodLink RX4 140 yX0_restoreSnapshot, Cond.instanceMethod yX0_restoreSnapshot, Cond.selects RX0 yX0_restoreSnapshot yX0_restoreSnapshot, Cond.code yX0_restoreSnapshot cX0_restoreSnapshot 2 none, Cond.fieldLink RX0 15 "SealedSpots$History" "snapshot" "[I", Cond.methodLink RX0 29 yX2_copyFrom, Cond.instanceMethod yX2_copyFrom, Cond.selects RX2 yX2_copyFrom yX2_copyFrom, Cond.code yX2_copyFrom cX2_copyFrom 5 none, Cond.methodLink RX2 19 yX2_put]
def wsX4_goBack_r3 : List Cond := [Cond.instanceMethod yX2_put, Cond.selects RX2 yX2_put yX2_put, Cond.code yX2_put cX2_put 5 none, Cond.methodLink RX4 56 yX2_get_]
def wsX4_goBack : List Cond := .code yX4_goBack cX4_goBack 1 (some .int) :: ((wsX4_goBack_r1 ++ (wsX4_goBack_r2 ++ wsX4_goBack_r3)) ++ wsX40 ++ wsX00 ++ wsX20 ++ (vx_atS RX4 274 "java/lang/IllegalStateException" ["java/lang/RuntimeException", "java/lang/Exception"]).filter goodWord)
def wsX4_undo_r1 : List Cond := [Cond.fieldLink RX4 26 "SealedSpots" "history" "LSealedSpots$History;", Cond.fieldLink RX4 12 "SealedSpots" "state" "LSealedSpots$State;", Cond.methodLink RX4 143 yX0_savedStates, Cond.instanceMethod yX0_savedStates, Cond.selects RX0 yX0_savedStates yX0_savedStates, Cond.initialized RX0, Cond.code yX0_savedStates cX0_savedStates 1 (some .int), Cond.fieldLink RX0 18 "SealedSpots$History" "saved" "I", Cond.methodLink RX4 59 yX4_needState, Cond.static yX4_needState, Cond.initialized RX4, Cond.code yX4_needState cX4_needState 1 none, Cond.classLink RX4 270 "java/lang/IllegalStateException", Cond.initialized "java/lang/IllegalStateException", Cond.methodLink RX4 146 yX0_restoreLatest, Cond.instanceMethod yX0_restoreLatest, Cond.selects RX0 yX0_restoreLatest yX0_restoreLatest, Cond.code yX0_restoreLatest cX0_restoreLatest 2 none, Cond.fieldLink RX0 11 "SealedSpots$History" "rows" "[I", Cond.methodLink RX0 29 yX2_copyFrom, Cond.instanceMethod yX2_copyFrom, Cond.selects RX2 yX2_copyFrom yX2_copyFrom, Cond.initialized RX2, Cond.code yX2_copyFrom cX2_copyFrom 5 none]
def wsX4_undo_r2 : List Cond := [Cond.methodLink RX2 19 yX2_put, Cond.instanceMethod yX2_put, Cond.selects RX2 yX2_put yX2_put, Cond.code yX2_put cX2_put 5 none, Cond.fieldLink RX2 11 "SealedSpots$State" "row" "[I"]
def wsX4_undo : List Cond := .code yX4_undo cX4_undo 1 (some .int) :: ((wsX4_undo_r1 ++ wsX4_undo_r2) ++ wsX40 ++ wsX00 ++ wsX20 ++ (vx_atS RX4 274 "java/lang/IllegalStateException" ["java/lang/RuntimeException", "java/lang/Exception"]).filter goodWord)
def wsX4_spot_r1 : List Cond := [Cond.classLink RX4 117 "java/lang/IllegalArgumentException", Cond.initialized "java/lang/IllegalArgumentException", Cond.fieldLink RX4 12 "SealedSpots" "state" "LSealedSpots$State;", Cond.methodLink RX4 37 yX4_needPlace, Cond.static yX4_needPlace, Cond.initialized RX4, Cond.code yX4_needPlace cX4_needPlace 2 none, Cond.classLink RX4 263 "java/lang/IndexOutOfBoundsException", Cond.initialized "java/lang/IndexOutOfBoundsException", Cond.methodLink RX4 49 yX2_get, Cond.instanceMethod yX2_get, Cond.selects RX2 yX2_get yX2_get, Cond.initialized RX2, Cond.code yX2_get cX2_get 4 (some .int), Cond.fieldLink RX2 11 "SealedSpots$State" "row" "[I", Cond.methodLink RX4 149 yX2_bidsForSpot, Cond.instanceMethod yX2_bidsForSpot, Cond.selects RX2 yX2_bidsForSpot yX2_bidsForSpot, Cond.code yX2_bidsForSpot cX2_bidsForSpot 4 (some .int), Cond.methodLink RX2 33 yX2_hasBid, Cond.instanceMethod yX2_hasBid, Cond.selects RX2 yX2_hasBid yX2_hasBid, Cond.code yX2_hasBid cX2_hasBid 3 (some .boolean), Cond.methodLink RX2 29 yX2_ofBid]
def wsX4_spot_r2 : List Cond := [Cond.instanceMethod yX2_ofBid, Cond.selects RX2 yX2_ofBid yX2_ofBid, Cond.code yX2_ofBid cX2_ofBid 4 (some .int), Cond.methodLink RX2 26 yX2_placeOfBid, Cond.static yX2_placeOfBid, Cond.code yX2_placeOfBid cX2_placeOfBid 2 (some .int), Cond.methodLink RX2 22 yX2_get]
def wsX4_spot : List Cond := .code yX4_spot cX4_spot 3 (some .int) :: ((wsX4_spot_r1 ++ wsX4_spot_r2) ++ wsX40 ++ wsX20 ++ (vx_atS RX4 121 "java/lang/IllegalArgumentException" ["java/lang/RuntimeException", "java/lang/Exception"]).filter goodWord ++ (vx_atS RX4 267 "java/lang/IndexOutOfBoundsException" ["java/lang/RuntimeException", "java/lang/Exception"]).filter goodWord)
def wsX4_bidder_r1 : List Cond := [Cond.classLink RX4 117 "java/lang/IllegalArgumentException", Cond.initialized "java/lang/IllegalArgumentException", Cond.fieldLink RX4 12 "SealedSpots" "state" "LSealedSpots$State;", Cond.methodLink RX4 37 yX4_needPlace, Cond.static yX4_needPlace, Cond.initialized RX4, Cond.code yX4_needPlace cX4_needPlace 2 none, Cond.classLink RX4 263 "java/lang/IndexOutOfBoundsException", Cond.initialized "java/lang/IndexOutOfBoundsException", Cond.methodLink RX4 49 yX2_get, Cond.instanceMethod yX2_get, Cond.selects RX2 yX2_get yX2_get, Cond.initialized RX2, Cond.code yX2_get cX2_get 4 (some .int), Cond.fieldLink RX2 11 "SealedSpots$State" "row" "[I", Cond.methodLink RX4 154 yX2_bidsOfBidder, Cond.instanceMethod yX2_bidsOfBidder, Cond.selects RX2 yX2_bidsOfBidder yX2_bidsOfBidder, Cond.code yX2_bidsOfBidder cX2_bidsOfBidder 4 (some .int), Cond.methodLink RX2 33 yX2_hasBid, Cond.instanceMethod yX2_hasBid, Cond.selects RX2 yX2_hasBid yX2_hasBid, Cond.code yX2_hasBid cX2_hasBid 3 (some .boolean), Cond.methodLink RX2 29 yX2_ofBid]
def wsX4_bidder_r2 : List Cond := [Cond.instanceMethod yX2_ofBid, Cond.selects RX2 yX2_ofBid yX2_ofBid, Cond.code yX2_ofBid cX2_ofBid 4 (some .int), Cond.methodLink RX2 26 yX2_placeOfBid, Cond.static yX2_placeOfBid, Cond.code yX2_placeOfBid cX2_placeOfBid 2 (some .int), Cond.methodLink RX2 22 yX2_get, Cond.methodLink RX4 157 yX2_spotOfOwner, Cond.instanceMethod yX2_spotOfOwner, Cond.selects RX2 yX2_spotOfOwner yX2_spotOfOwner, Cond.code yX2_spotOfOwner cX2_spotOfOwner 3 (some .int)]
def wsX4_bidder : List Cond := .code yX4_bidder cX4_bidder 3 (some .int) :: ((wsX4_bidder_r1 ++ wsX4_bidder_r2) ++ wsX40 ++ wsX20 ++ (vx_atS RX4 121 "java/lang/IllegalArgumentException" ["java/lang/RuntimeException", "java/lang/Exception"]).filter goodWord ++ (vx_atS RX4 267 "java/lang/IndexOutOfBoundsException" ["java/lang/RuntimeException", "java/lang/Exception"]).filter goodWord)
def wsX4_numberOfBid_r1 : List Cond := [Cond.fieldLink RX4 12 "SealedSpots" "state" "LSealedSpots$State;", Cond.methodLink RX4 275 yX2_ofBid, Cond.instanceMethod yX2_ofBid, Cond.selects RX2 yX2_ofBid yX2_ofBid, Cond.initialized RX2, Cond.code yX2_ofBid cX2_ofBid 4 (some .int), Cond.methodLink RX2 26 yX2_placeOfBid, Cond.static yX2_placeOfBid, Cond.code yX2_placeOfBid cX2_placeOfBid 2 (some .int), Cond.methodLink RX2 22 yX2_get, Cond.instanceMethod yX2_get, Cond.selects RX2 yX2_get yX2_get, Cond.code yX2_get cX2_get 4 (some .int), Cond.fieldLink RX2 11 "SealedSpots$State" "row" "[I", Cond.methodLink RX4 85 yX2_isOpened, Cond.instanceMethod yX2_isOpened, Cond.selects RX2 yX2_isOpened yX2_isOpened, Cond.code yX2_isOpened cX2_isOpened 1 (some .boolean), Cond.methodLink RX2 45 yX2_get_, Cond.instanceMethod yX2_get_, Cond.selects RX2 yX2_get_ yX2_get_, Cond.code yX2_get_ cX2_get_ 2 (some .int), Cond.methodLink RX4 278 yX2_feeFor, Cond.instanceMethod yX2_feeFor]
def wsX4_numberOfBid_r2 : List Cond := [Cond.selects RX2 yX2_feeFor yX2_feeFor, Cond.code yX2_feeFor cX2_feeFor 4 (some .int), Cond.methodLink RX2 29 yX2_ofBid]
def wsX4_numberOfBid : List Cond := .code yX4_numberOfBid cX4_numberOfBid 4 (some .int) :: ((wsX4_numberOfBid_r1 ++ wsX4_numberOfBid_r2) ++ wsX40 ++ wsX20)
def wsX4_sealed_r1 : List Cond := [Cond.fieldLink RX4 12 "SealedSpots" "state" "LSealedSpots$State;", Cond.methodLink RX4 37 yX4_needPlace, Cond.static yX4_needPlace, Cond.initialized RX4, Cond.code yX4_needPlace cX4_needPlace 2 none, Cond.classLink RX4 263 "java/lang/IndexOutOfBoundsException", Cond.initialized "java/lang/IndexOutOfBoundsException", Cond.methodLink RX4 41 yX4_needRange, Cond.static yX4_needRange, Cond.code yX4_needRange cX4_needRange 3 none, Cond.classLink RX4 117 "java/lang/IllegalArgumentException", Cond.initialized "java/lang/IllegalArgumentException", Cond.methodLink RX4 76 yX2_whyNotWithdrawn, Cond.instanceMethod yX2_whyNotWithdrawn, Cond.selects RX2 yX2_whyNotWithdrawn yX2_whyNotWithdrawn, Cond.initialized RX2, Cond.code yX2_whyNotWithdrawn cX2_whyNotWithdrawn 3 (some .int), Cond.methodLink RX2 41 yX2_isOpened, Cond.instanceMethod yX2_isOpened, Cond.selects RX2 yX2_isOpened yX2_isOpened, Cond.code yX2_isOpened cX2_isOpened 1 (some .boolean), Cond.methodLink RX2 45 yX2_get_, Cond.instanceMethod yX2_get_, Cond.selects RX2 yX2_get_ yX2_get_]
def wsX4_sealed_r2 : List Cond := [Cond.code yX2_get_ cX2_get_ 2 (some .int), Cond.methodLink RX2 22 yX2_get, Cond.instanceMethod yX2_get, Cond.selects RX2 yX2_get yX2_get, Cond.code yX2_get cX2_get 4 (some .int), Cond.fieldLink RX2 11 "SealedSpots$State" "row" "[I", Cond.methodLink RX2 33 yX2_hasBid, Cond.instanceMethod yX2_hasBid, Cond.selects RX2 yX2_hasBid yX2_hasBid, Cond.code yX2_hasBid cX2_hasBid 3 (some .boolean), Cond.methodLink RX2 29 yX2_ofBid, Cond.instanceMethod yX2_ofBid, Cond.selects RX2 yX2_ofBid yX2_ofBid, Cond.code yX2_ofBid cX2_ofBid 4 (some .int), Cond.methodLink RX2 26 yX2_placeOfBid, Cond.static yX2_placeOfBid, Cond.code yX2_placeOfBid cX2_placeOfBid 2 (some .int), Cond.methodLink RX2 50 yX2_feeFor, Cond.instanceMethod yX2_feeFor, Cond.selects RX2 yX2_feeFor yX2_feeFor, Cond.code yX2_feeFor cX2_feeFor 4 (some .int), Cond.methodLink RX4 162 yX2_hasBid, Cond.methodLink RX4 165 yX4_numberOfBid, Cond.instanceMethod yX4_numberOfBid]
def wsX4_sealed_r3 : List Cond := [Cond.selects RX4 yX4_numberOfBid yX4_numberOfBid, Cond.code yX4_numberOfBid cX4_numberOfBid 4 (some .int), Cond.methodLink RX4 275 yX2_ofBid, Cond.methodLink RX4 85 yX2_isOpened, Cond.methodLink RX4 278 yX2_feeFor]
def wsX4_sealed : List Cond := .code yX4_sealed cX4_sealed 4 (some .int) :: ((wsX4_sealed_r1 ++ (wsX4_sealed_r2 ++ wsX4_sealed_r3)) ++ wsX40 ++ wsX20 ++ (vx_atS RX4 267 "java/lang/IndexOutOfBoundsException" ["java/lang/RuntimeException", "java/lang/Exception"]).filter goodWord ++ (vx_atS RX4 121 "java/lang/IllegalArgumentException" ["java/lang/RuntimeException", "java/lang/Exception"]).filter goodWord)
def wsX4_count_r1 : List Cond := [Cond.classLink RX4 117 "java/lang/IllegalArgumentException", Cond.initialized "java/lang/IllegalArgumentException", Cond.fieldLink RX4 12 "SealedSpots" "state" "LSealedSpots$State;", Cond.fieldLink RX4 26 "SealedSpots" "history" "LSealedSpots$History;", Cond.methodLink RX4 56 yX2_get_, Cond.instanceMethod yX2_get_, Cond.selects RX2 yX2_get_ yX2_get_, Cond.initialized RX2, Cond.code yX2_get_ cX2_get_ 2 (some .int), Cond.methodLink RX2 22 yX2_get, Cond.instanceMethod yX2_get, Cond.selects RX2 yX2_get yX2_get, Cond.code yX2_get cX2_get 4 (some .int), Cond.fieldLink RX2 11 "SealedSpots$State" "row" "[I", Cond.methodLink RX4 85 yX2_isOpened, Cond.instanceMethod yX2_isOpened, Cond.selects RX2 yX2_isOpened yX2_isOpened, Cond.code yX2_isOpened cX2_isOpened 1 (some .boolean), Cond.methodLink RX2 45 yX2_get_, Cond.methodLink RX4 168 yX2_bidsInAll, Cond.instanceMethod yX2_bidsInAll, Cond.selects RX2 yX2_bidsInAll yX2_bidsInAll, Cond.code yX2_bidsInAll cX2_bidsInAll 3 (some .int), Cond.methodLink RX2 37 yX2_bidsOfBidder]
def wsX4_count_r2 : List Cond := [Cond.instanceMethod yX2_bidsOfBidder, Cond.selects RX2 yX2_bidsOfBidder yX2_bidsOfBidder, Cond.code yX2_bidsOfBidder cX2_bidsOfBidder 4 (some .int), Cond.methodLink RX2 33 yX2_hasBid, Cond.instanceMethod yX2_hasBid, Cond.selects RX2 yX2_hasBid yX2_hasBid, Cond.code yX2_hasBid cX2_hasBid 3 (some .boolean), Cond.methodLink RX2 29 yX2_ofBid, Cond.instanceMethod yX2_ofBid, Cond.selects RX2 yX2_ofBid yX2_ofBid, Cond.code yX2_ofBid cX2_ofBid 4 (some .int), Cond.methodLink RX2 26 yX2_placeOfBid, Cond.static yX2_placeOfBid, Cond.code yX2_placeOfBid cX2_placeOfBid 2 (some .int), Cond.methodLink RX4 171 yX2_sum, Cond.instanceMethod yX2_sum, Cond.selects RX2 yX2_sum yX2_sum, Cond.code yX2_sum cX2_sum 5 (some .int), Cond.methodLink RX4 143 yX0_savedStates, Cond.instanceMethod yX0_savedStates, Cond.selects RX0 yX0_savedStates yX0_savedStates, Cond.initialized RX0, Cond.code yX0_savedStates cX0_savedStates 1 (some .int), Cond.fieldLink RX0 18 "SealedSpots$History" "saved" "I"]
def wsX4_count : List Cond := .code yX4_count cX4_count 2 (some .int) :: ((wsX4_count_r1 ++ wsX4_count_r2) ++ wsX40 ++ wsX20 ++ wsX00 ++ (vx_atS RX4 121 "java/lang/IllegalArgumentException" ["java/lang/RuntimeException", "java/lang/Exception"]).filter goodWord)
def wsX4_setting : List Cond := .code yX4_setting cX4_setting 2 (some .int) :: ([.fieldLink RX4 12 "SealedSpots" "state" "LSealedSpots$State;", .methodLink RX4 37 yX4_needPlace, .static yX4_needPlace, .initialized RX4, .code yX4_needPlace cX4_needPlace 2 none, .classLink RX4 263 "java/lang/IndexOutOfBoundsException", .initialized "java/lang/IndexOutOfBoundsException", .methodLink RX4 49 yX2_get, .instanceMethod yX2_get, .selects RX2 yX2_get yX2_get, .initialized RX2, .code yX2_get cX2_get 4 (some .int), .fieldLink RX2 11 "SealedSpots$State" "row" "[I"] ++ wsX40 ++ wsX20 ++ (vx_atS RX4 267 "java/lang/IndexOutOfBoundsException" ["java/lang/RuntimeException", "java/lang/Exception"]).filter goodWord)
def wsX4_why_r1 : List Cond := [Cond.fieldLink RX4 12 "SealedSpots" "state" "LSealedSpots$State;", Cond.methodLink RX4 37 yX4_needPlace, Cond.static yX4_needPlace, Cond.initialized RX4, Cond.code yX4_needPlace cX4_needPlace 2 none, Cond.classLink RX4 263 "java/lang/IndexOutOfBoundsException", Cond.initialized "java/lang/IndexOutOfBoundsException", Cond.methodLink RX4 41 yX4_needRange, Cond.static yX4_needRange, Cond.code yX4_needRange cX4_needRange 3 none, Cond.classLink RX4 117 "java/lang/IllegalArgumentException", Cond.initialized "java/lang/IllegalArgumentException", Cond.methodLink RX4 69 yX2_whyNotSealed, Cond.instanceMethod yX2_whyNotSealed, Cond.selects RX2 yX2_whyNotSealed yX2_whyNotSealed, Cond.initialized RX2, Cond.code yX2_whyNotSealed cX2_whyNotSealed 4 (some .int), Cond.methodLink RX2 41 yX2_isOpened, Cond.instanceMethod yX2_isOpened, Cond.selects RX2 yX2_isOpened yX2_isOpened, Cond.code yX2_isOpened cX2_isOpened 1 (some .boolean), Cond.methodLink RX2 45 yX2_get_, Cond.instanceMethod yX2_get_, Cond.selects RX2 yX2_get_ yX2_get_]
def wsX4_why_r2 : List Cond := [Cond.code yX2_get_ cX2_get_ 2 (some .int), Cond.methodLink RX2 22 yX2_get, Cond.instanceMethod yX2_get, Cond.selects RX2 yX2_get yX2_get, Cond.code yX2_get cX2_get 4 (some .int), Cond.fieldLink RX2 11 "SealedSpots$State" "row" "[I", Cond.methodLink RX2 33 yX2_hasBid, Cond.instanceMethod yX2_hasBid, Cond.selects RX2 yX2_hasBid yX2_hasBid, Cond.code yX2_hasBid cX2_hasBid 3 (some .boolean), Cond.methodLink RX2 29 yX2_ofBid, Cond.instanceMethod yX2_ofBid, Cond.selects RX2 yX2_ofBid yX2_ofBid, Cond.code yX2_ofBid cX2_ofBid 4 (some .int), Cond.methodLink RX2 26 yX2_placeOfBid, Cond.static yX2_placeOfBid, Cond.code yX2_placeOfBid cX2_placeOfBid 2 (some .int)]
def wsX4_why : List Cond := .code yX4_why cX4_why 4 (some .int) :: ((wsX4_why_r1 ++ wsX4_why_r2) ++ wsX40 ++ wsX20 ++ (vx_atS RX4 267 "java/lang/IndexOutOfBoundsException" ["java/lang/RuntimeException", "java/lang/Exception"]).filter goodWord ++ (vx_atS RX4 121 "java/lang/IllegalArgumentException" ["java/lang/RuntimeException", "java/lang/Exception"]).filter goodWord)
def wsX4_worth_r1 : List Cond := [Cond.fieldLink RX4 19 "SealedSpots" "sharing" "LSealedSpots$Sharing;", Cond.methodLink RX4 41 yX4_needRange, Cond.static yX4_needRange, Cond.initialized RX4, Cond.code yX4_needRange cX4_needRange 3 none, Cond.classLink RX4 117 "java/lang/IllegalArgumentException", Cond.initialized "java/lang/IllegalArgumentException", Cond.methodLink RX4 176 yX4_findSharing, Cond.instanceMethod yX4_findSharing, Cond.selects RX4 yX4_findSharing yX4_findSharing, Cond.code yX4_findSharing cX4_findSharing 1 none, Cond.fieldLink RX4 12 "SealedSpots" "state" "LSealedSpots$State;", Cond.methodLink RX4 192 yX1_readBids, Cond.instanceMethod yX1_readBids, Cond.selects RX1 yX1_readBids yX1_readBids, Cond.initialized RX1, Cond.code yX1_readBids cX1_readBids 5 none, Cond.methodLink RX1 30 yX2_ofBid, Cond.instanceMethod yX2_ofBid, Cond.selects RX2 yX2_ofBid yX2_ofBid, Cond.initialized RX2, Cond.code yX2_ofBid cX2_ofBid 4 (some .int), Cond.methodLink RX2 26 yX2_placeOfBid, Cond.static yX2_placeOfBid]
def wsX4_worth_r2 : List Cond := [Cond.code yX2_placeOfBid cX2_placeOfBid 2 (some .int), Cond.methodLink RX2 22 yX2_get, Cond.instanceMethod yX2_get, Cond.selects RX2 yX2_get yX2_get, Cond.code yX2_get cX2_get 4 (some .int), Cond.fieldLink RX2 11 "SealedSpots$State" "row" "[I", Cond.methodLink RX1 34 yX1_keyOf, Cond.static yX1_keyOf, Cond.code yX1_keyOf cX1_keyOf 7 (some .long), Cond.constantLong RX1 28 (262144), Cond.methodLink RX1 20 yX2_get, Cond.methodLink RX1 24 yX1_digitShift, Cond.static yX1_digitShift, Cond.code yX1_digitShift cX1_digitShift 1 (some .int), Cond.methodLink RX1 38 yX1_replaceBid, Cond.instanceMethod yX1_replaceBid, Cond.selects RX1 yX1_replaceBid yX1_replaceBid, Cond.code yX1_replaceBid cX1_replaceBid 6 none, Cond.fieldLink RX1 11 "SealedSpots$Sharing" "keys" "[J", Cond.methodLink RX4 203 yX1_find, Cond.instanceMethod yX1_find, Cond.selects RX1 yX1_find yX1_find, Cond.code yX1_find cX1_find 3 none, Cond.fieldLink RX1 15 "SealedSpots$Sharing" "most" "[J"]
def wsX4_worth_r3 : List Cond := [Cond.methodLink RX1 42 yX1_lookAtSpot, Cond.instanceMethod yX1_lookAtSpot, Cond.selects RX1 yX1_lookAtSpot yX1_lookAtSpot, Cond.code yX1_lookAtSpot cX1_lookAtSpot 8 none, Cond.methodLink RX1 61 Lib.MathLoose.max_long.x, Cond.static Lib.MathLoose.max_long.x, Cond.initialized "java/lang/Math", Cond.code Lib.MathLoose.max_long.x Lib.MathLoose.max_long.code 4 (some .long), Cond.methodLink RX1 46 yX1_isIn, Cond.static yX1_isIn, Cond.code yX1_isIn cX1_isIn 2 (some .boolean), Cond.methodLink RX1 50 yX1_keyIn, Cond.static yX1_keyIn, Cond.code yX1_keyIn cX1_keyIn 4 (some .long), Cond.methodLink RX1 54 yX1_setWithout, Cond.static yX1_setWithout, Cond.code yX1_setWithout cX1_setWithout 2 (some .int), Cond.methodLink RX1 57 yX1_mostOf, Cond.instanceMethod yX1_mostOf, Cond.selects RX1 yX1_mostOf yX1_mostOf, Cond.code yX1_mostOf cX1_mostOf 2 (some .long), Cond.methodLink RX4 179 yX1_worthByTrying, Cond.instanceMethod yX1_worthByTrying, Cond.selects RX1 yX1_worthByTrying yX1_worthByTrying]
def wsX4_worth_r4 : List Cond := [Cond.code yX1_worthByTrying cX1_worthByTrying 2 (some .int), Cond.methodLink RX1 80 yX1_tryFrom, Cond.static yX1_tryFrom, Cond.code yX1_tryFrom cX1_tryFrom 8 (some .int), Cond.methodLink RX1 84 Lib.Math.max.name, Cond.static Lib.Math.max.name, Cond.code Lib.Math.max.name Lib.Math.max.code 2 (some .int), Cond.methodLink RX1 70 yX1_worthOf, Cond.static yX1_worthOf, Cond.code yX1_worthOf cX1_worthOf 2 (some .int), Cond.methodLink RX4 182 yX1_worthWithout, Cond.instanceMethod yX1_worthWithout, Cond.selects RX1 yX1_worthWithout yX1_worthWithout, Cond.code yX1_worthWithout cX1_worthWithout 2 (some .int), Cond.methodLink RX1 67 yX1_keyWithout, Cond.instanceMethod yX1_keyWithout, Cond.selects RX1 yX1_keyWithout yX1_keyWithout, Cond.code yX1_keyWithout cX1_keyWithout 2 (some .long)]
def wsX4_worth : List Cond := .code yX4_worth cX4_worth 3 (some .int) :: ((wsX4_worth_r1 ++ (wsX4_worth_r2 ++ (wsX4_worth_r3 ++ wsX4_worth_r4))) ++ wsX40 ++ wsX20 ++ wsX10 ++ (vx_atS RX4 121 "java/lang/IllegalArgumentException" ["java/lang/RuntimeException", "java/lang/Exception"]).filter goodWord)
def wsX4_ifOpened_r1 : List Cond := [Cond.fieldLink RX4 19 "SealedSpots" "sharing" "LSealedSpots$Sharing;", Cond.fieldLink RX4 12 "SealedSpots" "state" "LSealedSpots$State;", Cond.methodLink RX4 37 yX4_needPlace, Cond.static yX4_needPlace, Cond.initialized RX4, Cond.code yX4_needPlace cX4_needPlace 2 none, Cond.classLink RX4 263 "java/lang/IndexOutOfBoundsException", Cond.initialized "java/lang/IndexOutOfBoundsException", Cond.methodLink RX4 41 yX4_needRange, Cond.static yX4_needRange, Cond.code yX4_needRange cX4_needRange 3 none, Cond.classLink RX4 117 "java/lang/IllegalArgumentException", Cond.initialized "java/lang/IllegalArgumentException", Cond.methodLink RX4 176 yX4_findSharing, Cond.instanceMethod yX4_findSharing, Cond.selects RX4 yX4_findSharing yX4_findSharing, Cond.code yX4_findSharing cX4_findSharing 1 none, Cond.methodLink RX4 192 yX1_readBids, Cond.instanceMethod yX1_readBids, Cond.selects RX1 yX1_readBids yX1_readBids, Cond.initialized RX1, Cond.code yX1_readBids cX1_readBids 5 none, Cond.methodLink RX1 30 yX2_ofBid, Cond.instanceMethod yX2_ofBid]
def wsX4_ifOpened_r2 : List Cond := [Cond.selects RX2 yX2_ofBid yX2_ofBid, Cond.initialized RX2, Cond.code yX2_ofBid cX2_ofBid 4 (some .int), Cond.methodLink RX2 26 yX2_placeOfBid, Cond.static yX2_placeOfBid, Cond.code yX2_placeOfBid cX2_placeOfBid 2 (some .int), Cond.methodLink RX2 22 yX2_get, Cond.instanceMethod yX2_get, Cond.selects RX2 yX2_get yX2_get, Cond.code yX2_get cX2_get 4 (some .int), Cond.fieldLink RX2 11 "SealedSpots$State" "row" "[I", Cond.methodLink RX1 34 yX1_keyOf, Cond.static yX1_keyOf, Cond.code yX1_keyOf cX1_keyOf 7 (some .long), Cond.constantLong RX1 28 (262144), Cond.methodLink RX1 20 yX2_get, Cond.methodLink RX1 24 yX1_digitShift, Cond.static yX1_digitShift, Cond.code yX1_digitShift cX1_digitShift 1 (some .int), Cond.methodLink RX1 38 yX1_replaceBid, Cond.instanceMethod yX1_replaceBid, Cond.selects RX1 yX1_replaceBid yX1_replaceBid, Cond.code yX1_replaceBid cX1_replaceBid 6 none, Cond.fieldLink RX1 11 "SealedSpots$Sharing" "keys" "[J"]
def wsX4_ifOpened_r3 : List Cond := [Cond.methodLink RX4 203 yX1_find, Cond.instanceMethod yX1_find, Cond.selects RX1 yX1_find yX1_find, Cond.code yX1_find cX1_find 3 none, Cond.fieldLink RX1 15 "SealedSpots$Sharing" "most" "[J", Cond.methodLink RX1 42 yX1_lookAtSpot, Cond.instanceMethod yX1_lookAtSpot, Cond.selects RX1 yX1_lookAtSpot yX1_lookAtSpot, Cond.code yX1_lookAtSpot cX1_lookAtSpot 8 none, Cond.methodLink RX1 61 Lib.MathLoose.max_long.x, Cond.static Lib.MathLoose.max_long.x, Cond.initialized "java/lang/Math", Cond.code Lib.MathLoose.max_long.x Lib.MathLoose.max_long.code 4 (some .long), Cond.methodLink RX1 46 yX1_isIn, Cond.static yX1_isIn, Cond.code yX1_isIn cX1_isIn 2 (some .boolean), Cond.methodLink RX1 50 yX1_keyIn, Cond.static yX1_keyIn, Cond.code yX1_keyIn cX1_keyIn 4 (some .long), Cond.methodLink RX1 54 yX1_setWithout, Cond.static yX1_setWithout, Cond.code yX1_setWithout cX1_setWithout 2 (some .int), Cond.methodLink RX1 57 yX1_mostOf, Cond.instanceMethod yX1_mostOf]
def wsX4_ifOpened_r4 : List Cond := [Cond.selects RX1 yX1_mostOf yX1_mostOf, Cond.code yX1_mostOf cX1_mostOf 2 (some .long), Cond.methodLink RX4 185 yX1_ownerOf, Cond.instanceMethod yX1_ownerOf, Cond.selects RX1 yX1_ownerOf yX1_ownerOf, Cond.code yX1_ownerOf cX1_ownerOf 3 (some .int), Cond.methodLink RX1 67 yX1_keyWithout, Cond.instanceMethod yX1_keyWithout, Cond.selects RX1 yX1_keyWithout yX1_keyWithout, Cond.code yX1_keyWithout cX1_keyWithout 2 (some .long), Cond.methodLink RX4 188 yX1_priceOf, Cond.instanceMethod yX1_priceOf, Cond.selects RX1 yX1_priceOf yX1_priceOf, Cond.code yX1_priceOf cX1_priceOf 5 (some .int), Cond.methodLink RX1 74 yX1_ownerOf, Cond.methodLink RX1 77 yX1_worthWithout, Cond.instanceMethod yX1_worthWithout, Cond.selects RX1 yX1_worthWithout yX1_worthWithout, Cond.code yX1_worthWithout cX1_worthWithout 2 (some .int), Cond.methodLink RX1 70 yX1_worthOf, Cond.static yX1_worthOf, Cond.code yX1_worthOf cX1_worthOf 2 (some .int)]
def wsX4_ifOpened : List Cond := .code yX4_ifOpened cX4_ifOpened 3 (some .int) :: ((wsX4_ifOpened_r1 ++ (wsX4_ifOpened_r2 ++ (wsX4_ifOpened_r3 ++ wsX4_ifOpened_r4))) ++ wsX40 ++ wsX20 ++ wsX10 ++ (vx_atS RX4 267 "java/lang/IndexOutOfBoundsException" ["java/lang/RuntimeException", "java/lang/Exception"]).filter goodWord ++ (vx_atS RX4 121 "java/lang/IllegalArgumentException" ["java/lang/RuntimeException", "java/lang/Exception"]).filter goodWord)
def wsX4_ifBid_r1 : List Cond := [Cond.fieldLink RX4 19 "SealedSpots" "sharing" "LSealedSpots$Sharing;", Cond.fieldLink RX4 12 "SealedSpots" "state" "LSealedSpots$State;", Cond.methodLink RX4 37 yX4_needPlace, Cond.static yX4_needPlace, Cond.initialized RX4, Cond.code yX4_needPlace cX4_needPlace 2 none, Cond.classLink RX4 263 "java/lang/IndexOutOfBoundsException", Cond.initialized "java/lang/IndexOutOfBoundsException", Cond.methodLink RX4 41 yX4_needRange, Cond.static yX4_needRange, Cond.code yX4_needRange cX4_needRange 3 none, Cond.classLink RX4 117 "java/lang/IllegalArgumentException", Cond.initialized "java/lang/IllegalArgumentException", Cond.methodLink RX4 192 yX1_readBids, Cond.instanceMethod yX1_readBids, Cond.selects RX1 yX1_readBids yX1_readBids, Cond.initialized RX1, Cond.code yX1_readBids cX1_readBids 5 none, Cond.methodLink RX1 30 yX2_ofBid, Cond.instanceMethod yX2_ofBid, Cond.selects RX2 yX2_ofBid yX2_ofBid, Cond.initialized RX2, Cond.code yX2_ofBid cX2_ofBid 4 (some .int), Cond.methodLink RX2 26 yX2_placeOfBid]
def wsX4_ifBid_r2 : List Cond := [Cond.static yX2_placeOfBid, Cond.code yX2_placeOfBid cX2_placeOfBid 2 (some .int), Cond.methodLink RX2 22 yX2_get, Cond.instanceMethod yX2_get, Cond.selects RX2 yX2_get yX2_get, Cond.code yX2_get cX2_get 4 (some .int), Cond.fieldLink RX2 11 "SealedSpots$State" "row" "[I", Cond.methodLink RX1 34 yX1_keyOf, Cond.static yX1_keyOf, Cond.code yX1_keyOf cX1_keyOf 7 (some .long), Cond.constantLong RX1 28 (262144), Cond.methodLink RX1 20 yX2_get, Cond.methodLink RX1 24 yX1_digitShift, Cond.static yX1_digitShift, Cond.code yX1_digitShift cX1_digitShift 1 (some .int), Cond.methodLink RX1 38 yX1_replaceBid, Cond.instanceMethod yX1_replaceBid, Cond.selects RX1 yX1_replaceBid yX1_replaceBid, Cond.code yX1_replaceBid cX1_replaceBid 6 none, Cond.fieldLink RX1 11 "SealedSpots$Sharing" "keys" "[J", Cond.methodLink RX4 195 yX1_keyOf, Cond.methodLink RX4 199 yX1_replaceBid, Cond.methodLink RX4 203 yX1_find, Cond.instanceMethod yX1_find]
def wsX4_ifBid_r3 : List Cond := [Cond.selects RX1 yX1_find yX1_find, Cond.code yX1_find cX1_find 3 none, Cond.fieldLink RX1 15 "SealedSpots$Sharing" "most" "[J", Cond.methodLink RX1 42 yX1_lookAtSpot, Cond.instanceMethod yX1_lookAtSpot, Cond.selects RX1 yX1_lookAtSpot yX1_lookAtSpot, Cond.code yX1_lookAtSpot cX1_lookAtSpot 8 none, Cond.methodLink RX1 61 Lib.MathLoose.max_long.x, Cond.static Lib.MathLoose.max_long.x, Cond.initialized "java/lang/Math", Cond.code Lib.MathLoose.max_long.x Lib.MathLoose.max_long.code 4 (some .long), Cond.methodLink RX1 46 yX1_isIn, Cond.static yX1_isIn, Cond.code yX1_isIn cX1_isIn 2 (some .boolean), Cond.methodLink RX1 50 yX1_keyIn, Cond.static yX1_keyIn, Cond.code yX1_keyIn cX1_keyIn 4 (some .long), Cond.methodLink RX1 54 yX1_setWithout, Cond.static yX1_setWithout, Cond.code yX1_setWithout cX1_setWithout 2 (some .int), Cond.methodLink RX1 57 yX1_mostOf, Cond.instanceMethod yX1_mostOf, Cond.selects RX1 yX1_mostOf yX1_mostOf, Cond.code yX1_mostOf cX1_mostOf 2 (some .long)]
def wsX4_ifBid_r4 : List Cond := [Cond.methodLink RX4 207 yX1_spotOf, Cond.instanceMethod yX1_spotOf, Cond.selects RX1 yX1_spotOf yX1_spotOf, Cond.code yX1_spotOf cX1_spotOf 3 (some .int), Cond.methodLink RX1 74 yX1_ownerOf, Cond.instanceMethod yX1_ownerOf, Cond.selects RX1 yX1_ownerOf yX1_ownerOf, Cond.code yX1_ownerOf cX1_ownerOf 3 (some .int), Cond.methodLink RX1 67 yX1_keyWithout, Cond.instanceMethod yX1_keyWithout, Cond.selects RX1 yX1_keyWithout yX1_keyWithout, Cond.code yX1_keyWithout cX1_keyWithout 2 (some .long), Cond.methodLink RX4 188 yX1_priceOf, Cond.instanceMethod yX1_priceOf, Cond.selects RX1 yX1_priceOf yX1_priceOf, Cond.code yX1_priceOf cX1_priceOf 5 (some .int), Cond.methodLink RX1 77 yX1_worthWithout, Cond.instanceMethod yX1_worthWithout, Cond.selects RX1 yX1_worthWithout yX1_worthWithout, Cond.code yX1_worthWithout cX1_worthWithout 2 (some .int), Cond.methodLink RX1 70 yX1_worthOf, Cond.static yX1_worthOf, Cond.code yX1_worthOf cX1_worthOf 2 (some .int)]
def wsX4_ifBid : List Cond := .code yX4_ifBid cX4_ifBid 6 (some .int) :: ((wsX4_ifBid_r1 ++ (wsX4_ifBid_r2 ++ (wsX4_ifBid_r3 ++ wsX4_ifBid_r4))) ++ wsX40 ++ wsX20 ++ wsX10 ++ (vx_atS RX4 267 "java/lang/IndexOutOfBoundsException" ["java/lang/RuntimeException", "java/lang/Exception"]).filter goodWord ++ (vx_atS RX4 121 "java/lang/IllegalArgumentException" ["java/lang/RuntimeException", "java/lang/Exception"]).filter goodWord)
def wsX4_leastWinning_r1 : List Cond := [Cond.fieldLink RX4 19 "SealedSpots" "sharing" "LSealedSpots$Sharing;", Cond.fieldLink RX4 12 "SealedSpots" "state" "LSealedSpots$State;", Cond.methodLink RX4 192 yX1_readBids, Cond.instanceMethod yX1_readBids, Cond.selects RX1 yX1_readBids yX1_readBids, Cond.initialized RX1, Cond.code yX1_readBids cX1_readBids 5 none, Cond.methodLink RX1 30 yX2_ofBid, Cond.instanceMethod yX2_ofBid, Cond.selects RX2 yX2_ofBid yX2_ofBid, Cond.initialized RX2, Cond.code yX2_ofBid cX2_ofBid 4 (some .int), Cond.methodLink RX2 26 yX2_placeOfBid, Cond.static yX2_placeOfBid, Cond.code yX2_placeOfBid cX2_placeOfBid 2 (some .int), Cond.methodLink RX2 22 yX2_get, Cond.instanceMethod yX2_get, Cond.selects RX2 yX2_get yX2_get, Cond.code yX2_get cX2_get 4 (some .int), Cond.fieldLink RX2 11 "SealedSpots$State" "row" "[I", Cond.methodLink RX1 34 yX1_keyOf, Cond.static yX1_keyOf, Cond.code yX1_keyOf cX1_keyOf 7 (some .long), Cond.constantLong RX1 28 (262144)]
def wsX4_leastWinning_r2 : List Cond := [Cond.methodLink RX1 20 yX2_get, Cond.methodLink RX1 24 yX1_digitShift, Cond.static yX1_digitShift, Cond.code yX1_digitShift cX1_digitShift 1 (some .int), Cond.methodLink RX1 38 yX1_replaceBid, Cond.instanceMethod yX1_replaceBid, Cond.selects RX1 yX1_replaceBid yX1_replaceBid, Cond.code yX1_replaceBid cX1_replaceBid 6 none, Cond.fieldLink RX1 11 "SealedSpots$Sharing" "keys" "[J", Cond.methodLink RX4 199 yX1_replaceBid, Cond.methodLink RX4 203 yX1_find, Cond.instanceMethod yX1_find, Cond.selects RX1 yX1_find yX1_find, Cond.code yX1_find cX1_find 3 none, Cond.fieldLink RX1 15 "SealedSpots$Sharing" "most" "[J", Cond.methodLink RX1 42 yX1_lookAtSpot, Cond.instanceMethod yX1_lookAtSpot, Cond.selects RX1 yX1_lookAtSpot yX1_lookAtSpot, Cond.code yX1_lookAtSpot cX1_lookAtSpot 8 none, Cond.methodLink RX1 61 Lib.MathLoose.max_long.x, Cond.static Lib.MathLoose.max_long.x, Cond.initialized "java/lang/Math", Cond.code Lib.MathLoose.max_long.x Lib.MathLoose.max_long.code 4 (some .long), Cond.methodLink RX1 46 yX1_isIn]
def wsX4_leastWinning_r3 : List Cond := [Cond.static yX1_isIn, Cond.code yX1_isIn cX1_isIn 2 (some .boolean), Cond.methodLink RX1 50 yX1_keyIn, Cond.static yX1_keyIn, Cond.code yX1_keyIn cX1_keyIn 4 (some .long), Cond.methodLink RX1 54 yX1_setWithout, Cond.static yX1_setWithout, Cond.code yX1_setWithout cX1_setWithout 2 (some .int), Cond.methodLink RX1 57 yX1_mostOf, Cond.instanceMethod yX1_mostOf, Cond.selects RX1 yX1_mostOf yX1_mostOf, Cond.code yX1_mostOf cX1_mostOf 2 (some .long), Cond.methodLink RX4 287 yX1_keyWithout, Cond.instanceMethod yX1_keyWithout, Cond.selects RX1 yX1_keyWithout yX1_keyWithout, Cond.code yX1_keyWithout cX1_keyWithout 2 (some .long), Cond.methodLink RX4 195 yX1_keyOf]
def wsX4_leastWinning : List Cond := .code yX4_leastWinning cX4_leastWinning 10 (some .int) :: ((wsX4_leastWinning_r1 ++ (wsX4_leastWinning_r2 ++ wsX4_leastWinning_r3)) ++ wsX40 ++ wsX20 ++ wsX10)
def wsX4_least_r1 : List Cond := [Cond.methodLink RX4 37 yX4_needPlace, Cond.static yX4_needPlace, Cond.initialized RX4, Cond.code yX4_needPlace cX4_needPlace 2 none, Cond.classLink RX4 263 "java/lang/IndexOutOfBoundsException", Cond.initialized "java/lang/IndexOutOfBoundsException", Cond.methodLink RX4 210 yX4_leastWinning, Cond.instanceMethod yX4_leastWinning, Cond.selects RX4 yX4_leastWinning yX4_leastWinning, Cond.code yX4_leastWinning cX4_leastWinning 10 (some .int), Cond.fieldLink RX4 19 "SealedSpots" "sharing" "LSealedSpots$Sharing;", Cond.fieldLink RX4 12 "SealedSpots" "state" "LSealedSpots$State;", Cond.methodLink RX4 192 yX1_readBids, Cond.instanceMethod yX1_readBids, Cond.selects RX1 yX1_readBids yX1_readBids, Cond.initialized RX1, Cond.code yX1_readBids cX1_readBids 5 none, Cond.methodLink RX1 30 yX2_ofBid, Cond.instanceMethod yX2_ofBid, Cond.selects RX2 yX2_ofBid yX2_ofBid, Cond.initialized RX2, Cond.code yX2_ofBid cX2_ofBid 4 (some .int), Cond.methodLink RX2 26 yX2_placeOfBid, Cond.static yX2_placeOfBid]
def wsX4_least_r2 : List Cond := [Cond.code yX2_placeOfBid cX2_placeOfBid 2 (some .int), Cond.methodLink RX2 22 yX2_get, Cond.instanceMethod yX2_get, Cond.selects RX2 yX2_get yX2_get, Cond.code yX2_get cX2_get 4 (some .int), Cond.fieldLink RX2 11 "SealedSpots$State" "row" "[I", Cond.methodLink RX1 34 yX1_keyOf, Cond.static yX1_keyOf, Cond.code yX1_keyOf cX1_keyOf 7 (some .long), Cond.constantLong RX1 28 (262144), Cond.methodLink RX1 20 yX2_get, Cond.methodLink RX1 24 yX1_digitShift, Cond.static yX1_digitShift, Cond.code yX1_digitShift cX1_digitShift 1 (some .int), Cond.methodLink RX1 38 yX1_replaceBid, Cond.instanceMethod yX1_replaceBid, Cond.selects RX1 yX1_replaceBid yX1_replaceBid, Cond.code yX1_replaceBid cX1_replaceBid 6 none, Cond.fieldLink RX1 11 "SealedSpots$Sharing" "keys" "[J", Cond.methodLink RX4 199 yX1_replaceBid, Cond.methodLink RX4 203 yX1_find, Cond.instanceMethod yX1_find, Cond.selects RX1 yX1_find yX1_find, Cond.code yX1_find cX1_find 3 none]
def wsX4_least_r3 : List Cond := [Cond.fieldLink RX1 15 "SealedSpots$Sharing" "most" "[J", Cond.methodLink RX1 42 yX1_lookAtSpot, Cond.instanceMethod yX1_lookAtSpot, Cond.selects RX1 yX1_lookAtSpot yX1_lookAtSpot, Cond.code yX1_lookAtSpot cX1_lookAtSpot 8 none, Cond.methodLink RX1 61 Lib.MathLoose.max_long.x, Cond.static Lib.MathLoose.max_long.x, Cond.initialized "java/lang/Math", Cond.code Lib.MathLoose.max_long.x Lib.MathLoose.max_long.code 4 (some .long), Cond.methodLink RX1 46 yX1_isIn, Cond.static yX1_isIn, Cond.code yX1_isIn cX1_isIn 2 (some .boolean), Cond.methodLink RX1 50 yX1_keyIn, Cond.static yX1_keyIn, Cond.code yX1_keyIn cX1_keyIn 4 (some .long), Cond.methodLink RX1 54 yX1_setWithout, Cond.static yX1_setWithout, Cond.code yX1_setWithout cX1_setWithout 2 (some .int), Cond.methodLink RX1 57 yX1_mostOf, Cond.instanceMethod yX1_mostOf, Cond.selects RX1 yX1_mostOf yX1_mostOf, Cond.code yX1_mostOf cX1_mostOf 2 (some .long), Cond.methodLink RX4 287 yX1_keyWithout, Cond.instanceMethod yX1_keyWithout]
def wsX4_least_r4 : List Cond := [Cond.selects RX1 yX1_keyWithout yX1_keyWithout, Cond.code yX1_keyWithout cX1_keyWithout 2 (some .long), Cond.methodLink RX4 195 yX1_keyOf]
def wsX4_least : List Cond := .code yX4_least cX4_least 3 (some .int) :: ((wsX4_least_r1 ++ (wsX4_least_r2 ++ (wsX4_least_r3 ++ wsX4_least_r4))) ++ wsX40 ++ wsX20 ++ wsX10 ++ (vx_atS RX4 267 "java/lang/IndexOutOfBoundsException" ["java/lang/RuntimeException", "java/lang/Exception"]).filter goodWord)
def wsX4_keenest_r1 : List Cond := [Cond.fieldLink RX4 19 "SealedSpots" "sharing" "LSealedSpots$Sharing;", Cond.methodLink RX4 176 yX4_findSharing, Cond.instanceMethod yX4_findSharing, Cond.selects RX4 yX4_findSharing yX4_findSharing, Cond.initialized RX4, Cond.code yX4_findSharing cX4_findSharing 1 none, Cond.fieldLink RX4 12 "SealedSpots" "state" "LSealedSpots$State;", Cond.methodLink RX4 192 yX1_readBids, Cond.instanceMethod yX1_readBids, Cond.selects RX1 yX1_readBids yX1_readBids, Cond.initialized RX1, Cond.code yX1_readBids cX1_readBids 5 none, Cond.methodLink RX1 30 yX2_ofBid, Cond.instanceMethod yX2_ofBid, Cond.selects RX2 yX2_ofBid yX2_ofBid, Cond.initialized RX2, Cond.code yX2_ofBid cX2_ofBid 4 (some .int), Cond.methodLink RX2 26 yX2_placeOfBid, Cond.static yX2_placeOfBid, Cond.code yX2_placeOfBid cX2_placeOfBid 2 (some .int), Cond.methodLink RX2 22 yX2_get, Cond.instanceMethod yX2_get, Cond.selects RX2 yX2_get yX2_get, Cond.code yX2_get cX2_get 4 (some .int)]
def wsX4_keenest_r2 : List Cond := [Cond.fieldLink RX2 11 "SealedSpots$State" "row" "[I", Cond.methodLink RX1 34 yX1_keyOf, Cond.static yX1_keyOf, Cond.code yX1_keyOf cX1_keyOf 7 (some .long), Cond.constantLong RX1 28 (262144), Cond.methodLink RX1 20 yX2_get, Cond.methodLink RX1 24 yX1_digitShift, Cond.static yX1_digitShift, Cond.code yX1_digitShift cX1_digitShift 1 (some .int), Cond.methodLink RX1 38 yX1_replaceBid, Cond.instanceMethod yX1_replaceBid, Cond.selects RX1 yX1_replaceBid yX1_replaceBid, Cond.code yX1_replaceBid cX1_replaceBid 6 none, Cond.fieldLink RX1 11 "SealedSpots$Sharing" "keys" "[J", Cond.methodLink RX4 203 yX1_find, Cond.instanceMethod yX1_find, Cond.selects RX1 yX1_find yX1_find, Cond.code yX1_find cX1_find 3 none, Cond.fieldLink RX1 15 "SealedSpots$Sharing" "most" "[J", Cond.methodLink RX1 42 yX1_lookAtSpot, Cond.instanceMethod yX1_lookAtSpot, Cond.selects RX1 yX1_lookAtSpot yX1_lookAtSpot, Cond.code yX1_lookAtSpot cX1_lookAtSpot 8 none, Cond.methodLink RX1 61 Lib.MathLoose.max_long.x]
def wsX4_keenest_r3 : List Cond := [Cond.static Lib.MathLoose.max_long.x, Cond.initialized "java/lang/Math", Cond.code Lib.MathLoose.max_long.x Lib.MathLoose.max_long.code 4 (some .long), Cond.methodLink RX1 46 yX1_isIn, Cond.static yX1_isIn, Cond.code yX1_isIn cX1_isIn 2 (some .boolean), Cond.methodLink RX1 50 yX1_keyIn, Cond.static yX1_keyIn, Cond.code yX1_keyIn cX1_keyIn 4 (some .long), Cond.methodLink RX1 54 yX1_setWithout, Cond.static yX1_setWithout, Cond.code yX1_setWithout cX1_setWithout 2 (some .int), Cond.methodLink RX1 57 yX1_mostOf, Cond.instanceMethod yX1_mostOf, Cond.selects RX1 yX1_mostOf yX1_mostOf, Cond.code yX1_mostOf cX1_mostOf 2 (some .long), Cond.methodLink RX4 182 yX1_worthWithout, Cond.instanceMethod yX1_worthWithout, Cond.selects RX1 yX1_worthWithout yX1_worthWithout, Cond.code yX1_worthWithout cX1_worthWithout 2 (some .int), Cond.methodLink RX1 67 yX1_keyWithout, Cond.instanceMethod yX1_keyWithout, Cond.selects RX1 yX1_keyWithout yX1_keyWithout, Cond.code yX1_keyWithout cX1_keyWithout 2 (some .long)]
def wsX4_keenest_r4 : List Cond := [Cond.methodLink RX1 70 yX1_worthOf, Cond.static yX1_worthOf, Cond.code yX1_worthOf cX1_worthOf 2 (some .int)]
def wsX4_keenest : List Cond := .code yX4_keenest cX4_keenest 3 (some .int) :: ((wsX4_keenest_r1 ++ (wsX4_keenest_r2 ++ (wsX4_keenest_r3 ++ wsX4_keenest_r4))) ++ wsX40 ++ wsX20 ++ wsX10)
def wsX4_chestShare_r1 : List Cond := [Cond.methodLink RX4 213 yX4_count, Cond.instanceMethod yX4_count, Cond.selects RX4 yX4_count yX4_count, Cond.initialized RX4, Cond.code yX4_count cX4_count 2 (some .int), Cond.classLink RX4 117 "java/lang/IllegalArgumentException", Cond.initialized "java/lang/IllegalArgumentException", Cond.fieldLink RX4 12 "SealedSpots" "state" "LSealedSpots$State;", Cond.fieldLink RX4 26 "SealedSpots" "history" "LSealedSpots$History;", Cond.methodLink RX4 56 yX2_get_, Cond.instanceMethod yX2_get_, Cond.selects RX2 yX2_get_ yX2_get_, Cond.initialized RX2, Cond.code yX2_get_ cX2_get_ 2 (some .int), Cond.methodLink RX2 22 yX2_get, Cond.instanceMethod yX2_get, Cond.selects RX2 yX2_get yX2_get, Cond.code yX2_get cX2_get 4 (some .int), Cond.fieldLink RX2 11 "SealedSpots$State" "row" "[I", Cond.methodLink RX4 85 yX2_isOpened, Cond.instanceMethod yX2_isOpened, Cond.selects RX2 yX2_isOpened yX2_isOpened, Cond.code yX2_isOpened cX2_isOpened 1 (some .boolean), Cond.methodLink RX2 45 yX2_get_]
def wsX4_chestShare_r2 : List Cond := [Cond.methodLink RX4 168 yX2_bidsInAll, Cond.instanceMethod yX2_bidsInAll, Cond.selects RX2 yX2_bidsInAll yX2_bidsInAll, Cond.code yX2_bidsInAll cX2_bidsInAll 3 (some .int), Cond.methodLink RX2 37 yX2_bidsOfBidder, Cond.instanceMethod yX2_bidsOfBidder, Cond.selects RX2 yX2_bidsOfBidder yX2_bidsOfBidder, Cond.code yX2_bidsOfBidder cX2_bidsOfBidder 4 (some .int), Cond.methodLink RX2 33 yX2_hasBid, Cond.instanceMethod yX2_hasBid, Cond.selects RX2 yX2_hasBid yX2_hasBid, Cond.code yX2_hasBid cX2_hasBid 3 (some .boolean), Cond.methodLink RX2 29 yX2_ofBid, Cond.instanceMethod yX2_ofBid, Cond.selects RX2 yX2_ofBid yX2_ofBid, Cond.code yX2_ofBid cX2_ofBid 4 (some .int), Cond.methodLink RX2 26 yX2_placeOfBid, Cond.static yX2_placeOfBid, Cond.code yX2_placeOfBid cX2_placeOfBid 2 (some .int), Cond.methodLink RX4 171 yX2_sum, Cond.instanceMethod yX2_sum, Cond.selects RX2 yX2_sum yX2_sum, Cond.code yX2_sum cX2_sum 5 (some .int), Cond.methodLink RX4 143 yX0_savedStates]
def wsX4_chestShare_r3 : List Cond := [Cond.instanceMethod yX0_savedStates, Cond.selects RX0 yX0_savedStates yX0_savedStates, Cond.initialized RX0, Cond.code yX0_savedStates cX0_savedStates 1 (some .int), Cond.fieldLink RX0 18 "SealedSpots$History" "saved" "I"]
def wsX4_chestShare : List Cond := .code yX4_chestShare cX4_chestShare 2 (some .double) :: ((wsX4_chestShare_r1 ++ (wsX4_chestShare_r2 ++ wsX4_chestShare_r3)) ++ wsX40 ++ wsX20 ++ wsX00 ++ (vx_atS RX4 121 "java/lang/IllegalArgumentException" ["java/lang/RuntimeException", "java/lang/Exception"]).filter goodWord)
def wsX4_meanPrice_r1 : List Cond := [Cond.methodLink RX4 213 yX4_count, Cond.instanceMethod yX4_count, Cond.selects RX4 yX4_count yX4_count, Cond.initialized RX4, Cond.code yX4_count cX4_count 2 (some .int), Cond.classLink RX4 117 "java/lang/IllegalArgumentException", Cond.initialized "java/lang/IllegalArgumentException", Cond.fieldLink RX4 12 "SealedSpots" "state" "LSealedSpots$State;", Cond.fieldLink RX4 26 "SealedSpots" "history" "LSealedSpots$History;", Cond.methodLink RX4 56 yX2_get_, Cond.instanceMethod yX2_get_, Cond.selects RX2 yX2_get_ yX2_get_, Cond.initialized RX2, Cond.code yX2_get_ cX2_get_ 2 (some .int), Cond.methodLink RX2 22 yX2_get, Cond.instanceMethod yX2_get, Cond.selects RX2 yX2_get yX2_get, Cond.code yX2_get cX2_get 4 (some .int), Cond.fieldLink RX2 11 "SealedSpots$State" "row" "[I", Cond.methodLink RX4 85 yX2_isOpened, Cond.instanceMethod yX2_isOpened, Cond.selects RX2 yX2_isOpened yX2_isOpened, Cond.code yX2_isOpened cX2_isOpened 1 (some .boolean), Cond.methodLink RX2 45 yX2_get_]
def wsX4_meanPrice_r2 : List Cond := [Cond.methodLink RX4 168 yX2_bidsInAll, Cond.instanceMethod yX2_bidsInAll, Cond.selects RX2 yX2_bidsInAll yX2_bidsInAll, Cond.code yX2_bidsInAll cX2_bidsInAll 3 (some .int), Cond.methodLink RX2 37 yX2_bidsOfBidder, Cond.instanceMethod yX2_bidsOfBidder, Cond.selects RX2 yX2_bidsOfBidder yX2_bidsOfBidder, Cond.code yX2_bidsOfBidder cX2_bidsOfBidder 4 (some .int), Cond.methodLink RX2 33 yX2_hasBid, Cond.instanceMethod yX2_hasBid, Cond.selects RX2 yX2_hasBid yX2_hasBid, Cond.code yX2_hasBid cX2_hasBid 3 (some .boolean), Cond.methodLink RX2 29 yX2_ofBid, Cond.instanceMethod yX2_ofBid, Cond.selects RX2 yX2_ofBid yX2_ofBid, Cond.code yX2_ofBid cX2_ofBid 4 (some .int), Cond.methodLink RX2 26 yX2_placeOfBid, Cond.static yX2_placeOfBid, Cond.code yX2_placeOfBid cX2_placeOfBid 2 (some .int), Cond.methodLink RX4 171 yX2_sum, Cond.instanceMethod yX2_sum, Cond.selects RX2 yX2_sum yX2_sum, Cond.code yX2_sum cX2_sum 5 (some .int), Cond.methodLink RX4 143 yX0_savedStates]
def wsX4_meanPrice_r3 : List Cond := [Cond.instanceMethod yX0_savedStates, Cond.selects RX0 yX0_savedStates yX0_savedStates, Cond.initialized RX0, Cond.code yX0_savedStates cX0_savedStates 1 (some .int), Cond.fieldLink RX0 18 "SealedSpots$History" "saved" "I"]
def wsX4_meanPrice : List Cond := .code yX4_meanPrice cX4_meanPrice 2 (some .float) :: ((wsX4_meanPrice_r1 ++ (wsX4_meanPrice_r2 ++ wsX4_meanPrice_r3)) ++ wsX40 ++ wsX20 ++ wsX00 ++ (vx_atS RX4 121 "java/lang/IllegalArgumentException" ["java/lang/RuntimeException", "java/lang/Exception"]).filter goodWord)
def wsJ9_max_7cf53 : List Cond := .code yJ9_max_7cf53 cJ9_max_7cf53 2 (some .int) :: ([])
def wsJ9_max_f86c9 : List Cond := .code yJ9_max_f86c9 cJ9_max_f86c9 4 (some .long) :: ([])
def wsJ9_min_7cf53 : List Cond := .code yJ9_min_7cf53 cJ9_min_7cf53 2 (some .int) :: ([])
def wsL_cell : List Cond := .code yL_cell cL_cell 2 (some .int) :: ([.constant RL 7 (1812433253)])
def wsL_up : List Cond := .code yL_up cL_up 2 (some .int) :: ([.constant RL 8 (2147483647)])
def wsL_looks_r1 : List Cond := [Cond.constantLong RL 9 (113), Cond.constantLong RL 11 (31), Cond.constantLong RL 33 (100), Cond.constantLong RL 35 (1000), Cond.methodLink RL 13 yX4_count, Cond.instanceMethod yX4_count, Cond.selects RX4 yX4_count yX4_count, Cond.initialized RX4, Cond.code yX4_count cX4_count 2 (some .int), Cond.classLink RX4 117 "java/lang/IllegalArgumentException", Cond.initialized "java/lang/IllegalArgumentException", Cond.fieldLink RX4 12 "SealedSpots" "state" "LSealedSpots$State;", Cond.fieldLink RX4 26 "SealedSpots" "history" "LSealedSpots$History;", Cond.methodLink RX4 56 yX2_get_, Cond.instanceMethod yX2_get_, Cond.selects RX2 yX2_get_ yX2_get_, Cond.initialized RX2, Cond.code yX2_get_ cX2_get_ 2 (some .int), Cond.methodLink RX2 22 yX2_get, Cond.instanceMethod yX2_get, Cond.selects RX2 yX2_get yX2_get, Cond.code yX2_get cX2_get 4 (some .int), Cond.fieldLink RX2 11 "SealedSpots$State" "row" "[I", Cond.methodLink RX4 85 yX2_isOpened]
def wsL_looks_r2 : List Cond := [Cond.instanceMethod yX2_isOpened, Cond.selects RX2 yX2_isOpened yX2_isOpened, Cond.code yX2_isOpened cX2_isOpened 1 (some .boolean), Cond.methodLink RX2 45 yX2_get_, Cond.methodLink RX4 168 yX2_bidsInAll, Cond.instanceMethod yX2_bidsInAll, Cond.selects RX2 yX2_bidsInAll yX2_bidsInAll, Cond.code yX2_bidsInAll cX2_bidsInAll 3 (some .int), Cond.methodLink RX2 37 yX2_bidsOfBidder, Cond.instanceMethod yX2_bidsOfBidder, Cond.selects RX2 yX2_bidsOfBidder yX2_bidsOfBidder, Cond.code yX2_bidsOfBidder cX2_bidsOfBidder 4 (some .int), Cond.methodLink RX2 33 yX2_hasBid, Cond.instanceMethod yX2_hasBid, Cond.selects RX2 yX2_hasBid yX2_hasBid, Cond.code yX2_hasBid cX2_hasBid 3 (some .boolean), Cond.methodLink RX2 29 yX2_ofBid, Cond.instanceMethod yX2_ofBid, Cond.selects RX2 yX2_ofBid yX2_ofBid, Cond.code yX2_ofBid cX2_ofBid 4 (some .int), Cond.methodLink RX2 26 yX2_placeOfBid, Cond.static yX2_placeOfBid, Cond.code yX2_placeOfBid cX2_placeOfBid 2 (some .int), Cond.methodLink RX4 171 yX2_sum]
def wsL_looks_r3 : List Cond := [Cond.instanceMethod yX2_sum, Cond.selects RX2 yX2_sum yX2_sum, Cond.code yX2_sum cX2_sum 5 (some .int), Cond.methodLink RX4 143 yX0_savedStates, Cond.instanceMethod yX0_savedStates, Cond.selects RX0 yX0_savedStates yX0_savedStates, Cond.initialized RX0, Cond.code yX0_savedStates cX0_savedStates 1 (some .int), Cond.fieldLink RX0 18 "SealedSpots$History" "saved" "I", Cond.methodLink RL 19 yX4_spot, Cond.instanceMethod yX4_spot, Cond.selects RX4 yX4_spot yX4_spot, Cond.code yX4_spot cX4_spot 3 (some .int), Cond.methodLink RX4 37 yX4_needPlace, Cond.static yX4_needPlace, Cond.code yX4_needPlace cX4_needPlace 2 none, Cond.classLink RX4 263 "java/lang/IndexOutOfBoundsException", Cond.initialized "java/lang/IndexOutOfBoundsException", Cond.methodLink RX4 49 yX2_get, Cond.methodLink RX4 149 yX2_bidsForSpot, Cond.instanceMethod yX2_bidsForSpot, Cond.selects RX2 yX2_bidsForSpot yX2_bidsForSpot, Cond.code yX2_bidsForSpot cX2_bidsForSpot 4 (some .int), Cond.methodLink RL 23 yX4_bidder]
def wsL_looks_r4 : List Cond := [Cond.instanceMethod yX4_bidder, Cond.selects RX4 yX4_bidder yX4_bidder, Cond.code yX4_bidder cX4_bidder 3 (some .int), Cond.methodLink RX4 154 yX2_bidsOfBidder, Cond.methodLink RX4 157 yX2_spotOfOwner, Cond.instanceMethod yX2_spotOfOwner, Cond.selects RX2 yX2_spotOfOwner yX2_spotOfOwner, Cond.code yX2_spotOfOwner cX2_spotOfOwner 3 (some .int), Cond.methodLink RL 26 yX4_sealed, Cond.instanceMethod yX4_sealed, Cond.selects RX4 yX4_sealed yX4_sealed, Cond.code yX4_sealed cX4_sealed 4 (some .int), Cond.methodLink RX4 41 yX4_needRange, Cond.static yX4_needRange, Cond.code yX4_needRange cX4_needRange 3 none, Cond.methodLink RX4 76 yX2_whyNotWithdrawn, Cond.instanceMethod yX2_whyNotWithdrawn, Cond.selects RX2 yX2_whyNotWithdrawn yX2_whyNotWithdrawn, Cond.code yX2_whyNotWithdrawn cX2_whyNotWithdrawn 3 (some .int), Cond.methodLink RX2 41 yX2_isOpened, Cond.methodLink RX2 50 yX2_feeFor, Cond.instanceMethod yX2_feeFor, Cond.selects RX2 yX2_feeFor yX2_feeFor, Cond.code yX2_feeFor cX2_feeFor 4 (some .int)]
def wsL_looks_r5 : List Cond := [Cond.methodLink RX4 162 yX2_hasBid, Cond.methodLink RX4 165 yX4_numberOfBid, Cond.instanceMethod yX4_numberOfBid, Cond.selects RX4 yX4_numberOfBid yX4_numberOfBid, Cond.code yX4_numberOfBid cX4_numberOfBid 4 (some .int), Cond.methodLink RX4 275 yX2_ofBid, Cond.methodLink RX4 278 yX2_feeFor, Cond.methodLink RL 30 yX4_setting, Cond.instanceMethod yX4_setting, Cond.selects RX4 yX4_setting yX4_setting, Cond.code yX4_setting cX4_setting 2 (some .int)]
def wsL_looks : List Cond := .code yL_looks cL_looks 4 (some .long) :: ((wsL_looks_r1 ++ (wsL_looks_r2 ++ (wsL_looks_r3 ++ (wsL_looks_r4 ++ wsL_looks_r5)))) ++ wsX40 ++ wsX20 ++ wsX00 ++ (vx_atS RX4 121 "java/lang/IllegalArgumentException" ["java/lang/RuntimeException", "java/lang/Exception"]).filter goodWord ++ (vx_atS RX4 267 "java/lang/IndexOutOfBoundsException" ["java/lang/RuntimeException", "java/lang/Exception"]).filter goodWord)
def wsL_act_r1 : List Cond := [Cond.methodLink RL 37 yL_up, Cond.static yL_up, Cond.initialized RL, Cond.code yL_up cL_up 2 (some .int), Cond.constant RL 8 (2147483647), Cond.methodLink RL 42 yX4_price, Cond.instanceMethod yX4_price, Cond.selects RX4 yX4_price yX4_price, Cond.initialized RX4, Cond.code yX4_price cX4_price 4 (some .int), Cond.fieldLink RX4 26 "SealedSpots" "history" "LSealedSpots$History;", Cond.fieldLink RX4 12 "SealedSpots" "state" "LSealedSpots$State;", Cond.methodLink RX4 37 yX4_needPlace, Cond.static yX4_needPlace, Cond.code yX4_needPlace cX4_needPlace 2 none, Cond.classLink RX4 263 "java/lang/IndexOutOfBoundsException", Cond.initialized "java/lang/IndexOutOfBoundsException", Cond.methodLink RX4 41 yX4_needRange, Cond.static yX4_needRange, Cond.code yX4_needRange cX4_needRange 3 none, Cond.classLink RX4 117 "java/lang/IllegalArgumentException", Cond.initialized "java/lang/IllegalArgumentException", Cond.methodLink RX4 45 yX0_save, Cond.instanceMethod yX0_save]
def wsL_act_r2 : List Cond := [Cond.selects RX0 yX0_save yX0_save, Cond.initialized RX0, Cond.code yX0_save cX0_save 2 none, Cond.fieldLink RX0 18 "SealedSpots$History" "saved" "I", Cond.fieldLink RX0 11 "SealedSpots$History" "rows" "[I", Cond.methodLink RX0 22 yX0_dropOldest, Cond.instanceMethod yX0_dropOldest, Cond.selects RX0 yX0_dropOldest yX0_dropOldest, Cond.code yX0_dropOldest cX0_dropOldest 2 none, Cond.methodLink RX0 25 yX2_copyTo, Cond.instanceMethod yX2_copyTo, Cond.selects RX2 yX2_copyTo yX2_copyTo, Cond.initialized RX2, Cond.code yX2_copyTo cX2_copyTo 5 none, Cond.methodLink RX2 45 yX2_get_, Cond.instanceMethod yX2_get_, Cond.selects RX2 yX2_get_ yX2_get_, Cond.code yX2_get_ cX2_get_ 2 (some .int), Cond.methodLink RX2 22 yX2_get, Cond.instanceMethod yX2_get, Cond.selects RX2 yX2_get yX2_get, Cond.code yX2_get cX2_get 4 (some .int), Cond.fieldLink RX2 11 "SealedSpots$State" "row" "[I", Cond.methodLink RX4 49 yX2_get]
def wsL_act_r3 : List Cond := [Cond.methodLink RX4 53 yX2_put, Cond.instanceMethod yX2_put, Cond.selects RX2 yX2_put yX2_put, Cond.code yX2_put cX2_put 5 none, Cond.methodLink RL 45 yX4_pay, Cond.instanceMethod yX4_pay, Cond.selects RX4 yX4_pay yX4_pay, Cond.code yX4_pay cX4_pay 3 (some .int), Cond.methodLink RX4 56 yX2_get_, Cond.methodLink RX4 59 yX4_needState, Cond.static yX4_needState, Cond.code yX4_needState cX4_needState 1 none, Cond.classLink RX4 270 "java/lang/IllegalStateException", Cond.initialized "java/lang/IllegalStateException", Cond.methodLink RX4 63 yX2_add, Cond.instanceMethod yX2_add, Cond.selects RX2 yX2_add yX2_add, Cond.code yX2_add cX2_add 4 none, Cond.methodLink RX2 19 yX2_put, Cond.methodLink RL 48 yX4_set, Cond.instanceMethod yX4_set, Cond.selects RX4 yX4_set yX4_set, Cond.code yX4_set cX4_set 4 (some .int), Cond.methodLink RX4 66 yX2_mostOfSetting]
def wsL_act_r4 : List Cond := [Cond.static yX2_mostOfSetting, Cond.code yX2_mostOfSetting cX2_mostOfSetting 1 (some .int), Cond.methodLink RL 51 yX4_pause, Cond.instanceMethod yX4_pause, Cond.selects RX4 yX4_pause yX4_pause, Cond.code yX4_pause cX4_pause 2 (some .int), Cond.methodLink RX4 82 yX2_passHours, Cond.instanceMethod yX2_passHours, Cond.selects RX2 yX2_passHours yX2_passHours, Cond.code yX2_passHours cX2_passHours 2 (some .int), Cond.methodLink RX2 57 Lib.Math.min.name, Cond.static Lib.Math.min.name, Cond.initialized "java/lang/Math", Cond.code Lib.Math.min.name Lib.Math.min.code 2 (some .int), Cond.methodLink RL 26 yX4_sealed, Cond.instanceMethod yX4_sealed, Cond.selects RX4 yX4_sealed yX4_sealed, Cond.code yX4_sealed cX4_sealed 4 (some .int), Cond.methodLink RX4 76 yX2_whyNotWithdrawn, Cond.instanceMethod yX2_whyNotWithdrawn, Cond.selects RX2 yX2_whyNotWithdrawn yX2_whyNotWithdrawn, Cond.code yX2_whyNotWithdrawn cX2_whyNotWithdrawn 3 (some .int), Cond.methodLink RX2 41 yX2_isOpened, Cond.instanceMethod yX2_isOpened]
def wsL_act_r5 : List Cond := [Cond.selects RX2 yX2_isOpened yX2_isOpened, Cond.code yX2_isOpened cX2_isOpened 1 (some .boolean), Cond.methodLink RX2 33 yX2_hasBid, Cond.instanceMethod yX2_hasBid, Cond.selects RX2 yX2_hasBid yX2_hasBid, Cond.code yX2_hasBid cX2_hasBid 3 (some .boolean), Cond.methodLink RX2 29 yX2_ofBid, Cond.instanceMethod yX2_ofBid, Cond.selects RX2 yX2_ofBid yX2_ofBid, Cond.code yX2_ofBid cX2_ofBid 4 (some .int), Cond.methodLink RX2 26 yX2_placeOfBid, Cond.static yX2_placeOfBid, Cond.code yX2_placeOfBid cX2_placeOfBid 2 (some .int), Cond.methodLink RX2 50 yX2_feeFor, Cond.instanceMethod yX2_feeFor, Cond.selects RX2 yX2_feeFor yX2_feeFor, Cond.code yX2_feeFor cX2_feeFor 4 (some .int), Cond.methodLink RX4 162 yX2_hasBid, Cond.methodLink RX4 165 yX4_numberOfBid, Cond.instanceMethod yX4_numberOfBid, Cond.selects RX4 yX4_numberOfBid yX4_numberOfBid, Cond.code yX4_numberOfBid cX4_numberOfBid 4 (some .int), Cond.methodLink RX4 275 yX2_ofBid, Cond.methodLink RX4 85 yX2_isOpened]
def wsL_act_r6 : List Cond := [Cond.methodLink RX4 278 yX2_feeFor, Cond.methodLink RL 54 yX4_withdraw, Cond.instanceMethod yX4_withdraw, Cond.selects RX4 yX4_withdraw yX4_withdraw, Cond.code yX4_withdraw cX4_withdraw 3 (some .int), Cond.methodLink RX4 79 yX2_takeBack, Cond.instanceMethod yX2_takeBack, Cond.selects RX2 yX2_takeBack yX2_takeBack, Cond.code yX2_takeBack cX2_takeBack 4 (some .int), Cond.methodLink RX2 53 yX2_putInChest, Cond.instanceMethod yX2_putInChest, Cond.selects RX2 yX2_putInChest yX2_putInChest, Cond.code yX2_putInChest cX2_putInChest 3 none, Cond.methodLink RX2 47 yX2_add, Cond.methodLink RL 13 yX4_count, Cond.instanceMethod yX4_count, Cond.selects RX4 yX4_count yX4_count, Cond.code yX4_count cX4_count 2 (some .int), Cond.methodLink RX4 168 yX2_bidsInAll, Cond.instanceMethod yX2_bidsInAll, Cond.selects RX2 yX2_bidsInAll yX2_bidsInAll, Cond.code yX2_bidsInAll cX2_bidsInAll 3 (some .int), Cond.methodLink RX2 37 yX2_bidsOfBidder, Cond.instanceMethod yX2_bidsOfBidder]
def wsL_act_r7 : List Cond := [Cond.selects RX2 yX2_bidsOfBidder yX2_bidsOfBidder, Cond.code yX2_bidsOfBidder cX2_bidsOfBidder 4 (some .int), Cond.methodLink RX4 171 yX2_sum, Cond.instanceMethod yX2_sum, Cond.selects RX2 yX2_sum yX2_sum, Cond.code yX2_sum cX2_sum 5 (some .int), Cond.methodLink RX4 143 yX0_savedStates, Cond.instanceMethod yX0_savedStates, Cond.selects RX0 yX0_savedStates yX0_savedStates, Cond.code yX0_savedStates cX0_savedStates 1 (some .int), Cond.methodLink RL 57 yX4_open, Cond.instanceMethod yX4_open, Cond.selects RX4 yX4_open yX4_open, Cond.code yX4_open cX4_open 1 (some .int), Cond.methodLink RX4 89 yX4_shareOut, Cond.instanceMethod yX4_shareOut, Cond.selects RX4 yX4_shareOut yX4_shareOut, Cond.code yX4_shareOut cX4_shareOut 4 (some .int), Cond.fieldLink RX4 19 "SealedSpots" "sharing" "LSealedSpots$Sharing;", Cond.methodLink RX4 176 yX4_findSharing, Cond.instanceMethod yX4_findSharing, Cond.selects RX4 yX4_findSharing yX4_findSharing, Cond.code yX4_findSharing cX4_findSharing 1 none, Cond.methodLink RX4 192 yX1_readBids]
def wsL_act_r8 : List Cond := [Cond.instanceMethod yX1_readBids, Cond.selects RX1 yX1_readBids yX1_readBids, Cond.initialized RX1, Cond.code yX1_readBids cX1_readBids 5 none, Cond.methodLink RX1 30 yX2_ofBid, Cond.methodLink RX1 34 yX1_keyOf, Cond.static yX1_keyOf, Cond.code yX1_keyOf cX1_keyOf 7 (some .long), Cond.constantLong RX1 28 (262144), Cond.methodLink RX1 20 yX2_get, Cond.methodLink RX1 24 yX1_digitShift, Cond.static yX1_digitShift, Cond.code yX1_digitShift cX1_digitShift 1 (some .int), Cond.methodLink RX1 38 yX1_replaceBid, Cond.instanceMethod yX1_replaceBid, Cond.selects RX1 yX1_replaceBid yX1_replaceBid, Cond.code yX1_replaceBid cX1_replaceBid 6 none, Cond.fieldLink RX1 11 "SealedSpots$Sharing" "keys" "[J", Cond.methodLink RX4 203 yX1_find, Cond.instanceMethod yX1_find, Cond.selects RX1 yX1_find yX1_find, Cond.code yX1_find cX1_find 3 none, Cond.fieldLink RX1 15 "SealedSpots$Sharing" "most" "[J", Cond.methodLink RX1 42 yX1_lookAtSpot]
def wsL_act_r9 : List Cond := [Cond.instanceMethod yX1_lookAtSpot, Cond.selects RX1 yX1_lookAtSpot yX1_lookAtSpot, Cond.code yX1_lookAtSpot cX1_lookAtSpot 8 none, Cond.methodLink RX1 61 Lib.MathLoose.max_long.x, Cond.static Lib.MathLoose.max_long.x, Cond.code Lib.MathLoose.max_long.x Lib.MathLoose.max_long.code 4 (some .long), Cond.methodLink RX1 46 yX1_isIn, Cond.static yX1_isIn, Cond.code yX1_isIn cX1_isIn 2 (some .boolean), Cond.methodLink RX1 50 yX1_keyIn, Cond.static yX1_keyIn, Cond.code yX1_keyIn cX1_keyIn 4 (some .long), Cond.methodLink RX1 54 yX1_setWithout, Cond.static yX1_setWithout, Cond.code yX1_setWithout cX1_setWithout 2 (some .int), Cond.methodLink RX1 57 yX1_mostOf, Cond.instanceMethod yX1_mostOf, Cond.selects RX1 yX1_mostOf yX1_mostOf, Cond.code yX1_mostOf cX1_mostOf 2 (some .long), Cond.methodLink RX4 281 yX2_openBids, Cond.instanceMethod yX2_openBids, Cond.selects RX2 yX2_openBids yX2_openBids, Cond.code yX2_openBids cX2_openBids 1 none, Cond.methodLink RX4 185 yX1_ownerOf]
def wsL_act_r10 : List Cond := [Cond.instanceMethod yX1_ownerOf, Cond.selects RX1 yX1_ownerOf yX1_ownerOf, Cond.code yX1_ownerOf cX1_ownerOf 3 (some .int), Cond.methodLink RX1 67 yX1_keyWithout, Cond.instanceMethod yX1_keyWithout, Cond.selects RX1 yX1_keyWithout yX1_keyWithout, Cond.code yX1_keyWithout cX1_keyWithout 2 (some .long), Cond.methodLink RX4 188 yX1_priceOf, Cond.instanceMethod yX1_priceOf, Cond.selects RX1 yX1_priceOf yX1_priceOf, Cond.code yX1_priceOf cX1_priceOf 5 (some .int), Cond.methodLink RX1 74 yX1_ownerOf, Cond.methodLink RX1 77 yX1_worthWithout, Cond.instanceMethod yX1_worthWithout, Cond.selects RX1 yX1_worthWithout yX1_worthWithout, Cond.code yX1_worthWithout cX1_worthWithout 2 (some .int), Cond.methodLink RX1 70 yX1_worthOf, Cond.static yX1_worthOf, Cond.code yX1_worthOf cX1_worthOf 2 (some .int), Cond.methodLink RX4 284 yX2_giveSpot, Cond.instanceMethod yX2_giveSpot, Cond.selects RX2 yX2_giveSpot yX2_giveSpot, Cond.code yX2_giveSpot cX2_giveSpot 4 none, Cond.methodLink RL 61 yX4_nextDay]
def wsL_act_r11 : List Cond := [Cond.instanceMethod yX4_nextDay, Cond.selects RX4 yX4_nextDay yX4_nextDay, Cond.code yX4_nextDay cX4_nextDay 1 (some .int), Cond.methodLink RX4 100 yX2_beginDay, Cond.instanceMethod yX2_beginDay, Cond.selects RX2 yX2_beginDay yX2_beginDay, Cond.code yX2_beginDay cX2_beginDay 4 (some .int), Cond.methodLink RX2 15 yX2_fill, Cond.instanceMethod yX2_fill, Cond.selects RX2 yX2_fill yX2_fill, Cond.code yX2_fill cX2_fill 5 none, Cond.methodLink RL 64 yX4_goBack, Cond.instanceMethod yX4_goBack, Cond.selects RX4 yX4_goBack yX4_goBack, Cond.code yX4_goBack cX4_goBack 1 (some .int), Cond.methodLink RX4 137 yX0_hasSnapshot, Cond.instanceMethod yX0_hasSnapshot, Cond.selects RX0 yX0_hasSnapshot yX0_hasSnapshot, Cond.code yX0_hasSnapshot cX0_hasSnapshot 1 (some .boolean), Cond.fieldLink RX0 32 "SealedSpots$History" "snapshotTaken" "Z", Cond.methodLink RX4 140 yX0_restoreSnapshot, Cond.instanceMethod yX0_restoreSnapshot, Cond.selects RX0 yX0_restoreSnapshot yX0_restoreSnapshot, Cond.code yX0_restoreSnapshot cX0_restoreSnapshot 2 none]
def wsL_act_r12 : List Cond := [Cond.fieldLink RX0 15 "SealedSpots$History" "snapshot" "[I", Cond.methodLink RX0 29 yX2_copyFrom, Cond.instanceMethod yX2_copyFrom, Cond.selects RX2 yX2_copyFrom yX2_copyFrom, Cond.code yX2_copyFrom cX2_copyFrom 5 none, Cond.methodLink RL 19 yX4_spot, Cond.instanceMethod yX4_spot, Cond.selects RX4 yX4_spot yX4_spot, Cond.code yX4_spot cX4_spot 3 (some .int), Cond.methodLink RX4 149 yX2_bidsForSpot, Cond.instanceMethod yX2_bidsForSpot, Cond.selects RX2 yX2_bidsForSpot yX2_bidsForSpot, Cond.code yX2_bidsForSpot cX2_bidsForSpot 4 (some .int), Cond.methodLink RL 67 yX4_fish, Cond.instanceMethod yX4_fish, Cond.selects RX4 yX4_fish yX4_fish, Cond.code yX4_fish cX4_fish 2 (some .int), Cond.methodLink RX4 93 yX2_canFish, Cond.instanceMethod yX2_canFish, Cond.selects RX2 yX2_canFish yX2_canFish, Cond.code yX2_canFish cX2_canFish 2 (some .boolean), Cond.methodLink RX4 97 yX2_catchFish, Cond.instanceMethod yX2_catchFish, Cond.selects RX2 yX2_catchFish yX2_catchFish]
def wsL_act_r13 : List Cond := [Cond.code yX2_catchFish cX2_catchFish 4 (some .int), Cond.methodLink RX2 62 yX2_swim, Cond.instanceMethod yX2_swim, Cond.selects RX2 yX2_swim yX2_swim, Cond.code yX2_swim cX2_swim 5 none, Cond.methodLink RL 70 yX4_why, Cond.instanceMethod yX4_why, Cond.selects RX4 yX4_why yX4_why, Cond.code yX4_why cX4_why 4 (some .int), Cond.methodLink RX4 69 yX2_whyNotSealed, Cond.instanceMethod yX2_whyNotSealed, Cond.selects RX2 yX2_whyNotSealed yX2_whyNotSealed, Cond.code yX2_whyNotSealed cX2_whyNotSealed 4 (some .int), Cond.methodLink RL 73 yX4_bid, Cond.instanceMethod yX4_bid, Cond.selects RX4 yX4_bid yX4_bid, Cond.code yX4_bid cX4_bid 4 (some .int), Cond.methodLink RX4 73 yX2_sealBid, Cond.instanceMethod yX2_sealBid, Cond.selects RX2 yX2_sealBid yX2_sealBid, Cond.code yX2_sealBid cX2_sealBid 6 (some .int)]
def wsL_act : List Cond := .code yL_act cL_act 7 (some .int) :: ((wsL_act_r1 ++ (wsL_act_r2 ++ (wsL_act_r3 ++ (wsL_act_r4 ++ (wsL_act_r5 ++ (wsL_act_r6 ++ (wsL_act_r7 ++ (wsL_act_r8 ++ (wsL_act_r9 ++ (wsL_act_r10 ++ (wsL_act_r11 ++ (wsL_act_r12 ++ wsL_act_r13)))))))))))) ++ wsX40 ++ wsX00 ++ wsX20 ++ wsX10 ++ (vx_atS RX4 267 "java/lang/IndexOutOfBoundsException" ["java/lang/RuntimeException", "java/lang/Exception"]).filter goodWord ++ (vx_atS RX4 121 "java/lang/IllegalArgumentException" ["java/lang/RuntimeException", "java/lang/Exception"]).filter goodWord ++ (vx_atS RX4 274 "java/lang/IllegalStateException" ["java/lang/RuntimeException", "java/lang/Exception"]).filter goodWord)
def wsL_holds_r1 : List Cond := [Cond.constantFloat RL 84 (1120272384), Cond.methodLink RL 13 yX4_count, Cond.instanceMethod yX4_count, Cond.selects RX4 yX4_count yX4_count, Cond.initialized RX4, Cond.code yX4_count cX4_count 2 (some .int), Cond.classLink RX4 117 "java/lang/IllegalArgumentException", Cond.initialized "java/lang/IllegalArgumentException", Cond.fieldLink RX4 12 "SealedSpots" "state" "LSealedSpots$State;", Cond.fieldLink RX4 26 "SealedSpots" "history" "LSealedSpots$History;", Cond.methodLink RX4 56 yX2_get_, Cond.instanceMethod yX2_get_, Cond.selects RX2 yX2_get_ yX2_get_, Cond.initialized RX2, Cond.code yX2_get_ cX2_get_ 2 (some .int), Cond.methodLink RX2 22 yX2_get, Cond.instanceMethod yX2_get, Cond.selects RX2 yX2_get yX2_get, Cond.code yX2_get cX2_get 4 (some .int), Cond.fieldLink RX2 11 "SealedSpots$State" "row" "[I", Cond.methodLink RX4 85 yX2_isOpened, Cond.instanceMethod yX2_isOpened, Cond.selects RX2 yX2_isOpened yX2_isOpened, Cond.code yX2_isOpened cX2_isOpened 1 (some .boolean)]
def wsL_holds_r2 : List Cond := [Cond.methodLink RX2 45 yX2_get_, Cond.methodLink RX4 168 yX2_bidsInAll, Cond.instanceMethod yX2_bidsInAll, Cond.selects RX2 yX2_bidsInAll yX2_bidsInAll, Cond.code yX2_bidsInAll cX2_bidsInAll 3 (some .int), Cond.methodLink RX2 37 yX2_bidsOfBidder, Cond.instanceMethod yX2_bidsOfBidder, Cond.selects RX2 yX2_bidsOfBidder yX2_bidsOfBidder, Cond.code yX2_bidsOfBidder cX2_bidsOfBidder 4 (some .int), Cond.methodLink RX2 33 yX2_hasBid, Cond.instanceMethod yX2_hasBid, Cond.selects RX2 yX2_hasBid yX2_hasBid, Cond.code yX2_hasBid cX2_hasBid 3 (some .boolean), Cond.methodLink RX2 29 yX2_ofBid, Cond.instanceMethod yX2_ofBid, Cond.selects RX2 yX2_ofBid yX2_ofBid, Cond.code yX2_ofBid cX2_ofBid 4 (some .int), Cond.methodLink RX2 26 yX2_placeOfBid, Cond.static yX2_placeOfBid, Cond.code yX2_placeOfBid cX2_placeOfBid 2 (some .int), Cond.methodLink RX4 171 yX2_sum, Cond.instanceMethod yX2_sum, Cond.selects RX2 yX2_sum yX2_sum, Cond.code yX2_sum cX2_sum 5 (some .int)]
def wsL_holds_r3 : List Cond := [Cond.methodLink RX4 143 yX0_savedStates, Cond.instanceMethod yX0_savedStates, Cond.selects RX0 yX0_savedStates yX0_savedStates, Cond.initialized RX0, Cond.code yX0_savedStates cX0_savedStates 1 (some .int), Cond.fieldLink RX0 18 "SealedSpots$History" "saved" "I", Cond.methodLink RL 19 yX4_spot, Cond.instanceMethod yX4_spot, Cond.selects RX4 yX4_spot yX4_spot, Cond.code yX4_spot cX4_spot 3 (some .int), Cond.methodLink RX4 37 yX4_needPlace, Cond.static yX4_needPlace, Cond.code yX4_needPlace cX4_needPlace 2 none, Cond.classLink RX4 263 "java/lang/IndexOutOfBoundsException", Cond.initialized "java/lang/IndexOutOfBoundsException", Cond.methodLink RX4 49 yX2_get, Cond.methodLink RX4 149 yX2_bidsForSpot, Cond.instanceMethod yX2_bidsForSpot, Cond.selects RX2 yX2_bidsForSpot yX2_bidsForSpot, Cond.code yX2_bidsForSpot cX2_bidsForSpot 4 (some .int), Cond.methodLink RL 23 yX4_bidder, Cond.instanceMethod yX4_bidder, Cond.selects RX4 yX4_bidder yX4_bidder, Cond.code yX4_bidder cX4_bidder 3 (some .int)]
def wsL_holds_r4 : List Cond := [Cond.methodLink RX4 154 yX2_bidsOfBidder, Cond.methodLink RX4 157 yX2_spotOfOwner, Cond.instanceMethod yX2_spotOfOwner, Cond.selects RX2 yX2_spotOfOwner yX2_spotOfOwner, Cond.code yX2_spotOfOwner cX2_spotOfOwner 3 (some .int), Cond.methodLink RL 26 yX4_sealed, Cond.instanceMethod yX4_sealed, Cond.selects RX4 yX4_sealed yX4_sealed, Cond.code yX4_sealed cX4_sealed 4 (some .int), Cond.methodLink RX4 41 yX4_needRange, Cond.static yX4_needRange, Cond.code yX4_needRange cX4_needRange 3 none, Cond.methodLink RX4 76 yX2_whyNotWithdrawn, Cond.instanceMethod yX2_whyNotWithdrawn, Cond.selects RX2 yX2_whyNotWithdrawn yX2_whyNotWithdrawn, Cond.code yX2_whyNotWithdrawn cX2_whyNotWithdrawn 3 (some .int), Cond.methodLink RX2 41 yX2_isOpened, Cond.methodLink RX2 50 yX2_feeFor, Cond.instanceMethod yX2_feeFor, Cond.selects RX2 yX2_feeFor yX2_feeFor, Cond.code yX2_feeFor cX2_feeFor 4 (some .int), Cond.methodLink RX4 162 yX2_hasBid, Cond.methodLink RX4 165 yX4_numberOfBid, Cond.instanceMethod yX4_numberOfBid]
def wsL_holds_r5 : List Cond := [Cond.selects RX4 yX4_numberOfBid yX4_numberOfBid, Cond.code yX4_numberOfBid cX4_numberOfBid 4 (some .int), Cond.methodLink RX4 275 yX2_ofBid, Cond.methodLink RX4 278 yX2_feeFor, Cond.methodLink RL 76 yX4_chestShare, Cond.instanceMethod yX4_chestShare, Cond.selects RX4 yX4_chestShare yX4_chestShare, Cond.code yX4_chestShare cX4_chestShare 2 (some .double), Cond.methodLink RX4 213 yX4_count, Cond.methodLink RL 80 yX4_meanPrice, Cond.instanceMethod yX4_meanPrice, Cond.selects RX4 yX4_meanPrice yX4_meanPrice, Cond.code yX4_meanPrice cX4_meanPrice 2 (some .float)]
def wsL_holds : List Cond := .code yL_holds cL_holds 12 (some .boolean) :: ((wsL_holds_r1 ++ (wsL_holds_r2 ++ (wsL_holds_r3 ++ (wsL_holds_r4 ++ wsL_holds_r5)))) ++ wsX40 ++ wsX20 ++ wsX00 ++ (vx_atS RX4 121 "java/lang/IllegalArgumentException" ["java/lang/RuntimeException", "java/lang/Exception"]).filter goodWord ++ (vx_atS RX4 267 "java/lang/IndexOutOfBoundsException" ["java/lang/RuntimeException", "java/lang/Exception"]).filter goodWord)
def wsL_isAhead_r1 : List Cond := [Cond.methodLink RL 85 yL_looks, Cond.static yL_looks, Cond.initialized RL, Cond.code yL_looks cL_looks 4 (some .long), Cond.constantLong RL 9 (113), Cond.constantLong RL 11 (31), Cond.constantLong RL 33 (100), Cond.constantLong RL 35 (1000), Cond.methodLink RL 13 yX4_count, Cond.instanceMethod yX4_count, Cond.selects RX4 yX4_count yX4_count, Cond.initialized RX4, Cond.code yX4_count cX4_count 2 (some .int), Cond.classLink RX4 117 "java/lang/IllegalArgumentException", Cond.initialized "java/lang/IllegalArgumentException", Cond.fieldLink RX4 12 "SealedSpots" "state" "LSealedSpots$State;", Cond.fieldLink RX4 26 "SealedSpots" "history" "LSealedSpots$History;", Cond.methodLink RX4 56 yX2_get_, Cond.instanceMethod yX2_get_, Cond.selects RX2 yX2_get_ yX2_get_, Cond.initialized RX2, Cond.code yX2_get_ cX2_get_ 2 (some .int), Cond.methodLink RX2 22 yX2_get, Cond.instanceMethod yX2_get]
def wsL_isAhead_r2 : List Cond := [Cond.selects RX2 yX2_get yX2_get, Cond.code yX2_get cX2_get 4 (some .int), Cond.fieldLink RX2 11 "SealedSpots$State" "row" "[I", Cond.methodLink RX4 85 yX2_isOpened, Cond.instanceMethod yX2_isOpened, Cond.selects RX2 yX2_isOpened yX2_isOpened, Cond.code yX2_isOpened cX2_isOpened 1 (some .boolean), Cond.methodLink RX2 45 yX2_get_, Cond.methodLink RX4 168 yX2_bidsInAll, Cond.instanceMethod yX2_bidsInAll, Cond.selects RX2 yX2_bidsInAll yX2_bidsInAll, Cond.code yX2_bidsInAll cX2_bidsInAll 3 (some .int), Cond.methodLink RX2 37 yX2_bidsOfBidder, Cond.instanceMethod yX2_bidsOfBidder, Cond.selects RX2 yX2_bidsOfBidder yX2_bidsOfBidder, Cond.code yX2_bidsOfBidder cX2_bidsOfBidder 4 (some .int), Cond.methodLink RX2 33 yX2_hasBid, Cond.instanceMethod yX2_hasBid, Cond.selects RX2 yX2_hasBid yX2_hasBid, Cond.code yX2_hasBid cX2_hasBid 3 (some .boolean), Cond.methodLink RX2 29 yX2_ofBid, Cond.instanceMethod yX2_ofBid, Cond.selects RX2 yX2_ofBid yX2_ofBid, Cond.code yX2_ofBid cX2_ofBid 4 (some .int)]
def wsL_isAhead_r3 : List Cond := [Cond.methodLink RX2 26 yX2_placeOfBid, Cond.static yX2_placeOfBid, Cond.code yX2_placeOfBid cX2_placeOfBid 2 (some .int), Cond.methodLink RX4 171 yX2_sum, Cond.instanceMethod yX2_sum, Cond.selects RX2 yX2_sum yX2_sum, Cond.code yX2_sum cX2_sum 5 (some .int), Cond.methodLink RX4 143 yX0_savedStates, Cond.instanceMethod yX0_savedStates, Cond.selects RX0 yX0_savedStates yX0_savedStates, Cond.initialized RX0, Cond.code yX0_savedStates cX0_savedStates 1 (some .int), Cond.fieldLink RX0 18 "SealedSpots$History" "saved" "I", Cond.methodLink RL 19 yX4_spot, Cond.instanceMethod yX4_spot, Cond.selects RX4 yX4_spot yX4_spot, Cond.code yX4_spot cX4_spot 3 (some .int), Cond.methodLink RX4 37 yX4_needPlace, Cond.static yX4_needPlace, Cond.code yX4_needPlace cX4_needPlace 2 none, Cond.classLink RX4 263 "java/lang/IndexOutOfBoundsException", Cond.initialized "java/lang/IndexOutOfBoundsException", Cond.methodLink RX4 49 yX2_get, Cond.methodLink RX4 149 yX2_bidsForSpot]
def wsL_isAhead_r4 : List Cond := [Cond.instanceMethod yX2_bidsForSpot, Cond.selects RX2 yX2_bidsForSpot yX2_bidsForSpot, Cond.code yX2_bidsForSpot cX2_bidsForSpot 4 (some .int), Cond.methodLink RL 23 yX4_bidder, Cond.instanceMethod yX4_bidder, Cond.selects RX4 yX4_bidder yX4_bidder, Cond.code yX4_bidder cX4_bidder 3 (some .int), Cond.methodLink RX4 154 yX2_bidsOfBidder, Cond.methodLink RX4 157 yX2_spotOfOwner, Cond.instanceMethod yX2_spotOfOwner, Cond.selects RX2 yX2_spotOfOwner yX2_spotOfOwner, Cond.code yX2_spotOfOwner cX2_spotOfOwner 3 (some .int), Cond.methodLink RL 26 yX4_sealed, Cond.instanceMethod yX4_sealed, Cond.selects RX4 yX4_sealed yX4_sealed, Cond.code yX4_sealed cX4_sealed 4 (some .int), Cond.methodLink RX4 41 yX4_needRange, Cond.static yX4_needRange, Cond.code yX4_needRange cX4_needRange 3 none, Cond.methodLink RX4 76 yX2_whyNotWithdrawn, Cond.instanceMethod yX2_whyNotWithdrawn, Cond.selects RX2 yX2_whyNotWithdrawn yX2_whyNotWithdrawn, Cond.code yX2_whyNotWithdrawn cX2_whyNotWithdrawn 3 (some .int), Cond.methodLink RX2 41 yX2_isOpened]
def wsL_isAhead_r5 : List Cond := [Cond.methodLink RX2 50 yX2_feeFor, Cond.instanceMethod yX2_feeFor, Cond.selects RX2 yX2_feeFor yX2_feeFor, Cond.code yX2_feeFor cX2_feeFor 4 (some .int), Cond.methodLink RX4 162 yX2_hasBid, Cond.methodLink RX4 165 yX4_numberOfBid, Cond.instanceMethod yX4_numberOfBid, Cond.selects RX4 yX4_numberOfBid yX4_numberOfBid, Cond.code yX4_numberOfBid cX4_numberOfBid 4 (some .int), Cond.methodLink RX4 275 yX2_ofBid, Cond.methodLink RX4 278 yX2_feeFor, Cond.methodLink RL 30 yX4_setting, Cond.instanceMethod yX4_setting, Cond.selects RX4 yX4_setting yX4_setting, Cond.code yX4_setting cX4_setting 2 (some .int), Cond.methodLink RL 70 yX4_why, Cond.instanceMethod yX4_why, Cond.selects RX4 yX4_why yX4_why, Cond.code yX4_why cX4_why 4 (some .int), Cond.methodLink RX4 69 yX2_whyNotSealed, Cond.instanceMethod yX2_whyNotSealed, Cond.selects RX2 yX2_whyNotSealed yX2_whyNotSealed, Cond.code yX2_whyNotSealed cX2_whyNotSealed 4 (some .int), Cond.methodLink RL 89 yX4_worth]
def wsL_isAhead_r6 : List Cond := [Cond.instanceMethod yX4_worth, Cond.selects RX4 yX4_worth yX4_worth, Cond.code yX4_worth cX4_worth 3 (some .int), Cond.fieldLink RX4 19 "SealedSpots" "sharing" "LSealedSpots$Sharing;", Cond.methodLink RX4 176 yX4_findSharing, Cond.instanceMethod yX4_findSharing, Cond.selects RX4 yX4_findSharing yX4_findSharing, Cond.code yX4_findSharing cX4_findSharing 1 none, Cond.methodLink RX4 192 yX1_readBids, Cond.instanceMethod yX1_readBids, Cond.selects RX1 yX1_readBids yX1_readBids, Cond.initialized RX1, Cond.code yX1_readBids cX1_readBids 5 none, Cond.methodLink RX1 30 yX2_ofBid, Cond.methodLink RX1 34 yX1_keyOf, Cond.static yX1_keyOf, Cond.code yX1_keyOf cX1_keyOf 7 (some .long), Cond.constantLong RX1 28 (262144), Cond.methodLink RX1 20 yX2_get, Cond.methodLink RX1 24 yX1_digitShift, Cond.static yX1_digitShift, Cond.code yX1_digitShift cX1_digitShift 1 (some .int), Cond.methodLink RX1 38 yX1_replaceBid, Cond.instanceMethod yX1_replaceBid]
def wsL_isAhead_r7 : List Cond := [Cond.selects RX1 yX1_replaceBid yX1_replaceBid, Cond.code yX1_replaceBid cX1_replaceBid 6 none, Cond.fieldLink RX1 11 "SealedSpots$Sharing" "keys" "[J", Cond.methodLink RX4 203 yX1_find, Cond.instanceMethod yX1_find, Cond.selects RX1 yX1_find yX1_find, Cond.code yX1_find cX1_find 3 none, Cond.fieldLink RX1 15 "SealedSpots$Sharing" "most" "[J", Cond.methodLink RX1 42 yX1_lookAtSpot, Cond.instanceMethod yX1_lookAtSpot, Cond.selects RX1 yX1_lookAtSpot yX1_lookAtSpot, Cond.code yX1_lookAtSpot cX1_lookAtSpot 8 none, Cond.methodLink RX1 61 Lib.MathLoose.max_long.x, Cond.static Lib.MathLoose.max_long.x, Cond.initialized "java/lang/Math", Cond.code Lib.MathLoose.max_long.x Lib.MathLoose.max_long.code 4 (some .long), Cond.methodLink RX1 46 yX1_isIn, Cond.static yX1_isIn, Cond.code yX1_isIn cX1_isIn 2 (some .boolean), Cond.methodLink RX1 50 yX1_keyIn, Cond.static yX1_keyIn, Cond.code yX1_keyIn cX1_keyIn 4 (some .long), Cond.methodLink RX1 54 yX1_setWithout, Cond.static yX1_setWithout]
def wsL_isAhead_r8 : List Cond := [Cond.code yX1_setWithout cX1_setWithout 2 (some .int), Cond.methodLink RX1 57 yX1_mostOf, Cond.instanceMethod yX1_mostOf, Cond.selects RX1 yX1_mostOf yX1_mostOf, Cond.code yX1_mostOf cX1_mostOf 2 (some .long), Cond.methodLink RX4 179 yX1_worthByTrying, Cond.instanceMethod yX1_worthByTrying, Cond.selects RX1 yX1_worthByTrying yX1_worthByTrying, Cond.code yX1_worthByTrying cX1_worthByTrying 2 (some .int), Cond.methodLink RX1 80 yX1_tryFrom, Cond.static yX1_tryFrom, Cond.code yX1_tryFrom cX1_tryFrom 8 (some .int), Cond.methodLink RX1 84 Lib.Math.max.name, Cond.static Lib.Math.max.name, Cond.code Lib.Math.max.name Lib.Math.max.code 2 (some .int), Cond.methodLink RX1 70 yX1_worthOf, Cond.static yX1_worthOf, Cond.code yX1_worthOf cX1_worthOf 2 (some .int), Cond.methodLink RX4 182 yX1_worthWithout, Cond.instanceMethod yX1_worthWithout, Cond.selects RX1 yX1_worthWithout yX1_worthWithout, Cond.code yX1_worthWithout cX1_worthWithout 2 (some .int), Cond.methodLink RX1 67 yX1_keyWithout, Cond.instanceMethod yX1_keyWithout]
def wsL_isAhead_r9 : List Cond := [Cond.selects RX1 yX1_keyWithout yX1_keyWithout, Cond.code yX1_keyWithout cX1_keyWithout 2 (some .long), Cond.methodLink RL 92 yX4_keenest, Cond.instanceMethod yX4_keenest, Cond.selects RX4 yX4_keenest yX4_keenest, Cond.code yX4_keenest cX4_keenest 3 (some .int), Cond.methodLink RL 73 yX4_bid, Cond.instanceMethod yX4_bid, Cond.selects RX4 yX4_bid yX4_bid, Cond.code yX4_bid cX4_bid 4 (some .int), Cond.methodLink RX4 59 yX4_needState, Cond.static yX4_needState, Cond.code yX4_needState cX4_needState 1 none, Cond.classLink RX4 270 "java/lang/IllegalStateException", Cond.initialized "java/lang/IllegalStateException", Cond.methodLink RX4 45 yX0_save, Cond.instanceMethod yX0_save, Cond.selects RX0 yX0_save yX0_save, Cond.code yX0_save cX0_save 2 none, Cond.fieldLink RX0 11 "SealedSpots$History" "rows" "[I", Cond.methodLink RX0 22 yX0_dropOldest, Cond.instanceMethod yX0_dropOldest, Cond.selects RX0 yX0_dropOldest yX0_dropOldest, Cond.code yX0_dropOldest cX0_dropOldest 2 none]
def wsL_isAhead_r10 : List Cond := [Cond.methodLink RX0 25 yX2_copyTo, Cond.instanceMethod yX2_copyTo, Cond.selects RX2 yX2_copyTo yX2_copyTo, Cond.code yX2_copyTo cX2_copyTo 5 none, Cond.methodLink RX4 73 yX2_sealBid, Cond.instanceMethod yX2_sealBid, Cond.selects RX2 yX2_sealBid yX2_sealBid, Cond.code yX2_sealBid cX2_sealBid 6 (some .int), Cond.methodLink RX2 19 yX2_put, Cond.instanceMethod yX2_put, Cond.selects RX2 yX2_put yX2_put, Cond.code yX2_put cX2_put 5 none, Cond.methodLink RX2 47 yX2_add, Cond.instanceMethod yX2_add, Cond.selects RX2 yX2_add yX2_add, Cond.code yX2_add cX2_add 4 none, Cond.methodLink RL 95 yX4_undo, Cond.instanceMethod yX4_undo, Cond.selects RX4 yX4_undo yX4_undo, Cond.code yX4_undo cX4_undo 1 (some .int), Cond.methodLink RX4 146 yX0_restoreLatest, Cond.instanceMethod yX0_restoreLatest, Cond.selects RX0 yX0_restoreLatest yX0_restoreLatest, Cond.code yX0_restoreLatest cX0_restoreLatest 2 none]
def wsL_isAhead_r11 : List Cond := [Cond.methodLink RX0 29 yX2_copyFrom, Cond.instanceMethod yX2_copyFrom, Cond.selects RX2 yX2_copyFrom yX2_copyFrom, Cond.code yX2_copyFrom cX2_copyFrom 5 none, Cond.methodLink RL 54 yX4_withdraw, Cond.instanceMethod yX4_withdraw, Cond.selects RX4 yX4_withdraw yX4_withdraw, Cond.code yX4_withdraw cX4_withdraw 3 (some .int), Cond.methodLink RX4 79 yX2_takeBack, Cond.instanceMethod yX2_takeBack, Cond.selects RX2 yX2_takeBack yX2_takeBack, Cond.code yX2_takeBack cX2_takeBack 4 (some .int), Cond.methodLink RX2 53 yX2_putInChest, Cond.instanceMethod yX2_putInChest, Cond.selects RX2 yX2_putInChest yX2_putInChest, Cond.code yX2_putInChest cX2_putInChest 3 none, Cond.methodLink RL 98 yX4_ifOpened, Cond.instanceMethod yX4_ifOpened, Cond.selects RX4 yX4_ifOpened yX4_ifOpened, Cond.code yX4_ifOpened cX4_ifOpened 3 (some .int), Cond.methodLink RX4 185 yX1_ownerOf, Cond.instanceMethod yX1_ownerOf, Cond.selects RX1 yX1_ownerOf yX1_ownerOf, Cond.code yX1_ownerOf cX1_ownerOf 3 (some .int)]
def wsL_isAhead_r12 : List Cond := [Cond.methodLink RX4 188 yX1_priceOf, Cond.instanceMethod yX1_priceOf, Cond.selects RX1 yX1_priceOf yX1_priceOf, Cond.code yX1_priceOf cX1_priceOf 5 (some .int), Cond.methodLink RX1 74 yX1_ownerOf, Cond.methodLink RX1 77 yX1_worthWithout, Cond.methodLink RL 57 yX4_open, Cond.instanceMethod yX4_open, Cond.selects RX4 yX4_open yX4_open, Cond.code yX4_open cX4_open 1 (some .int), Cond.methodLink RX4 89 yX4_shareOut, Cond.instanceMethod yX4_shareOut, Cond.selects RX4 yX4_shareOut yX4_shareOut, Cond.code yX4_shareOut cX4_shareOut 4 (some .int), Cond.methodLink RX4 281 yX2_openBids, Cond.instanceMethod yX2_openBids, Cond.selects RX2 yX2_openBids yX2_openBids, Cond.code yX2_openBids cX2_openBids 1 none, Cond.methodLink RX4 284 yX2_giveSpot, Cond.instanceMethod yX2_giveSpot, Cond.selects RX2 yX2_giveSpot yX2_giveSpot, Cond.code yX2_giveSpot cX2_giveSpot 4 none, Cond.methodLink RL 67 yX4_fish, Cond.instanceMethod yX4_fish]
def wsL_isAhead_r13 : List Cond := [Cond.selects RX4 yX4_fish yX4_fish, Cond.code yX4_fish cX4_fish 2 (some .int), Cond.methodLink RX4 93 yX2_canFish, Cond.instanceMethod yX2_canFish, Cond.selects RX2 yX2_canFish yX2_canFish, Cond.code yX2_canFish cX2_canFish 2 (some .boolean), Cond.methodLink RX4 97 yX2_catchFish, Cond.instanceMethod yX2_catchFish, Cond.selects RX2 yX2_catchFish yX2_catchFish, Cond.code yX2_catchFish cX2_catchFish 4 (some .int), Cond.methodLink RX2 57 Lib.Math.min.name, Cond.static Lib.Math.min.name, Cond.code Lib.Math.min.name Lib.Math.min.code 2 (some .int), Cond.methodLink RX2 62 yX2_swim, Cond.instanceMethod yX2_swim, Cond.selects RX2 yX2_swim yX2_swim, Cond.code yX2_swim cX2_swim 5 none, Cond.methodLink RL 101 yX4_least, Cond.instanceMethod yX4_least, Cond.selects RX4 yX4_least yX4_least, Cond.code yX4_least cX4_least 3 (some .int), Cond.methodLink RX4 210 yX4_leastWinning, Cond.instanceMethod yX4_leastWinning, Cond.selects RX4 yX4_leastWinning yX4_leastWinning]
def wsL_isAhead_r14 : List Cond := [Cond.code yX4_leastWinning cX4_leastWinning 10 (some .int), Cond.methodLink RX4 199 yX1_replaceBid, Cond.methodLink RX4 287 yX1_keyWithout, Cond.methodLink RX4 195 yX1_keyOf, Cond.methodLink RL 104 yX4_ifBid, Cond.instanceMethod yX4_ifBid, Cond.selects RX4 yX4_ifBid yX4_ifBid, Cond.code yX4_ifBid cX4_ifBid 6 (some .int), Cond.methodLink RX4 207 yX1_spotOf, Cond.instanceMethod yX1_spotOf, Cond.selects RX1 yX1_spotOf yX1_spotOf, Cond.code yX1_spotOf cX1_spotOf 3 (some .int)]
def wsL_isAhead : List Cond := .code yL_isAhead cL_isAhead 14 (some .boolean) :: ((wsL_isAhead_r1 ++ (wsL_isAhead_r2 ++ (wsL_isAhead_r3 ++ (wsL_isAhead_r4 ++ (wsL_isAhead_r5 ++ (wsL_isAhead_r6 ++ (wsL_isAhead_r7 ++ (wsL_isAhead_r8 ++ (wsL_isAhead_r9 ++ (wsL_isAhead_r10 ++ (wsL_isAhead_r11 ++ (wsL_isAhead_r12 ++ (wsL_isAhead_r13 ++ wsL_isAhead_r14))))))))))))) ++ wsX40 ++ wsX20 ++ wsX00 ++ wsX10 ++ (vx_atS RX4 121 "java/lang/IllegalArgumentException" ["java/lang/RuntimeException", "java/lang/Exception"]).filter goodWord ++ (vx_atS RX4 267 "java/lang/IndexOutOfBoundsException" ["java/lang/RuntimeException", "java/lang/Exception"]).filter goodWord ++ (vx_atS RX4 274 "java/lang/IllegalStateException" ["java/lang/RuntimeException", "java/lang/Exception"]).filter goodWord)
def wsL_law0_r1 : List Cond := [Cond.classLink RL 14 RX4, Cond.instantiable RX4 4, Cond.initialized RX4, Cond.methodLink RL 108 yX4_init, Cond.instanceMethod yX4_init, Cond.code yX4_init cX4_init 1 none, Cond.methodLink RX4 3 objectInit, Cond.instanceMethod objectInit, Cond.code objectInit ⟨#[0xb1]⟩ 1 none, Cond.classLink RX4 9 RX2, Cond.instantiable RX2 1, Cond.initialized RX2, Cond.fieldLink RX4 12 "SealedSpots" "state" "LSealedSpots$State;", Cond.classLink RX4 16 RX1, Cond.instantiable RX1 2, Cond.initialized RX1, Cond.fieldLink RX4 19 "SealedSpots" "sharing" "LSealedSpots$Sharing;", Cond.classLink RX4 23 RX0, Cond.instantiable RX0 4, Cond.initialized RX0, Cond.fieldLink RX4 26 "SealedSpots" "history" "LSealedSpots$History;", Cond.classLink RX4 30 RX3, Cond.instantiable RX3 2, Cond.initialized RX3]
def wsL_law0_r2 : List Cond := [Cond.fieldLink RX4 33 "SealedSpots" "text" "LSealedSpots$Text;", Cond.methodLink RX4 11 yX2_init, Cond.instanceMethod yX2_init, Cond.code yX2_init cX2_init 1 none, Cond.methodLink RX2 5 objectInit, Cond.arrayClass .int, Cond.fieldLink RX2 11 "SealedSpots$State" "row" "[I", Cond.methodLink RX2 15 yX2_fill, Cond.instanceMethod yX2_fill, Cond.selects RX2 yX2_fill yX2_fill, Cond.code yX2_fill cX2_fill 5 none, Cond.methodLink RX2 19 yX2_put, Cond.instanceMethod yX2_put, Cond.selects RX2 yX2_put yX2_put, Cond.code yX2_put cX2_put 5 none, Cond.instanceMethod yX1_init, Cond.code yX1_init cX1_init 1 none, Cond.methodLink RX1 5 objectInit, Cond.arrayClass .long, Cond.fieldLink RX1 11 "SealedSpots$Sharing" "keys" "[J", Cond.fieldLink RX1 15 "SealedSpots$Sharing" "most" "[J", Cond.instanceMethod yX0_init, Cond.code yX0_init cX0_init 1 none, Cond.methodLink RX0 1 objectInit]
def wsL_law0_r3 : List Cond := [Cond.fieldLink RX0 11 "SealedSpots$History" "rows" "[I", Cond.fieldLink RX0 15 "SealedSpots$History" "snapshot" "[I", Cond.instanceMethod yX3_init, Cond.code yX3_init cX3_init 1 none, Cond.methodLink RX3 1 objectInit, Cond.fieldLink RX3 9 "SealedSpots$Text" "codes" "[I", Cond.methodLink RL 109 yX4_keep, Cond.instanceMethod yX4_keep, Cond.selects RX4 yX4_keep yX4_keep, Cond.code yX4_keep cX4_keep 1 (some .int), Cond.methodLink RX4 134 yX0_takeSnapshot, Cond.instanceMethod yX0_takeSnapshot, Cond.selects RX0 yX0_takeSnapshot yX0_takeSnapshot, Cond.code yX0_takeSnapshot cX0_takeSnapshot 2 none, Cond.fieldLink RX0 32 "SealedSpots$History" "snapshotTaken" "Z", Cond.methodLink RX0 25 yX2_copyTo, Cond.instanceMethod yX2_copyTo, Cond.selects RX2 yX2_copyTo yX2_copyTo, Cond.code yX2_copyTo cX2_copyTo 5 none, Cond.methodLink RX2 45 yX2_get_, Cond.instanceMethod yX2_get_, Cond.selects RX2 yX2_get_ yX2_get_, Cond.code yX2_get_ cX2_get_ 2 (some .int), Cond.methodLink RX2 22 yX2_get]
def wsL_law0_r4 : List Cond := [Cond.instanceMethod yX2_get, Cond.selects RX2 yX2_get yX2_get, Cond.code yX2_get cX2_get 4 (some .int), Cond.methodLink RX4 56 yX2_get_, Cond.methodLink RL 112 yL_holds, Cond.static yL_holds, Cond.initialized RL, Cond.code yL_holds cL_holds 12 (some .boolean), Cond.constantFloat RL 84 (1120272384), Cond.methodLink RL 13 yX4_count, Cond.instanceMethod yX4_count, Cond.selects RX4 yX4_count yX4_count, Cond.code yX4_count cX4_count 2 (some .int), Cond.classLink RX4 117 "java/lang/IllegalArgumentException", Cond.initialized "java/lang/IllegalArgumentException", Cond.methodLink RX4 85 yX2_isOpened, Cond.instanceMethod yX2_isOpened, Cond.selects RX2 yX2_isOpened yX2_isOpened, Cond.code yX2_isOpened cX2_isOpened 1 (some .boolean), Cond.methodLink RX4 168 yX2_bidsInAll, Cond.instanceMethod yX2_bidsInAll, Cond.selects RX2 yX2_bidsInAll yX2_bidsInAll, Cond.code yX2_bidsInAll cX2_bidsInAll 3 (some .int), Cond.methodLink RX2 37 yX2_bidsOfBidder]
def wsL_law0_r5 : List Cond := [Cond.instanceMethod yX2_bidsOfBidder, Cond.selects RX2 yX2_bidsOfBidder yX2_bidsOfBidder, Cond.code yX2_bidsOfBidder cX2_bidsOfBidder 4 (some .int), Cond.methodLink RX2 33 yX2_hasBid, Cond.instanceMethod yX2_hasBid, Cond.selects RX2 yX2_hasBid yX2_hasBid, Cond.code yX2_hasBid cX2_hasBid 3 (some .boolean), Cond.methodLink RX2 29 yX2_ofBid, Cond.instanceMethod yX2_ofBid, Cond.selects RX2 yX2_ofBid yX2_ofBid, Cond.code yX2_ofBid cX2_ofBid 4 (some .int), Cond.methodLink RX2 26 yX2_placeOfBid, Cond.static yX2_placeOfBid, Cond.code yX2_placeOfBid cX2_placeOfBid 2 (some .int), Cond.methodLink RX4 171 yX2_sum, Cond.instanceMethod yX2_sum, Cond.selects RX2 yX2_sum yX2_sum, Cond.code yX2_sum cX2_sum 5 (some .int), Cond.methodLink RX4 143 yX0_savedStates, Cond.instanceMethod yX0_savedStates, Cond.selects RX0 yX0_savedStates yX0_savedStates, Cond.code yX0_savedStates cX0_savedStates 1 (some .int), Cond.fieldLink RX0 18 "SealedSpots$History" "saved" "I", Cond.methodLink RL 19 yX4_spot]
def wsL_law0_r6 : List Cond := [Cond.instanceMethod yX4_spot, Cond.selects RX4 yX4_spot yX4_spot, Cond.code yX4_spot cX4_spot 3 (some .int), Cond.methodLink RX4 37 yX4_needPlace, Cond.static yX4_needPlace, Cond.code yX4_needPlace cX4_needPlace 2 none, Cond.classLink RX4 263 "java/lang/IndexOutOfBoundsException", Cond.initialized "java/lang/IndexOutOfBoundsException", Cond.methodLink RX4 49 yX2_get, Cond.methodLink RX4 149 yX2_bidsForSpot, Cond.instanceMethod yX2_bidsForSpot, Cond.selects RX2 yX2_bidsForSpot yX2_bidsForSpot, Cond.code yX2_bidsForSpot cX2_bidsForSpot 4 (some .int), Cond.methodLink RL 23 yX4_bidder, Cond.instanceMethod yX4_bidder, Cond.selects RX4 yX4_bidder yX4_bidder, Cond.code yX4_bidder cX4_bidder 3 (some .int), Cond.methodLink RX4 154 yX2_bidsOfBidder, Cond.methodLink RX4 157 yX2_spotOfOwner, Cond.instanceMethod yX2_spotOfOwner, Cond.selects RX2 yX2_spotOfOwner yX2_spotOfOwner, Cond.code yX2_spotOfOwner cX2_spotOfOwner 3 (some .int), Cond.methodLink RL 26 yX4_sealed, Cond.instanceMethod yX4_sealed]
def wsL_law0_r7 : List Cond := [Cond.selects RX4 yX4_sealed yX4_sealed, Cond.code yX4_sealed cX4_sealed 4 (some .int), Cond.methodLink RX4 41 yX4_needRange, Cond.static yX4_needRange, Cond.code yX4_needRange cX4_needRange 3 none, Cond.methodLink RX4 76 yX2_whyNotWithdrawn, Cond.instanceMethod yX2_whyNotWithdrawn, Cond.selects RX2 yX2_whyNotWithdrawn yX2_whyNotWithdrawn, Cond.code yX2_whyNotWithdrawn cX2_whyNotWithdrawn 3 (some .int), Cond.methodLink RX2 41 yX2_isOpened, Cond.methodLink RX2 50 yX2_feeFor, Cond.instanceMethod yX2_feeFor, Cond.selects RX2 yX2_feeFor yX2_feeFor, Cond.code yX2_feeFor cX2_feeFor 4 (some .int), Cond.methodLink RX4 162 yX2_hasBid, Cond.methodLink RX4 165 yX4_numberOfBid, Cond.instanceMethod yX4_numberOfBid, Cond.selects RX4 yX4_numberOfBid yX4_numberOfBid, Cond.code yX4_numberOfBid cX4_numberOfBid 4 (some .int), Cond.methodLink RX4 275 yX2_ofBid, Cond.methodLink RX4 278 yX2_feeFor, Cond.methodLink RL 76 yX4_chestShare, Cond.instanceMethod yX4_chestShare, Cond.selects RX4 yX4_chestShare yX4_chestShare]
def wsL_law0_r8 : List Cond := [Cond.code yX4_chestShare cX4_chestShare 2 (some .double), Cond.methodLink RX4 213 yX4_count, Cond.methodLink RL 80 yX4_meanPrice, Cond.instanceMethod yX4_meanPrice, Cond.selects RX4 yX4_meanPrice yX4_meanPrice, Cond.code yX4_meanPrice cX4_meanPrice 2 (some .float), Cond.methodLink RL 116 yL_cell, Cond.static yL_cell, Cond.code yL_cell cL_cell 2 (some .int), Cond.constant RL 7 (1812433253), Cond.methodLink RL 85 yL_looks, Cond.static yL_looks, Cond.code yL_looks cL_looks 4 (some .long), Cond.constantLong RL 9 (113), Cond.constantLong RL 11 (31), Cond.constantLong RL 33 (100), Cond.constantLong RL 35 (1000), Cond.methodLink RL 30 yX4_setting, Cond.instanceMethod yX4_setting, Cond.selects RX4 yX4_setting yX4_setting, Cond.code yX4_setting cX4_setting 2 (some .int), Cond.methodLink RL 120 yL_act, Cond.static yL_act, Cond.code yL_act cL_act 7 (some .int)]
def wsL_law0_r9 : List Cond := [Cond.methodLink RL 37 yL_up, Cond.static yL_up, Cond.code yL_up cL_up 2 (some .int), Cond.constant RL 8 (2147483647), Cond.methodLink RL 42 yX4_price, Cond.instanceMethod yX4_price, Cond.selects RX4 yX4_price yX4_price, Cond.code yX4_price cX4_price 4 (some .int), Cond.methodLink RX4 45 yX0_save, Cond.instanceMethod yX0_save, Cond.selects RX0 yX0_save yX0_save, Cond.code yX0_save cX0_save 2 none, Cond.methodLink RX0 22 yX0_dropOldest, Cond.instanceMethod yX0_dropOldest, Cond.selects RX0 yX0_dropOldest yX0_dropOldest, Cond.code yX0_dropOldest cX0_dropOldest 2 none, Cond.methodLink RX4 53 yX2_put, Cond.methodLink RL 45 yX4_pay, Cond.instanceMethod yX4_pay, Cond.selects RX4 yX4_pay yX4_pay, Cond.code yX4_pay cX4_pay 3 (some .int), Cond.methodLink RX4 59 yX4_needState, Cond.static yX4_needState, Cond.code yX4_needState cX4_needState 1 none]
def wsL_law0_r10 : List Cond := [Cond.classLink RX4 270 "java/lang/IllegalStateException", Cond.initialized "java/lang/IllegalStateException", Cond.methodLink RX4 63 yX2_add, Cond.instanceMethod yX2_add, Cond.selects RX2 yX2_add yX2_add, Cond.code yX2_add cX2_add 4 none, Cond.methodLink RL 48 yX4_set, Cond.instanceMethod yX4_set, Cond.selects RX4 yX4_set yX4_set, Cond.code yX4_set cX4_set 4 (some .int), Cond.methodLink RX4 66 yX2_mostOfSetting, Cond.static yX2_mostOfSetting, Cond.code yX2_mostOfSetting cX2_mostOfSetting 1 (some .int), Cond.methodLink RL 51 yX4_pause, Cond.instanceMethod yX4_pause, Cond.selects RX4 yX4_pause yX4_pause, Cond.code yX4_pause cX4_pause 2 (some .int), Cond.methodLink RX4 82 yX2_passHours, Cond.instanceMethod yX2_passHours, Cond.selects RX2 yX2_passHours yX2_passHours, Cond.code yX2_passHours cX2_passHours 2 (some .int), Cond.methodLink RX2 57 Lib.Math.min.name, Cond.static Lib.Math.min.name, Cond.initialized "java/lang/Math"]
def wsL_law0_r11 : List Cond := [Cond.code Lib.Math.min.name Lib.Math.min.code 2 (some .int), Cond.methodLink RL 54 yX4_withdraw, Cond.instanceMethod yX4_withdraw, Cond.selects RX4 yX4_withdraw yX4_withdraw, Cond.code yX4_withdraw cX4_withdraw 3 (some .int), Cond.methodLink RX4 79 yX2_takeBack, Cond.instanceMethod yX2_takeBack, Cond.selects RX2 yX2_takeBack yX2_takeBack, Cond.code yX2_takeBack cX2_takeBack 4 (some .int), Cond.methodLink RX2 53 yX2_putInChest, Cond.instanceMethod yX2_putInChest, Cond.selects RX2 yX2_putInChest yX2_putInChest, Cond.code yX2_putInChest cX2_putInChest 3 none, Cond.methodLink RX2 47 yX2_add, Cond.methodLink RL 57 yX4_open, Cond.instanceMethod yX4_open, Cond.selects RX4 yX4_open yX4_open, Cond.code yX4_open cX4_open 1 (some .int), Cond.methodLink RX4 89 yX4_shareOut, Cond.instanceMethod yX4_shareOut, Cond.selects RX4 yX4_shareOut yX4_shareOut, Cond.code yX4_shareOut cX4_shareOut 4 (some .int), Cond.methodLink RX4 176 yX4_findSharing, Cond.instanceMethod yX4_findSharing]
def wsL_law0_r12 : List Cond := [Cond.selects RX4 yX4_findSharing yX4_findSharing, Cond.code yX4_findSharing cX4_findSharing 1 none, Cond.methodLink RX4 192 yX1_readBids, Cond.instanceMethod yX1_readBids, Cond.selects RX1 yX1_readBids yX1_readBids, Cond.code yX1_readBids cX1_readBids 5 none, Cond.methodLink RX1 30 yX2_ofBid, Cond.methodLink RX1 34 yX1_keyOf, Cond.static yX1_keyOf, Cond.code yX1_keyOf cX1_keyOf 7 (some .long), Cond.constantLong RX1 28 (262144), Cond.methodLink RX1 20 yX2_get, Cond.methodLink RX1 24 yX1_digitShift, Cond.static yX1_digitShift, Cond.code yX1_digitShift cX1_digitShift 1 (some .int), Cond.methodLink RX1 38 yX1_replaceBid, Cond.instanceMethod yX1_replaceBid, Cond.selects RX1 yX1_replaceBid yX1_replaceBid, Cond.code yX1_replaceBid cX1_replaceBid 6 none, Cond.methodLink RX4 203 yX1_find, Cond.instanceMethod yX1_find, Cond.selects RX1 yX1_find yX1_find, Cond.code yX1_find cX1_find 3 none, Cond.methodLink RX1 42 yX1_lookAtSpot]
def wsL_law0_r13 : List Cond := [Cond.instanceMethod yX1_lookAtSpot, Cond.selects RX1 yX1_lookAtSpot yX1_lookAtSpot, Cond.code yX1_lookAtSpot cX1_lookAtSpot 8 none, Cond.methodLink RX1 61 Lib.MathLoose.max_long.x, Cond.static Lib.MathLoose.max_long.x, Cond.code Lib.MathLoose.max_long.x Lib.MathLoose.max_long.code 4 (some .long), Cond.methodLink RX1 46 yX1_isIn, Cond.static yX1_isIn, Cond.code yX1_isIn cX1_isIn 2 (some .boolean), Cond.methodLink RX1 50 yX1_keyIn, Cond.static yX1_keyIn, Cond.code yX1_keyIn cX1_keyIn 4 (some .long), Cond.methodLink RX1 54 yX1_setWithout, Cond.static yX1_setWithout, Cond.code yX1_setWithout cX1_setWithout 2 (some .int), Cond.methodLink RX1 57 yX1_mostOf, Cond.instanceMethod yX1_mostOf, Cond.selects RX1 yX1_mostOf yX1_mostOf, Cond.code yX1_mostOf cX1_mostOf 2 (some .long), Cond.methodLink RX4 281 yX2_openBids, Cond.instanceMethod yX2_openBids, Cond.selects RX2 yX2_openBids yX2_openBids, Cond.code yX2_openBids cX2_openBids 1 none, Cond.methodLink RX4 185 yX1_ownerOf]
def wsL_law0_r14 : List Cond := [Cond.instanceMethod yX1_ownerOf, Cond.selects RX1 yX1_ownerOf yX1_ownerOf, Cond.code yX1_ownerOf cX1_ownerOf 3 (some .int), Cond.methodLink RX1 67 yX1_keyWithout, Cond.instanceMethod yX1_keyWithout, Cond.selects RX1 yX1_keyWithout yX1_keyWithout, Cond.code yX1_keyWithout cX1_keyWithout 2 (some .long), Cond.methodLink RX4 188 yX1_priceOf, Cond.instanceMethod yX1_priceOf, Cond.selects RX1 yX1_priceOf yX1_priceOf, Cond.code yX1_priceOf cX1_priceOf 5 (some .int), Cond.methodLink RX1 74 yX1_ownerOf, Cond.methodLink RX1 77 yX1_worthWithout, Cond.instanceMethod yX1_worthWithout, Cond.selects RX1 yX1_worthWithout yX1_worthWithout, Cond.code yX1_worthWithout cX1_worthWithout 2 (some .int), Cond.methodLink RX1 70 yX1_worthOf, Cond.static yX1_worthOf, Cond.code yX1_worthOf cX1_worthOf 2 (some .int), Cond.methodLink RX4 284 yX2_giveSpot, Cond.instanceMethod yX2_giveSpot, Cond.selects RX2 yX2_giveSpot yX2_giveSpot, Cond.code yX2_giveSpot cX2_giveSpot 4 none, Cond.methodLink RL 61 yX4_nextDay]
def wsL_law0_r15 : List Cond := [Cond.instanceMethod yX4_nextDay, Cond.selects RX4 yX4_nextDay yX4_nextDay, Cond.code yX4_nextDay cX4_nextDay 1 (some .int), Cond.methodLink RX4 100 yX2_beginDay, Cond.instanceMethod yX2_beginDay, Cond.selects RX2 yX2_beginDay yX2_beginDay, Cond.code yX2_beginDay cX2_beginDay 4 (some .int), Cond.methodLink RL 64 yX4_goBack, Cond.instanceMethod yX4_goBack, Cond.selects RX4 yX4_goBack yX4_goBack, Cond.code yX4_goBack cX4_goBack 1 (some .int), Cond.methodLink RX4 137 yX0_hasSnapshot, Cond.instanceMethod yX0_hasSnapshot, Cond.selects RX0 yX0_hasSnapshot yX0_hasSnapshot, Cond.code yX0_hasSnapshot cX0_hasSnapshot 1 (some .boolean), Cond.methodLink RX4 140 yX0_restoreSnapshot, Cond.instanceMethod yX0_restoreSnapshot, Cond.selects RX0 yX0_restoreSnapshot yX0_restoreSnapshot, Cond.code yX0_restoreSnapshot cX0_restoreSnapshot 2 none, Cond.methodLink RX0 29 yX2_copyFrom, Cond.instanceMethod yX2_copyFrom, Cond.selects RX2 yX2_copyFrom yX2_copyFrom, Cond.code yX2_copyFrom cX2_copyFrom 5 none, Cond.methodLink RL 67 yX4_fish]
def wsL_law0_r16 : List Cond := [Cond.instanceMethod yX4_fish, Cond.selects RX4 yX4_fish yX4_fish, Cond.code yX4_fish cX4_fish 2 (some .int), Cond.methodLink RX4 93 yX2_canFish, Cond.instanceMethod yX2_canFish, Cond.selects RX2 yX2_canFish yX2_canFish, Cond.code yX2_canFish cX2_canFish 2 (some .boolean), Cond.methodLink RX4 97 yX2_catchFish, Cond.instanceMethod yX2_catchFish, Cond.selects RX2 yX2_catchFish yX2_catchFish, Cond.code yX2_catchFish cX2_catchFish 4 (some .int), Cond.methodLink RX2 62 yX2_swim, Cond.instanceMethod yX2_swim, Cond.selects RX2 yX2_swim yX2_swim, Cond.code yX2_swim cX2_swim 5 none, Cond.methodLink RL 70 yX4_why, Cond.instanceMethod yX4_why, Cond.selects RX4 yX4_why yX4_why, Cond.code yX4_why cX4_why 4 (some .int), Cond.methodLink RX4 69 yX2_whyNotSealed, Cond.instanceMethod yX2_whyNotSealed, Cond.selects RX2 yX2_whyNotSealed yX2_whyNotSealed, Cond.code yX2_whyNotSealed cX2_whyNotSealed 4 (some .int), Cond.methodLink RL 73 yX4_bid]
def wsL_law0_r17 : List Cond := [Cond.instanceMethod yX4_bid, Cond.selects RX4 yX4_bid yX4_bid, Cond.code yX4_bid cX4_bid 4 (some .int), Cond.methodLink RX4 73 yX2_sealBid, Cond.instanceMethod yX2_sealBid, Cond.selects RX2 yX2_sealBid yX2_sealBid, Cond.code yX2_sealBid cX2_sealBid 6 (some .int), Cond.methodLink RL 95 yX4_undo, Cond.instanceMethod yX4_undo, Cond.selects RX4 yX4_undo yX4_undo, Cond.code yX4_undo cX4_undo 1 (some .int), Cond.methodLink RX4 146 yX0_restoreLatest, Cond.instanceMethod yX0_restoreLatest, Cond.selects RX0 yX0_restoreLatest yX0_restoreLatest, Cond.code yX0_restoreLatest cX0_restoreLatest 2 none, Cond.methodLink RL 124 yL_isAhead, Cond.static yL_isAhead, Cond.code yL_isAhead cL_isAhead 14 (some .boolean), Cond.methodLink RL 89 yX4_worth, Cond.instanceMethod yX4_worth, Cond.selects RX4 yX4_worth yX4_worth, Cond.code yX4_worth cX4_worth 3 (some .int), Cond.methodLink RX4 179 yX1_worthByTrying, Cond.instanceMethod yX1_worthByTrying]
def wsL_law0_r18 : List Cond := [Cond.selects RX1 yX1_worthByTrying yX1_worthByTrying, Cond.code yX1_worthByTrying cX1_worthByTrying 2 (some .int), Cond.methodLink RX1 80 yX1_tryFrom, Cond.static yX1_tryFrom, Cond.code yX1_tryFrom cX1_tryFrom 8 (some .int), Cond.methodLink RX1 84 Lib.Math.max.name, Cond.static Lib.Math.max.name, Cond.code Lib.Math.max.name Lib.Math.max.code 2 (some .int), Cond.methodLink RX4 182 yX1_worthWithout, Cond.methodLink RL 92 yX4_keenest, Cond.instanceMethod yX4_keenest, Cond.selects RX4 yX4_keenest yX4_keenest, Cond.code yX4_keenest cX4_keenest 3 (some .int), Cond.methodLink RL 98 yX4_ifOpened, Cond.instanceMethod yX4_ifOpened, Cond.selects RX4 yX4_ifOpened yX4_ifOpened, Cond.code yX4_ifOpened cX4_ifOpened 3 (some .int), Cond.methodLink RL 101 yX4_least, Cond.instanceMethod yX4_least, Cond.selects RX4 yX4_least yX4_least, Cond.code yX4_least cX4_least 3 (some .int), Cond.methodLink RX4 210 yX4_leastWinning, Cond.instanceMethod yX4_leastWinning, Cond.selects RX4 yX4_leastWinning yX4_leastWinning]
def wsL_law0_r19 : List Cond := [Cond.code yX4_leastWinning cX4_leastWinning 10 (some .int), Cond.methodLink RX4 199 yX1_replaceBid, Cond.methodLink RX4 287 yX1_keyWithout, Cond.methodLink RX4 195 yX1_keyOf, Cond.methodLink RL 104 yX4_ifBid, Cond.instanceMethod yX4_ifBid, Cond.selects RX4 yX4_ifBid yX4_ifBid, Cond.code yX4_ifBid cX4_ifBid 6 (some .int), Cond.methodLink RX4 207 yX1_spotOf, Cond.instanceMethod yX1_spotOf, Cond.selects RX1 yX1_spotOf yX1_spotOf, Cond.code yX1_spotOf cX1_spotOf 3 (some .int)]
def wsL_law0 : List Cond := (wsL_law0_r1 ++ (wsL_law0_r2 ++ (wsL_law0_r3 ++ (wsL_law0_r4 ++ (wsL_law0_r5 ++ (wsL_law0_r6 ++ (wsL_law0_r7 ++ (wsL_law0_r8 ++ (wsL_law0_r9 ++ (wsL_law0_r10 ++ (wsL_law0_r11 ++ (wsL_law0_r12 ++ (wsL_law0_r13 ++ (wsL_law0_r14 ++ (wsL_law0_r15 ++ (wsL_law0_r16 ++ (wsL_law0_r17 ++ (wsL_law0_r18 ++ wsL_law0_r19)))))))))))))))))) ++ wsX40 ++ wsX20 ++ wsX10 ++ wsX00 ++ wsX30 ++ ([] : List Cond)
def wsL_law : List Cond := wsL_law0 ++ (vx_atS RX4 121 "java/lang/IllegalArgumentException" ["java/lang/RuntimeException", "java/lang/Exception"]).filter goodWord ++ (vx_atS RX4 267 "java/lang/IndexOutOfBoundsException" ["java/lang/RuntimeException", "java/lang/Exception"]).filter goodWord ++ (vx_atS RX4 274 "java/lang/IllegalStateException" ["java/lang/RuntimeException", "java/lang/Exception"]).filter goodWord
end
section
theorem dX0_init_0 : decode cX0_init 0 = .ok (.aload_n 0, 1) := by decide +kernel
theorem dX0_init_1 : decode cX0_init 1 = .ok (.invokespecial 1, 3) := by decide +kernel
theorem dX0_init_4 : decode cX0_init 4 = .ok (.aload_n 0, 1) := by decide +kernel
theorem dX0_init_5 : decode cX0_init 5 = .ok (.sipush 1044, 3) := by decide +kernel
theorem dX0_init_8 : decode cX0_init 8 = .ok (.newarray .int, 2) := by decide +kernel
theorem dX0_init_10 : decode cX0_init 10 = .ok (.putfield 11, 3) := by decide +kernel
theorem dX0_init_13 : decode cX0_init 13 = .ok (.aload_n 0, 1) := by decide +kernel
theorem dX0_init_14 : decode cX0_init 14 = .ok (.sipush 174, 3) := by decide +kernel
theorem dX0_init_17 : decode cX0_init 17 = .ok (.newarray .int, 2) := by decide +kernel
theorem dX0_init_19 : decode cX0_init 19 = .ok (.putfield 15, 3) := by decide +kernel
theorem dX0_init_22 : decode cX0_init 22 = .ok (.return_, 1) := by decide +kernel
set_option maxRecDepth 20000 in
theorem ggX0_save_X0_dropOldest : GoodIn wsX0_save wsX0_dropOldest := goodIn_r _ [7, 2, 1, 22, 23, 24, 25] (by decide +kernel) (by decide +kernel)
set_option maxRecDepth 20000 in
theorem gX0_save_X0_dropOldest : GoodIn wsX0_save (wsV RX0 22 RX0 yX0_dropOldest wsX0_dropOldest) := goodIn_app (goodIn_of _ (by decide +kernel)) ggX0_save_X0_dropOldest
set_option maxRecDepth 20000 in
theorem ggX0_save_X2_copyTo : GoodIn wsX0_save wsX2_copyTo := goodIn_r _ [12, 13, 14, 15, 11, 16, 17, 18, 19, 20, 21, 26] (by decide +kernel) (by decide +kernel)
set_option maxRecDepth 20000 in
theorem gX0_save_X2_copyTo : GoodIn wsX0_save (wsV RX0 25 RX2 yX2_copyTo wsX2_copyTo) := goodIn_app (goodIn_of _ (by decide +kernel)) ggX0_save_X2_copyTo
theorem dX0_save_0 : decode cX0_save 0 = .ok (.aload_n 0, 1) := by decide +kernel
theorem dX0_save_1 : decode cX0_save 1 = .ok (.getfield 18, 3) := by decide +kernel
theorem dX0_save_4 : decode cX0_save 4 = .ok (.bipush 6, 2) := by decide +kernel
theorem dX0_save_6 : decode cX0_save 6 = .ok (.if_icmp .ne 7, 3) := by decide +kernel
theorem dX0_save_9 : decode cX0_save 9 = .ok (.aload_n 0, 1) := by decide +kernel
theorem dX0_save_10 : decode cX0_save 10 = .ok (.invokevirtual 22, 3) := by decide +kernel
theorem dX0_save_13 : decode cX0_save 13 = .ok (.aload_n 1, 1) := by decide +kernel
theorem dX0_save_14 : decode cX0_save 14 = .ok (.aload_n 0, 1) := by decide +kernel
theorem dX0_save_15 : decode cX0_save 15 = .ok (.getfield 11, 3) := by decide +kernel
theorem dX0_save_18 : decode cX0_save 18 = .ok (.aload_n 0, 1) := by decide +kernel
theorem dX0_save_19 : decode cX0_save 19 = .ok (.getfield 18, 3) := by decide +kernel
theorem dX0_save_22 : decode cX0_save 22 = .ok (.sipush 174, 3) := by decide +kernel
theorem dX0_save_25 : decode cX0_save 25 = .ok (.imul, 1) := by decide +kernel
theorem dX0_save_26 : decode cX0_save 26 = .ok (.invokevirtual 25, 3) := by decide +kernel
theorem dX0_save_29 : decode cX0_save 29 = .ok (.aload_n 0, 1) := by decide +kernel
theorem dX0_save_30 : decode cX0_save 30 = .ok (.dup, 1) := by decide +kernel
theorem dX0_save_31 : decode cX0_save 31 = .ok (.getfield 18, 3) := by decide +kernel
theorem dX0_save_34 : decode cX0_save 34 = .ok (.iconst 1, 1) := by decide +kernel
theorem dX0_save_35 : decode cX0_save 35 = .ok (.iadd, 1) := by decide +kernel
theorem dX0_save_36 : decode cX0_save 36 = .ok (.putfield 18, 3) := by decide +kernel
theorem dX0_save_39 : decode cX0_save 39 = .ok (.return_, 1) := by decide +kernel
theorem dX0_dropOldest_0 : decode cX0_dropOldest 0 = .ok (.iconst 0, 1) := by decide +kernel
theorem dX0_dropOldest_1 : decode cX0_dropOldest 1 = .ok (.istore_n 1, 1) := by decide +kernel
theorem dX0_dropOldest_2 : decode cX0_dropOldest 2 = .ok (.iload_n 1, 1) := by decide +kernel
theorem dX0_dropOldest_3 : decode cX0_dropOldest 3 = .ok (.sipush 174, 3) := by decide +kernel
theorem dX0_dropOldest_6 : decode cX0_dropOldest 6 = .ok (.iadd, 1) := by decide +kernel
theorem dX0_dropOldest_7 : decode cX0_dropOldest 7 = .ok (.aload_n 0, 1) := by decide +kernel
theorem dX0_dropOldest_8 : decode cX0_dropOldest 8 = .ok (.getfield 11, 3) := by decide +kernel
theorem dX0_dropOldest_11 : decode cX0_dropOldest 11 = .ok (.arraylength, 1) := by decide +kernel
theorem dX0_dropOldest_12 : decode cX0_dropOldest 12 = .ok (.if_icmp .ge 25, 3) := by decide +kernel
theorem dX0_dropOldest_15 : decode cX0_dropOldest 15 = .ok (.aload_n 0, 1) := by decide +kernel
theorem dX0_dropOldest_16 : decode cX0_dropOldest 16 = .ok (.getfield 11, 3) := by decide +kernel
theorem dX0_dropOldest_19 : decode cX0_dropOldest 19 = .ok (.iload_n 1, 1) := by decide +kernel
theorem dX0_dropOldest_20 : decode cX0_dropOldest 20 = .ok (.aload_n 0, 1) := by decide +kernel
theorem dX0_dropOldest_21 : decode cX0_dropOldest 21 = .ok (.getfield 11, 3) := by decide +kernel
theorem dX0_dropOldest_24 : decode cX0_dropOldest 24 = .ok (.iload_n 1, 1) := by decide +kernel
theorem dX0_dropOldest_25 : decode cX0_dropOldest 25 = .ok (.sipush 174, 3) := by decide +kernel
theorem dX0_dropOldest_28 : decode cX0_dropOldest 28 = .ok (.iadd, 1) := by decide +kernel
theorem dX0_dropOldest_29 : decode cX0_dropOldest 29 = .ok (.iaload, 1) := by decide +kernel
theorem dX0_dropOldest_30 : decode cX0_dropOldest 30 = .ok (.iastore, 1) := by decide +kernel
theorem dX0_dropOldest_31 : decode cX0_dropOldest 31 = .ok (.iinc 1 1, 3) := by decide +kernel
theorem dX0_dropOldest_34 : decode cX0_dropOldest 34 = .ok (.goto (-32), 3) := by decide +kernel
theorem dX0_dropOldest_37 : decode cX0_dropOldest 37 = .ok (.aload_n 0, 1) := by decide +kernel
theorem dX0_dropOldest_38 : decode cX0_dropOldest 38 = .ok (.dup, 1) := by decide +kernel
theorem dX0_dropOldest_39 : decode cX0_dropOldest 39 = .ok (.getfield 18, 3) := by decide +kernel
theorem dX0_dropOldest_42 : decode cX0_dropOldest 42 = .ok (.iconst 1, 1) := by decide +kernel
theorem dX0_dropOldest_43 : decode cX0_dropOldest 43 = .ok (.isub, 1) := by decide +kernel
theorem dX0_dropOldest_44 : decode cX0_dropOldest 44 = .ok (.putfield 18, 3) := by decide +kernel
theorem dX0_dropOldest_47 : decode cX0_dropOldest 47 = .ok (.return_, 1) := by decide +kernel
theorem dX0_savedStates_0 : decode cX0_savedStates 0 = .ok (.aload_n 0, 1) := by decide +kernel
theorem dX0_savedStates_1 : decode cX0_savedStates 1 = .ok (.getfield 18, 3) := by decide +kernel
theorem dX0_savedStates_4 : decode cX0_savedStates 4 = .ok (.ireturn, 1) := by decide +kernel
set_option maxRecDepth 20000 in
theorem ggX0_restoreLatest_X2_copyFrom : GoodIn wsX0_restoreLatest wsX2_copyFrom := goodIn_r _ [7, 8, 9, 10, 6, 11, 12, 17] (by decide +kernel) (by decide +kernel)
set_option maxRecDepth 20000 in
theorem gX0_restoreLatest_X2_copyFrom : GoodIn wsX0_restoreLatest (wsV RX0 29 RX2 yX2_copyFrom wsX2_copyFrom) := goodIn_app (goodIn_of _ (by decide +kernel)) ggX0_restoreLatest_X2_copyFrom
theorem dX0_restoreLatest_0 : decode cX0_restoreLatest 0 = .ok (.aload_n 0, 1) := by decide +kernel
theorem dX0_restoreLatest_1 : decode cX0_restoreLatest 1 = .ok (.getfield 18, 3) := by decide +kernel
theorem dX0_restoreLatest_4 : decode cX0_restoreLatest 4 = .ok (.ifCond .le 29, 3) := by decide +kernel
theorem dX0_restoreLatest_7 : decode cX0_restoreLatest 7 = .ok (.aload_n 0, 1) := by decide +kernel
theorem dX0_restoreLatest_8 : decode cX0_restoreLatest 8 = .ok (.dup, 1) := by decide +kernel
theorem dX0_restoreLatest_9 : decode cX0_restoreLatest 9 = .ok (.getfield 18, 3) := by decide +kernel
theorem dX0_restoreLatest_12 : decode cX0_restoreLatest 12 = .ok (.iconst 1, 1) := by decide +kernel
theorem dX0_restoreLatest_13 : decode cX0_restoreLatest 13 = .ok (.isub, 1) := by decide +kernel
theorem dX0_restoreLatest_14 : decode cX0_restoreLatest 14 = .ok (.putfield 18, 3) := by decide +kernel
theorem dX0_restoreLatest_17 : decode cX0_restoreLatest 17 = .ok (.aload_n 1, 1) := by decide +kernel
theorem dX0_restoreLatest_18 : decode cX0_restoreLatest 18 = .ok (.aload_n 0, 1) := by decide +kernel
theorem dX0_restoreLatest_19 : decode cX0_restoreLatest 19 = .ok (.getfield 11, 3) := by decide +kernel
theorem dX0_restoreLatest_22 : decode cX0_restoreLatest 22 = .ok (.aload_n 0, 1) := by decide +kernel
theorem dX0_restoreLatest_23 : decode cX0_restoreLatest 23 = .ok (.getfield 18, 3) := by decide +kernel
theorem dX0_restoreLatest_26 : decode cX0_restoreLatest 26 = .ok (.sipush 174, 3) := by decide +kernel
theorem dX0_restoreLatest_29 : decode cX0_restoreLatest 29 = .ok (.imul, 1) := by decide +kernel
theorem dX0_restoreLatest_30 : decode cX0_restoreLatest 30 = .ok (.invokevirtual 29, 3) := by decide +kernel
theorem dX0_restoreLatest_33 : decode cX0_restoreLatest 33 = .ok (.return_, 1) := by decide +kernel
theorem dX0_hasSnapshot_0 : decode cX0_hasSnapshot 0 = .ok (.aload_n 0, 1) := by decide +kernel
theorem dX0_hasSnapshot_1 : decode cX0_hasSnapshot 1 = .ok (.getfield 32, 3) := by decide +kernel
theorem dX0_hasSnapshot_4 : decode cX0_hasSnapshot 4 = .ok (.ireturn, 1) := by decide +kernel
set_option maxRecDepth 20000 in
theorem ggX0_takeSnapshot_X2_copyTo : GoodIn wsX0_takeSnapshot wsX2_copyTo := goodIn_r _ [7, 8, 9, 10, 6, 11, 12, 13, 14, 15, 16, 21] (by decide +kernel) (by decide +kernel)
set_option maxRecDepth 20000 in
theorem gX0_takeSnapshot_X2_copyTo : GoodIn wsX0_takeSnapshot (wsV RX0 25 RX2 yX2_copyTo wsX2_copyTo) := goodIn_app (goodIn_of _ (by decide +kernel)) ggX0_takeSnapshot_X2_copyTo
theorem dX0_takeSnapshot_0 : decode cX0_takeSnapshot 0 = .ok (.aload_n 1, 1) := by decide +kernel
theorem dX0_takeSnapshot_1 : decode cX0_takeSnapshot 1 = .ok (.aload_n 0, 1) := by decide +kernel
theorem dX0_takeSnapshot_2 : decode cX0_takeSnapshot 2 = .ok (.getfield 15, 3) := by decide +kernel
theorem dX0_takeSnapshot_5 : decode cX0_takeSnapshot 5 = .ok (.iconst 0, 1) := by decide +kernel
theorem dX0_takeSnapshot_6 : decode cX0_takeSnapshot 6 = .ok (.invokevirtual 25, 3) := by decide +kernel
theorem dX0_takeSnapshot_9 : decode cX0_takeSnapshot 9 = .ok (.aload_n 0, 1) := by decide +kernel
theorem dX0_takeSnapshot_10 : decode cX0_takeSnapshot 10 = .ok (.iconst 1, 1) := by decide +kernel
theorem dX0_takeSnapshot_11 : decode cX0_takeSnapshot 11 = .ok (.putfield 32, 3) := by decide +kernel
theorem dX0_takeSnapshot_14 : decode cX0_takeSnapshot 14 = .ok (.return_, 1) := by decide +kernel
set_option maxRecDepth 20000 in
theorem ggX0_restoreSnapshot_X2_copyFrom : GoodIn wsX0_restoreSnapshot wsX2_copyFrom := goodIn_r _ [6, 7, 8, 9, 5, 10, 11, 16] (by decide +kernel) (by decide +kernel)
set_option maxRecDepth 20000 in
theorem gX0_restoreSnapshot_X2_copyFrom : GoodIn wsX0_restoreSnapshot (wsV RX0 29 RX2 yX2_copyFrom wsX2_copyFrom) := goodIn_app (goodIn_of _ (by decide +kernel)) ggX0_restoreSnapshot_X2_copyFrom
theorem dX0_restoreSnapshot_0 : decode cX0_restoreSnapshot 0 = .ok (.aload_n 1, 1) := by decide +kernel
theorem dX0_restoreSnapshot_1 : decode cX0_restoreSnapshot 1 = .ok (.aload_n 0, 1) := by decide +kernel
theorem dX0_restoreSnapshot_2 : decode cX0_restoreSnapshot 2 = .ok (.getfield 15, 3) := by decide +kernel
theorem dX0_restoreSnapshot_5 : decode cX0_restoreSnapshot 5 = .ok (.iconst 0, 1) := by decide +kernel
theorem dX0_restoreSnapshot_6 : decode cX0_restoreSnapshot 6 = .ok (.invokevirtual 29, 3) := by decide +kernel
theorem dX0_restoreSnapshot_9 : decode cX0_restoreSnapshot 9 = .ok (.return_, 1) := by decide +kernel
theorem dX1_init_0 : decode cX1_init 0 = .ok (.aload_n 0, 1) := by decide +kernel
theorem dX1_init_1 : decode cX1_init 1 = .ok (.invokespecial 5, 3) := by decide +kernel
theorem dX1_init_4 : decode cX1_init 4 = .ok (.aload_n 0, 1) := by decide +kernel
theorem dX1_init_5 : decode cX1_init 5 = .ok (.bipush 36, 2) := by decide +kernel
theorem dX1_init_7 : decode cX1_init 7 = .ok (.newarray .long, 2) := by decide +kernel
theorem dX1_init_9 : decode cX1_init 9 = .ok (.putfield 11, 3) := by decide +kernel
theorem dX1_init_12 : decode cX1_init 12 = .ok (.aload_n 0, 1) := by decide +kernel
theorem dX1_init_13 : decode cX1_init 13 = .ok (.bipush 64, 2) := by decide +kernel
theorem dX1_init_15 : decode cX1_init 15 = .ok (.newarray .long, 2) := by decide +kernel
theorem dX1_init_17 : decode cX1_init 17 = .ok (.putfield 15, 3) := by decide +kernel
theorem dX1_init_20 : decode cX1_init 20 = .ok (.return_, 1) := by decide +kernel
set_option maxRecDepth 20000 in
theorem ggX1_keyOf_X2_get : GoodIn wsX1_keyOf wsX2_get := goodIn_r _ [6, 7, 12] (by decide +kernel) (by decide +kernel)
set_option maxRecDepth 20000 in
theorem gX1_keyOf_X2_get : GoodIn wsX1_keyOf (wsV RX1 20 RX2 yX2_get wsX2_get) := goodIn_app (goodIn_of _ (by decide +kernel)) ggX1_keyOf_X2_get
set_option maxRecDepth 20000 in
theorem ggX1_keyOf_X1_digitShift : GoodIn wsX1_keyOf wsX1_digitShift := goodIn_r _ [11] (by decide +kernel) (by decide +kernel)
set_option maxRecDepth 20000 in
theorem gX1_keyOf_X1_digitShift : GoodIn wsX1_keyOf (va_wsS RX1 24 yX1_digitShift wsX1_digitShift) := goodIn_app (goodIn_of _ (by decide +kernel)) ggX1_keyOf_X1_digitShift
theorem dX1_keyOf_0 : decode cX1_keyOf 0 = .ok (.iload_n 3, 1) := by decide +kernel
theorem dX1_keyOf_1 : decode cX1_keyOf 1 = .ok (.aload_n 0, 1) := by decide +kernel
theorem dX1_keyOf_2 : decode cX1_keyOf 2 = .ok (.iconst 0, 1) := by decide +kernel
theorem dX1_keyOf_3 : decode cX1_keyOf 3 = .ok (.iload_n 2, 1) := by decide +kernel
theorem dX1_keyOf_4 : decode cX1_keyOf 4 = .ok (.invokevirtual 20, 3) := by decide +kernel
theorem dX1_keyOf_7 : decode cX1_keyOf 7 = .ok (.isub, 1) := by decide +kernel
theorem dX1_keyOf_8 : decode cX1_keyOf 8 = .ok (.istore 4, 2) := by decide +kernel
theorem dX1_keyOf_10 : decode cX1_keyOf 10 = .ok (.iload_n 3, 1) := by decide +kernel
theorem dX1_keyOf_11 : decode cX1_keyOf 11 = .ok (.ifCond .eq 19, 3) := by decide +kernel
theorem dX1_keyOf_14 : decode cX1_keyOf 14 = .ok (.iload 4, 2) := by decide +kernel
theorem dX1_keyOf_16 : decode cX1_keyOf 16 = .ok (.ifCond .lt 14, 3) := by decide +kernel
theorem dX1_keyOf_19 : decode cX1_keyOf 19 = .ok (.aload_n 0, 1) := by decide +kernel
theorem dX1_keyOf_20 : decode cX1_keyOf 20 = .ok (.bipush 30, 2) := by decide +kernel
theorem dX1_keyOf_22 : decode cX1_keyOf 22 = .ok (.iload_n 1, 1) := by decide +kernel
theorem dX1_keyOf_23 : decode cX1_keyOf 23 = .ok (.invokevirtual 20, 3) := by decide +kernel
theorem dX1_keyOf_26 : decode cX1_keyOf 26 = .ok (.iload_n 3, 1) := by decide +kernel
theorem dX1_keyOf_27 : decode cX1_keyOf 27 = .ok (.if_icmp .ge 5, 3) := by decide +kernel
theorem dX1_keyOf_30 : decode cX1_keyOf 30 = .ok (.lconst 0, 1) := by decide +kernel
theorem dX1_keyOf_31 : decode cX1_keyOf 31 = .ok (.lreturn, 1) := by decide +kernel
theorem dX1_keyOf_32 : decode cX1_keyOf 32 = .ok (.bipush 6, 2) := by decide +kernel
theorem dX1_keyOf_34 : decode cX1_keyOf 34 = .ok (.iload_n 1, 1) := by decide +kernel
theorem dX1_keyOf_35 : decode cX1_keyOf 35 = .ok (.isub, 1) := by decide +kernel
theorem dX1_keyOf_36 : decode cX1_keyOf 36 = .ok (.i2l, 1) := by decide +kernel
theorem dX1_keyOf_37 : decode cX1_keyOf 37 = .ok (.iload_n 2, 1) := by decide +kernel
theorem dX1_keyOf_38 : decode cX1_keyOf 38 = .ok (.invokestatic 24, 3) := by decide +kernel
theorem dX1_keyOf_41 : decode cX1_keyOf 41 = .ok (.lshl, 1) := by decide +kernel
theorem dX1_keyOf_42 : decode cX1_keyOf 42 = .ok (.lstore 5, 2) := by decide +kernel
theorem dX1_keyOf_44 : decode cX1_keyOf 44 = .ok (.iload 4, 2) := by decide +kernel
theorem dX1_keyOf_46 : decode cX1_keyOf 46 = .ok (.i2l, 1) := by decide +kernel
theorem dX1_keyOf_47 : decode cX1_keyOf 47 = .ok (.bipush 21, 2) := by decide +kernel
theorem dX1_keyOf_49 : decode cX1_keyOf 49 = .ok (.lshl, 1) := by decide +kernel
theorem dX1_keyOf_50 : decode cX1_keyOf 50 = .ok (.ldc2_w 28, 3) := by decide +kernel
theorem dX1_keyOf_53 : decode cX1_keyOf 53 = .ok (.ladd, 1) := by decide +kernel
theorem dX1_keyOf_54 : decode cX1_keyOf 54 = .ok (.lload 5, 2) := by decide +kernel
theorem dX1_keyOf_56 : decode cX1_keyOf 56 = .ok (.ladd, 1) := by decide +kernel
theorem dX1_keyOf_57 : decode cX1_keyOf 57 = .ok (.lreturn, 1) := by decide +kernel
theorem dX1_digitShift_0 : decode cX1_digitShift 0 = .ok (.iconst 3, 1) := by decide +kernel
theorem dX1_digitShift_1 : decode cX1_digitShift 1 = .ok (.iconst 5, 1) := by decide +kernel
theorem dX1_digitShift_2 : decode cX1_digitShift 2 = .ok (.iload_n 0, 1) := by decide +kernel
theorem dX1_digitShift_3 : decode cX1_digitShift 3 = .ok (.isub, 1) := by decide +kernel
theorem dX1_digitShift_4 : decode cX1_digitShift 4 = .ok (.imul, 1) := by decide +kernel
theorem dX1_digitShift_5 : decode cX1_digitShift 5 = .ok (.ireturn, 1) := by decide +kernel
theorem dX1_worthOf_0 : decode cX1_worthOf 0 = .ok (.lload_n 0, 1) := by decide +kernel
theorem dX1_worthOf_1 : decode cX1_worthOf 1 = .ok (.bipush 21, 2) := by decide +kernel
theorem dX1_worthOf_3 : decode cX1_worthOf 3 = .ok (.lshr, 1) := by decide +kernel
theorem dX1_worthOf_4 : decode cX1_worthOf 4 = .ok (.l2i, 1) := by decide +kernel
theorem dX1_worthOf_5 : decode cX1_worthOf 5 = .ok (.ireturn, 1) := by decide +kernel
theorem dX1_setWithout_0 : decode cX1_setWithout 0 = .ok (.iload_n 1, 1) := by decide +kernel
theorem dX1_setWithout_1 : decode cX1_setWithout 1 = .ok (.ifCond .lt 19, 3) := by decide +kernel
theorem dX1_setWithout_4 : decode cX1_setWithout 4 = .ok (.iload_n 1, 1) := by decide +kernel
theorem dX1_setWithout_5 : decode cX1_setWithout 5 = .ok (.bipush 6, 2) := by decide +kernel
theorem dX1_setWithout_7 : decode cX1_setWithout 7 = .ok (.if_icmp .ge 13, 3) := by decide +kernel
theorem dX1_setWithout_10 : decode cX1_setWithout 10 = .ok (.iload_n 0, 1) := by decide +kernel
theorem dX1_setWithout_11 : decode cX1_setWithout 11 = .ok (.iconst 1, 1) := by decide +kernel
theorem dX1_setWithout_12 : decode cX1_setWithout 12 = .ok (.iload_n 1, 1) := by decide +kernel
theorem dX1_setWithout_13 : decode cX1_setWithout 13 = .ok (.ishl, 1) := by decide +kernel
theorem dX1_setWithout_14 : decode cX1_setWithout 14 = .ok (.iconst (-1), 1) := by decide +kernel
theorem dX1_setWithout_15 : decode cX1_setWithout 15 = .ok (.ixor, 1) := by decide +kernel
theorem dX1_setWithout_16 : decode cX1_setWithout 16 = .ok (.iand, 1) := by decide +kernel
theorem dX1_setWithout_17 : decode cX1_setWithout 17 = .ok (.goto 4, 3) := by decide +kernel
theorem dX1_setWithout_20 : decode cX1_setWithout 20 = .ok (.iload_n 0, 1) := by decide +kernel
theorem dX1_setWithout_21 : decode cX1_setWithout 21 = .ok (.ireturn, 1) := by decide +kernel
theorem dX1_isIn_0 : decode cX1_isIn 0 = .ok (.iload_n 0, 1) := by decide +kernel
theorem dX1_isIn_1 : decode cX1_isIn 1 = .ok (.iload_n 1, 1) := by decide +kernel
theorem dX1_isIn_2 : decode cX1_isIn 2 = .ok (.ishr, 1) := by decide +kernel
theorem dX1_isIn_3 : decode cX1_isIn 3 = .ok (.iconst 1, 1) := by decide +kernel
theorem dX1_isIn_4 : decode cX1_isIn 4 = .ok (.iand, 1) := by decide +kernel
theorem dX1_isIn_5 : decode cX1_isIn 5 = .ok (.ifCond .eq 7, 3) := by decide +kernel
theorem dX1_isIn_8 : decode cX1_isIn 8 = .ok (.iconst 1, 1) := by decide +kernel
theorem dX1_isIn_9 : decode cX1_isIn 9 = .ok (.goto 4, 3) := by decide +kernel
theorem dX1_isIn_12 : decode cX1_isIn 12 = .ok (.iconst 0, 1) := by decide +kernel
theorem dX1_isIn_13 : decode cX1_isIn 13 = .ok (.ireturn, 1) := by decide +kernel
set_option maxRecDepth 20000 in
theorem ggX1_readBids_X2_ofBid : GoodIn wsX1_readBids wsX2_ofBid := goodIn_r _ [5, 6, 7, 4, 8, 9, 10, 11, 12, 13, 28] (by decide +kernel) (by decide +kernel)
set_option maxRecDepth 20000 in
theorem gX1_readBids_X2_ofBid : GoodIn wsX1_readBids (wsV RX1 30 RX2 yX2_ofBid wsX2_ofBid) := goodIn_app (goodIn_of _ (by decide +kernel)) ggX1_readBids_X2_ofBid
set_option maxRecDepth 20000 in
theorem ggX1_readBids_X1_keyOf : GoodIn wsX1_readBids wsX1_keyOf := goodIn_r _ [17, 18, 19, 10, 11, 4, 12, 13, 20, 21, 16, 22, 28] (by decide +kernel) (by decide +kernel)
set_option maxRecDepth 20000 in
theorem gX1_readBids_X1_keyOf : GoodIn wsX1_readBids (va_wsS RX1 34 yX1_keyOf wsX1_keyOf) := goodIn_app (goodIn_of _ (by decide +kernel)) ggX1_readBids_X1_keyOf
set_option maxRecDepth 20000 in
theorem ggX1_readBids_X1_replaceBid : GoodIn wsX1_readBids wsX1_replaceBid := goodIn_r _ [26, 27, 29, 30] (by decide +kernel) (by decide +kernel)
set_option maxRecDepth 20000 in
theorem gX1_readBids_X1_replaceBid : GoodIn wsX1_readBids (wsV RX1 38 RX1 yX1_replaceBid wsX1_replaceBid) := goodIn_app (goodIn_of _ (by decide +kernel)) ggX1_readBids_X1_replaceBid
theorem dX1_readBids_0 : decode cX1_readBids 0 = .ok (.iconst 0, 1) := by decide +kernel
theorem dX1_readBids_1 : decode cX1_readBids 1 = .ok (.istore_n 2, 1) := by decide +kernel
theorem dX1_readBids_2 : decode cX1_readBids 2 = .ok (.iload_n 2, 1) := by decide +kernel
theorem dX1_readBids_3 : decode cX1_readBids 3 = .ok (.bipush 6, 2) := by decide +kernel
theorem dX1_readBids_5 : decode cX1_readBids 5 = .ok (.if_icmp .ge 47, 3) := by decide +kernel
theorem dX1_readBids_8 : decode cX1_readBids 8 = .ok (.iconst 0, 1) := by decide +kernel
theorem dX1_readBids_9 : decode cX1_readBids 9 = .ok (.istore_n 3, 1) := by decide +kernel
theorem dX1_readBids_10 : decode cX1_readBids 10 = .ok (.iload_n 3, 1) := by decide +kernel
theorem dX1_readBids_11 : decode cX1_readBids 11 = .ok (.bipush 6, 2) := by decide +kernel
theorem dX1_readBids_13 : decode cX1_readBids 13 = .ok (.if_icmp .ge 33, 3) := by decide +kernel
theorem dX1_readBids_16 : decode cX1_readBids 16 = .ok (.aload_n 1, 1) := by decide +kernel
theorem dX1_readBids_17 : decode cX1_readBids 17 = .ok (.bipush 54, 2) := by decide +kernel
theorem dX1_readBids_19 : decode cX1_readBids 19 = .ok (.iload_n 2, 1) := by decide +kernel
theorem dX1_readBids_20 : decode cX1_readBids 20 = .ok (.iload_n 3, 1) := by decide +kernel
theorem dX1_readBids_21 : decode cX1_readBids 21 = .ok (.invokevirtual 30, 3) := by decide +kernel
theorem dX1_readBids_24 : decode cX1_readBids 24 = .ok (.istore 4, 2) := by decide +kernel
theorem dX1_readBids_26 : decode cX1_readBids 26 = .ok (.aload_n 0, 1) := by decide +kernel
theorem dX1_readBids_27 : decode cX1_readBids 27 = .ok (.iload_n 2, 1) := by decide +kernel
theorem dX1_readBids_28 : decode cX1_readBids 28 = .ok (.iload_n 3, 1) := by decide +kernel
theorem dX1_readBids_29 : decode cX1_readBids 29 = .ok (.aload_n 1, 1) := by decide +kernel
theorem dX1_readBids_30 : decode cX1_readBids 30 = .ok (.iload_n 2, 1) := by decide +kernel
theorem dX1_readBids_31 : decode cX1_readBids 31 = .ok (.iload_n 3, 1) := by decide +kernel
theorem dX1_readBids_32 : decode cX1_readBids 32 = .ok (.iload 4, 2) := by decide +kernel
theorem dX1_readBids_34 : decode cX1_readBids 34 = .ok (.invokestatic 34, 3) := by decide +kernel
theorem dX1_readBids_37 : decode cX1_readBids 37 = .ok (.invokevirtual 38, 3) := by decide +kernel
theorem dX1_readBids_40 : decode cX1_readBids 40 = .ok (.iinc 3 1, 3) := by decide +kernel
theorem dX1_readBids_43 : decode cX1_readBids 43 = .ok (.goto (-33), 3) := by decide +kernel
theorem dX1_readBids_46 : decode cX1_readBids 46 = .ok (.iinc 2 1, 3) := by decide +kernel
theorem dX1_readBids_49 : decode cX1_readBids 49 = .ok (.goto (-47), 3) := by decide +kernel
theorem dX1_readBids_52 : decode cX1_readBids 52 = .ok (.return_, 1) := by decide +kernel
theorem dX1_replaceBid_0 : decode cX1_replaceBid 0 = .ok (.iload_n 1, 1) := by decide +kernel
theorem dX1_replaceBid_1 : decode cX1_replaceBid 1 = .ok (.bipush 6, 2) := by decide +kernel
theorem dX1_replaceBid_3 : decode cX1_replaceBid 3 = .ok (.imul, 1) := by decide +kernel
theorem dX1_replaceBid_4 : decode cX1_replaceBid 4 = .ok (.iload_n 2, 1) := by decide +kernel
theorem dX1_replaceBid_5 : decode cX1_replaceBid 5 = .ok (.iadd, 1) := by decide +kernel
theorem dX1_replaceBid_6 : decode cX1_replaceBid 6 = .ok (.istore 5, 2) := by decide +kernel
theorem dX1_replaceBid_8 : decode cX1_replaceBid 8 = .ok (.iload 5, 2) := by decide +kernel
theorem dX1_replaceBid_10 : decode cX1_replaceBid 10 = .ok (.ifCond .lt 21, 3) := by decide +kernel
theorem dX1_replaceBid_13 : decode cX1_replaceBid 13 = .ok (.iload 5, 2) := by decide +kernel
theorem dX1_replaceBid_15 : decode cX1_replaceBid 15 = .ok (.aload_n 0, 1) := by decide +kernel
theorem dX1_replaceBid_16 : decode cX1_replaceBid 16 = .ok (.getfield 11, 3) := by decide +kernel
theorem dX1_replaceBid_19 : decode cX1_replaceBid 19 = .ok (.arraylength, 1) := by decide +kernel
theorem dX1_replaceBid_20 : decode cX1_replaceBid 20 = .ok (.if_icmp .ge 11, 3) := by decide +kernel
theorem dX1_replaceBid_23 : decode cX1_replaceBid 23 = .ok (.aload_n 0, 1) := by decide +kernel
theorem dX1_replaceBid_24 : decode cX1_replaceBid 24 = .ok (.getfield 11, 3) := by decide +kernel
theorem dX1_replaceBid_27 : decode cX1_replaceBid 27 = .ok (.iload 5, 2) := by decide +kernel
theorem dX1_replaceBid_29 : decode cX1_replaceBid 29 = .ok (.lload_n 3, 1) := by decide +kernel
theorem dX1_replaceBid_30 : decode cX1_replaceBid 30 = .ok (.lastore, 1) := by decide +kernel
theorem dX1_replaceBid_31 : decode cX1_replaceBid 31 = .ok (.return_, 1) := by decide +kernel
theorem dX1_keyIn_0 : decode cX1_keyIn 0 = .ok (.iload_n 1, 1) := by decide +kernel
theorem dX1_keyIn_1 : decode cX1_keyIn 1 = .ok (.bipush 6, 2) := by decide +kernel
theorem dX1_keyIn_3 : decode cX1_keyIn 3 = .ok (.imul, 1) := by decide +kernel
theorem dX1_keyIn_4 : decode cX1_keyIn 4 = .ok (.iload_n 2, 1) := by decide +kernel
theorem dX1_keyIn_5 : decode cX1_keyIn 5 = .ok (.iadd, 1) := by decide +kernel
theorem dX1_keyIn_6 : decode cX1_keyIn 6 = .ok (.istore_n 3, 1) := by decide +kernel
theorem dX1_keyIn_7 : decode cX1_keyIn 7 = .ok (.iload_n 3, 1) := by decide +kernel
theorem dX1_keyIn_8 : decode cX1_keyIn 8 = .ok (.ifCond .lt 15, 3) := by decide +kernel
theorem dX1_keyIn_11 : decode cX1_keyIn 11 = .ok (.iload_n 3, 1) := by decide +kernel
theorem dX1_keyIn_12 : decode cX1_keyIn 12 = .ok (.aload_n 0, 1) := by decide +kernel
theorem dX1_keyIn_13 : decode cX1_keyIn 13 = .ok (.arraylength, 1) := by decide +kernel
theorem dX1_keyIn_14 : decode cX1_keyIn 14 = .ok (.if_icmp .ge 9, 3) := by decide +kernel
theorem dX1_keyIn_17 : decode cX1_keyIn 17 = .ok (.aload_n 0, 1) := by decide +kernel
theorem dX1_keyIn_18 : decode cX1_keyIn 18 = .ok (.iload_n 3, 1) := by decide +kernel
theorem dX1_keyIn_19 : decode cX1_keyIn 19 = .ok (.laload, 1) := by decide +kernel
theorem dX1_keyIn_20 : decode cX1_keyIn 20 = .ok (.goto 4, 3) := by decide +kernel
theorem dX1_keyIn_23 : decode cX1_keyIn 23 = .ok (.lconst 0, 1) := by decide +kernel
theorem dX1_keyIn_24 : decode cX1_keyIn 24 = .ok (.lreturn, 1) := by decide +kernel
set_option maxRecDepth 20000 in
theorem ggX1_find_X1_lookAtSpot : GoodIn wsX1_find wsX1_lookAtSpot := goodIn_r _ [6, 1, 7, 8, 9, 10, 11, 12, 13, 5, 14, 15, 16, 17, 18, 19, 20, 21, 22, 23, 24, 25, 26] (by decide +kernel) (by decide +kernel)
set_option maxRecDepth 20000 in
theorem gX1_find_X1_lookAtSpot : GoodIn wsX1_find (wsV RX1 42 RX1 yX1_lookAtSpot wsX1_lookAtSpot) := goodIn_app (goodIn_of _ (by decide +kernel)) ggX1_find_X1_lookAtSpot
theorem dX1_find_0 : decode cX1_find 0 = .ok (.iconst 0, 1) := by decide +kernel
theorem dX1_find_1 : decode cX1_find 1 = .ok (.istore_n 2, 1) := by decide +kernel
theorem dX1_find_2 : decode cX1_find 2 = .ok (.iload_n 2, 1) := by decide +kernel
theorem dX1_find_3 : decode cX1_find 3 = .ok (.aload_n 0, 1) := by decide +kernel
theorem dX1_find_4 : decode cX1_find 4 = .ok (.getfield 15, 3) := by decide +kernel
theorem dX1_find_7 : decode cX1_find 7 = .ok (.arraylength, 1) := by decide +kernel
theorem dX1_find_8 : decode cX1_find 8 = .ok (.if_icmp .ge 16, 3) := by decide +kernel
theorem dX1_find_11 : decode cX1_find 11 = .ok (.aload_n 0, 1) := by decide +kernel
theorem dX1_find_12 : decode cX1_find 12 = .ok (.getfield 15, 3) := by decide +kernel
theorem dX1_find_15 : decode cX1_find 15 = .ok (.iload_n 2, 1) := by decide +kernel
theorem dX1_find_16 : decode cX1_find 16 = .ok (.lconst 0, 1) := by decide +kernel
theorem dX1_find_17 : decode cX1_find 17 = .ok (.lastore, 1) := by decide +kernel
theorem dX1_find_18 : decode cX1_find 18 = .ok (.iinc 2 1, 3) := by decide +kernel
theorem dX1_find_21 : decode cX1_find 21 = .ok (.goto (-19), 3) := by decide +kernel
theorem dX1_find_24 : decode cX1_find 24 = .ok (.iconst 0, 1) := by decide +kernel
theorem dX1_find_25 : decode cX1_find 25 = .ok (.istore_n 2, 1) := by decide +kernel
theorem dX1_find_26 : decode cX1_find 26 = .ok (.iload_n 2, 1) := by decide +kernel
theorem dX1_find_27 : decode cX1_find 27 = .ok (.bipush 6, 2) := by decide +kernel
theorem dX1_find_29 : decode cX1_find 29 = .ok (.if_icmp .ge 19, 3) := by decide +kernel
theorem dX1_find_32 : decode cX1_find 32 = .ok (.iload_n 2, 1) := by decide +kernel
theorem dX1_find_33 : decode cX1_find 33 = .ok (.iload_n 1, 1) := by decide +kernel
theorem dX1_find_34 : decode cX1_find 34 = .ok (.if_icmp .eq 8, 3) := by decide +kernel
theorem dX1_find_37 : decode cX1_find 37 = .ok (.aload_n 0, 1) := by decide +kernel
theorem dX1_find_38 : decode cX1_find 38 = .ok (.iload_n 2, 1) := by decide +kernel
theorem dX1_find_39 : decode cX1_find 39 = .ok (.invokevirtual 42, 3) := by decide +kernel
theorem dX1_find_42 : decode cX1_find 42 = .ok (.iinc 2 1, 3) := by decide +kernel
theorem dX1_find_45 : decode cX1_find 45 = .ok (.goto (-19), 3) := by decide +kernel
theorem dX1_find_48 : decode cX1_find 48 = .ok (.return_, 1) := by decide +kernel
set_option maxRecDepth 20000 in
theorem ggX1_lookAtSpot_X1_isIn : GoodIn wsX1_lookAtSpot wsX1_isIn := goodIn_r _ [10] (by decide +kernel) (by decide +kernel)
set_option maxRecDepth 20000 in
theorem gX1_lookAtSpot_X1_isIn : GoodIn wsX1_lookAtSpot (va_wsS RX1 46 yX1_isIn wsX1_isIn) := goodIn_app (goodIn_of _ (by decide +kernel)) ggX1_lookAtSpot_X1_isIn
set_option maxRecDepth 20000 in
theorem ggX1_lookAtSpot_X1_keyIn : GoodIn wsX1_lookAtSpot wsX1_keyIn := goodIn_r _ [13] (by decide +kernel) (by decide +kernel)
set_option maxRecDepth 20000 in
theorem gX1_lookAtSpot_X1_keyIn : GoodIn wsX1_lookAtSpot (va_wsS RX1 50 yX1_keyIn wsX1_keyIn) := goodIn_app (goodIn_of _ (by decide +kernel)) ggX1_lookAtSpot_X1_keyIn
set_option maxRecDepth 20000 in
theorem ggX1_lookAtSpot_X1_setWithout : GoodIn wsX1_lookAtSpot wsX1_setWithout := goodIn_r _ [16] (by decide +kernel) (by decide +kernel)
set_option maxRecDepth 20000 in
theorem gX1_lookAtSpot_X1_setWithout : GoodIn wsX1_lookAtSpot (va_wsS RX1 54 yX1_setWithout wsX1_setWithout) := goodIn_app (goodIn_of _ (by decide +kernel)) ggX1_lookAtSpot_X1_setWithout
set_option maxRecDepth 20000 in
theorem ggX1_lookAtSpot_X1_mostOf : GoodIn wsX1_lookAtSpot wsX1_mostOf := goodIn_r _ [20, 1, 21, 22] (by decide +kernel) (by decide +kernel)
set_option maxRecDepth 20000 in
theorem gX1_lookAtSpot_X1_mostOf : GoodIn wsX1_lookAtSpot (wsV RX1 57 RX1 yX1_mostOf wsX1_mostOf) := goodIn_app (goodIn_of _ (by decide +kernel)) ggX1_lookAtSpot_X1_mostOf
theorem dX1_lookAtSpot_0 : decode cX1_lookAtSpot 0 = .ok (.aload_n 0, 1) := by decide +kernel
theorem dX1_lookAtSpot_1 : decode cX1_lookAtSpot 1 = .ok (.getfield 15, 3) := by decide +kernel
theorem dX1_lookAtSpot_4 : decode cX1_lookAtSpot 4 = .ok (.arraylength, 1) := by decide +kernel
theorem dX1_lookAtSpot_5 : decode cX1_lookAtSpot 5 = .ok (.iconst 1, 1) := by decide +kernel
theorem dX1_lookAtSpot_6 : decode cX1_lookAtSpot 6 = .ok (.isub, 1) := by decide +kernel
theorem dX1_lookAtSpot_7 : decode cX1_lookAtSpot 7 = .ok (.istore_n 2, 1) := by decide +kernel
theorem dX1_lookAtSpot_8 : decode cX1_lookAtSpot 8 = .ok (.iload_n 2, 1) := by decide +kernel
theorem dX1_lookAtSpot_9 : decode cX1_lookAtSpot 9 = .ok (.ifCond .le 89, 3) := by decide +kernel
theorem dX1_lookAtSpot_12 : decode cX1_lookAtSpot 12 = .ok (.aload_n 0, 1) := by decide +kernel
theorem dX1_lookAtSpot_13 : decode cX1_lookAtSpot 13 = .ok (.getfield 15, 3) := by decide +kernel
theorem dX1_lookAtSpot_16 : decode cX1_lookAtSpot 16 = .ok (.iload_n 2, 1) := by decide +kernel
theorem dX1_lookAtSpot_17 : decode cX1_lookAtSpot 17 = .ok (.laload, 1) := by decide +kernel
theorem dX1_lookAtSpot_18 : decode cX1_lookAtSpot 18 = .ok (.lstore_n 3, 1) := by decide +kernel
theorem dX1_lookAtSpot_19 : decode cX1_lookAtSpot 19 = .ok (.iconst 0, 1) := by decide +kernel
theorem dX1_lookAtSpot_20 : decode cX1_lookAtSpot 20 = .ok (.istore 5, 2) := by decide +kernel
theorem dX1_lookAtSpot_22 : decode cX1_lookAtSpot 22 = .ok (.iload 5, 2) := by decide +kernel
theorem dX1_lookAtSpot_24 : decode cX1_lookAtSpot 24 = .ok (.bipush 6, 2) := by decide +kernel
theorem dX1_lookAtSpot_26 : decode cX1_lookAtSpot 26 = .ok (.if_icmp .ge 59, 3) := by decide +kernel
theorem dX1_lookAtSpot_29 : decode cX1_lookAtSpot 29 = .ok (.iload_n 2, 1) := by decide +kernel
theorem dX1_lookAtSpot_30 : decode cX1_lookAtSpot 30 = .ok (.iload 5, 2) := by decide +kernel
theorem dX1_lookAtSpot_32 : decode cX1_lookAtSpot 32 = .ok (.invokestatic 46, 3) := by decide +kernel
theorem dX1_lookAtSpot_35 : decode cX1_lookAtSpot 35 = .ok (.ifCond .eq 16, 3) := by decide +kernel
theorem dX1_lookAtSpot_38 : decode cX1_lookAtSpot 38 = .ok (.aload_n 0, 1) := by decide +kernel
theorem dX1_lookAtSpot_39 : decode cX1_lookAtSpot 39 = .ok (.getfield 11, 3) := by decide +kernel
theorem dX1_lookAtSpot_42 : decode cX1_lookAtSpot 42 = .ok (.iload 5, 2) := by decide +kernel
theorem dX1_lookAtSpot_44 : decode cX1_lookAtSpot 44 = .ok (.iload_n 1, 1) := by decide +kernel
theorem dX1_lookAtSpot_45 : decode cX1_lookAtSpot 45 = .ok (.invokestatic 50, 3) := by decide +kernel
theorem dX1_lookAtSpot_48 : decode cX1_lookAtSpot 48 = .ok (.goto 4, 3) := by decide +kernel
theorem dX1_lookAtSpot_51 : decode cX1_lookAtSpot 51 = .ok (.lconst 0, 1) := by decide +kernel
theorem dX1_lookAtSpot_52 : decode cX1_lookAtSpot 52 = .ok (.lstore 6, 2) := by decide +kernel
theorem dX1_lookAtSpot_54 : decode cX1_lookAtSpot 54 = .ok (.lload 6, 2) := by decide +kernel
theorem dX1_lookAtSpot_56 : decode cX1_lookAtSpot 56 = .ok (.lconst 0, 1) := by decide +kernel
theorem dX1_lookAtSpot_57 : decode cX1_lookAtSpot 57 = .ok (.lcmp, 1) := by decide +kernel
theorem dX1_lookAtSpot_58 : decode cX1_lookAtSpot 58 = .ok (.ifCond .eq 21, 3) := by decide +kernel
theorem dX1_lookAtSpot_61 : decode cX1_lookAtSpot 61 = .ok (.lload_n 3, 1) := by decide +kernel
theorem dX1_lookAtSpot_62 : decode cX1_lookAtSpot 62 = .ok (.aload_n 0, 1) := by decide +kernel
theorem dX1_lookAtSpot_63 : decode cX1_lookAtSpot 63 = .ok (.iload_n 2, 1) := by decide +kernel
theorem dX1_lookAtSpot_64 : decode cX1_lookAtSpot 64 = .ok (.iload 5, 2) := by decide +kernel
theorem dX1_lookAtSpot_66 : decode cX1_lookAtSpot 66 = .ok (.invokestatic 54, 3) := by decide +kernel
theorem dX1_lookAtSpot_69 : decode cX1_lookAtSpot 69 = .ok (.invokevirtual 57, 3) := by decide +kernel
theorem dX1_lookAtSpot_72 : decode cX1_lookAtSpot 72 = .ok (.lload 6, 2) := by decide +kernel
theorem dX1_lookAtSpot_74 : decode cX1_lookAtSpot 74 = .ok (.ladd, 1) := by decide +kernel
theorem dX1_lookAtSpot_75 : decode cX1_lookAtSpot 75 = .ok (.invokestatic 61, 3) := by decide +kernel
theorem dX1_lookAtSpot_78 : decode cX1_lookAtSpot 78 = .ok (.lstore_n 3, 1) := by decide +kernel
theorem dX1_lookAtSpot_79 : decode cX1_lookAtSpot 79 = .ok (.iinc 5 1, 3) := by decide +kernel
theorem dX1_lookAtSpot_82 : decode cX1_lookAtSpot 82 = .ok (.goto (-60), 3) := by decide +kernel
theorem dX1_lookAtSpot_85 : decode cX1_lookAtSpot 85 = .ok (.aload_n 0, 1) := by decide +kernel
theorem dX1_lookAtSpot_86 : decode cX1_lookAtSpot 86 = .ok (.getfield 15, 3) := by decide +kernel
theorem dX1_lookAtSpot_89 : decode cX1_lookAtSpot 89 = .ok (.iload_n 2, 1) := by decide +kernel
theorem dX1_lookAtSpot_90 : decode cX1_lookAtSpot 90 = .ok (.lload_n 3, 1) := by decide +kernel
theorem dX1_lookAtSpot_91 : decode cX1_lookAtSpot 91 = .ok (.lastore, 1) := by decide +kernel
theorem dX1_lookAtSpot_92 : decode cX1_lookAtSpot 92 = .ok (.iinc 2 (-1), 3) := by decide +kernel
theorem dX1_lookAtSpot_95 : decode cX1_lookAtSpot 95 = .ok (.goto (-87), 3) := by decide +kernel
theorem dX1_lookAtSpot_98 : decode cX1_lookAtSpot 98 = .ok (.return_, 1) := by decide +kernel
set_option maxRecDepth 20000 in
theorem ggX1_keyWithout_X1_setWithout : GoodIn wsX1_keyWithout wsX1_setWithout := goodIn_r _ [4] (by decide +kernel) (by decide +kernel)
set_option maxRecDepth 20000 in
theorem gX1_keyWithout_X1_setWithout : GoodIn wsX1_keyWithout (va_wsS RX1 54 yX1_setWithout wsX1_setWithout) := goodIn_app (goodIn_of _ (by decide +kernel)) ggX1_keyWithout_X1_setWithout
set_option maxRecDepth 20000 in
theorem ggX1_keyWithout_X1_mostOf : GoodIn wsX1_keyWithout wsX1_mostOf := goodIn_r _ [8, 9, 10, 11] (by decide +kernel) (by decide +kernel)
set_option maxRecDepth 20000 in
theorem gX1_keyWithout_X1_mostOf : GoodIn wsX1_keyWithout (wsV RX1 57 RX1 yX1_mostOf wsX1_mostOf) := goodIn_app (goodIn_of _ (by decide +kernel)) ggX1_keyWithout_X1_mostOf
theorem dX1_keyWithout_0 : decode cX1_keyWithout 0 = .ok (.aload_n 0, 1) := by decide +kernel
theorem dX1_keyWithout_1 : decode cX1_keyWithout 1 = .ok (.bipush 63, 2) := by decide +kernel
theorem dX1_keyWithout_3 : decode cX1_keyWithout 3 = .ok (.iload_n 1, 1) := by decide +kernel
theorem dX1_keyWithout_4 : decode cX1_keyWithout 4 = .ok (.invokestatic 54, 3) := by decide +kernel
theorem dX1_keyWithout_7 : decode cX1_keyWithout 7 = .ok (.invokevirtual 57, 3) := by decide +kernel
theorem dX1_keyWithout_10 : decode cX1_keyWithout 10 = .ok (.lreturn, 1) := by decide +kernel
theorem dX1_mostOf_0 : decode cX1_mostOf 0 = .ok (.iload_n 1, 1) := by decide +kernel
theorem dX1_mostOf_1 : decode cX1_mostOf 1 = .ok (.ifCond .lt 21, 3) := by decide +kernel
theorem dX1_mostOf_4 : decode cX1_mostOf 4 = .ok (.iload_n 1, 1) := by decide +kernel
theorem dX1_mostOf_5 : decode cX1_mostOf 5 = .ok (.aload_n 0, 1) := by decide +kernel
theorem dX1_mostOf_6 : decode cX1_mostOf 6 = .ok (.getfield 15, 3) := by decide +kernel
theorem dX1_mostOf_9 : decode cX1_mostOf 9 = .ok (.arraylength, 1) := by decide +kernel
theorem dX1_mostOf_10 : decode cX1_mostOf 10 = .ok (.if_icmp .ge 12, 3) := by decide +kernel
theorem dX1_mostOf_13 : decode cX1_mostOf 13 = .ok (.aload_n 0, 1) := by decide +kernel
theorem dX1_mostOf_14 : decode cX1_mostOf 14 = .ok (.getfield 15, 3) := by decide +kernel
theorem dX1_mostOf_17 : decode cX1_mostOf 17 = .ok (.iload_n 1, 1) := by decide +kernel
theorem dX1_mostOf_18 : decode cX1_mostOf 18 = .ok (.laload, 1) := by decide +kernel
theorem dX1_mostOf_19 : decode cX1_mostOf 19 = .ok (.goto 4, 3) := by decide +kernel
theorem dX1_mostOf_22 : decode cX1_mostOf 22 = .ok (.lconst 0, 1) := by decide +kernel
theorem dX1_mostOf_23 : decode cX1_mostOf 23 = .ok (.lreturn, 1) := by decide +kernel
set_option maxRecDepth 20000 in
theorem ggX1_worthWithout_X1_keyWithout : GoodIn wsX1_worthWithout wsX1_keyWithout := goodIn_r _ [5, 6, 7, 4, 8, 9, 10, 11, 12, 13, 17, 18] (by decide +kernel) (by decide +kernel)
set_option maxRecDepth 20000 in
theorem gX1_worthWithout_X1_keyWithout : GoodIn wsX1_worthWithout (wsV RX1 67 RX1 yX1_keyWithout wsX1_keyWithout) := goodIn_app (goodIn_of _ (by decide +kernel)) ggX1_worthWithout_X1_keyWithout
set_option maxRecDepth 20000 in
theorem ggX1_worthWithout_X1_worthOf : GoodIn wsX1_worthWithout wsX1_worthOf := goodIn_r _ [16] (by decide +kernel) (by decide +kernel)
set_option maxRecDepth 20000 in
theorem gX1_worthWithout_X1_worthOf : GoodIn wsX1_worthWithout (va_wsS RX1 70 yX1_worthOf wsX1_worthOf) := goodIn_app (goodIn_of _ (by decide +kernel)) ggX1_worthWithout_X1_worthOf
theorem dX1_worthWithout_0 : decode cX1_worthWithout 0 = .ok (.aload_n 0, 1) := by decide +kernel
theorem dX1_worthWithout_1 : decode cX1_worthWithout 1 = .ok (.iload_n 1, 1) := by decide +kernel
theorem dX1_worthWithout_2 : decode cX1_worthWithout 2 = .ok (.invokevirtual 67, 3) := by decide +kernel
theorem dX1_worthWithout_5 : decode cX1_worthWithout 5 = .ok (.invokestatic 70, 3) := by decide +kernel
theorem dX1_worthWithout_8 : decode cX1_worthWithout 8 = .ok (.ireturn, 1) := by decide +kernel
set_option maxRecDepth 20000 in
theorem ggX1_ownerOf_X1_keyWithout : GoodIn wsX1_ownerOf wsX1_keyWithout := goodIn_r _ [5, 6, 7, 4, 8, 9, 10, 11, 12, 13, 17, 18] (by decide +kernel) (by decide +kernel)
set_option maxRecDepth 20000 in
theorem gX1_ownerOf_X1_keyWithout : GoodIn wsX1_ownerOf (wsV RX1 67 RX1 yX1_keyWithout wsX1_keyWithout) := goodIn_app (goodIn_of _ (by decide +kernel)) ggX1_ownerOf_X1_keyWithout
set_option maxRecDepth 20000 in
theorem ggX1_ownerOf_X1_digitShift : GoodIn wsX1_ownerOf wsX1_digitShift := goodIn_r _ [16] (by decide +kernel) (by decide +kernel)
set_option maxRecDepth 20000 in
theorem gX1_ownerOf_X1_digitShift : GoodIn wsX1_ownerOf (va_wsS RX1 24 yX1_digitShift wsX1_digitShift) := goodIn_app (goodIn_of _ (by decide +kernel)) ggX1_ownerOf_X1_digitShift
theorem dX1_ownerOf_0 : decode cX1_ownerOf 0 = .ok (.aload_n 0, 1) := by decide +kernel
theorem dX1_ownerOf_1 : decode cX1_ownerOf 1 = .ok (.iconst (-1), 1) := by decide +kernel
theorem dX1_ownerOf_2 : decode cX1_ownerOf 2 = .ok (.invokevirtual 67, 3) := by decide +kernel
theorem dX1_ownerOf_5 : decode cX1_ownerOf 5 = .ok (.iload_n 1, 1) := by decide +kernel
theorem dX1_ownerOf_6 : decode cX1_ownerOf 6 = .ok (.invokestatic 24, 3) := by decide +kernel
theorem dX1_ownerOf_9 : decode cX1_ownerOf 9 = .ok (.lshr, 1) := by decide +kernel
theorem dX1_ownerOf_10 : decode cX1_ownerOf 10 = .ok (.l2i, 1) := by decide +kernel
theorem dX1_ownerOf_11 : decode cX1_ownerOf 11 = .ok (.bipush 7, 2) := by decide +kernel
theorem dX1_ownerOf_13 : decode cX1_ownerOf 13 = .ok (.iand, 1) := by decide +kernel
theorem dX1_ownerOf_14 : decode cX1_ownerOf 14 = .ok (.istore_n 2, 1) := by decide +kernel
theorem dX1_ownerOf_15 : decode cX1_ownerOf 15 = .ok (.iload_n 2, 1) := by decide +kernel
theorem dX1_ownerOf_16 : decode cX1_ownerOf 16 = .ok (.ifCond .ne 7, 3) := by decide +kernel
theorem dX1_ownerOf_19 : decode cX1_ownerOf 19 = .ok (.iconst (-1), 1) := by decide +kernel
theorem dX1_ownerOf_20 : decode cX1_ownerOf 20 = .ok (.goto 7, 3) := by decide +kernel
theorem dX1_ownerOf_23 : decode cX1_ownerOf 23 = .ok (.bipush 6, 2) := by decide +kernel
theorem dX1_ownerOf_25 : decode cX1_ownerOf 25 = .ok (.iload_n 2, 1) := by decide +kernel
theorem dX1_ownerOf_26 : decode cX1_ownerOf 26 = .ok (.isub, 1) := by decide +kernel
theorem dX1_ownerOf_27 : decode cX1_ownerOf 27 = .ok (.ireturn, 1) := by decide +kernel
set_option maxRecDepth 20000 in
theorem ggX1_spotOf_X1_ownerOf : GoodIn wsX1_spotOf wsX1_ownerOf := goodIn_r _ [5, 6, 7, 8, 4, 9, 10, 11, 12, 13, 14, 15, 16, 17, 18, 19, 20, 21, 22] (by decide +kernel) (by decide +kernel)
set_option maxRecDepth 20000 in
theorem gX1_spotOf_X1_ownerOf : GoodIn wsX1_spotOf (wsV RX1 74 RX1 yX1_ownerOf wsX1_ownerOf) := goodIn_app (goodIn_of _ (by decide +kernel)) ggX1_spotOf_X1_ownerOf
theorem dX1_spotOf_0 : decode cX1_spotOf 0 = .ok (.iconst 0, 1) := by decide +kernel
theorem dX1_spotOf_1 : decode cX1_spotOf 1 = .ok (.istore_n 2, 1) := by decide +kernel
theorem dX1_spotOf_2 : decode cX1_spotOf 2 = .ok (.iload_n 2, 1) := by decide +kernel
theorem dX1_spotOf_3 : decode cX1_spotOf 3 = .ok (.bipush 6, 2) := by decide +kernel
theorem dX1_spotOf_5 : decode cX1_spotOf 5 = .ok (.if_icmp .ge 20, 3) := by decide +kernel
theorem dX1_spotOf_8 : decode cX1_spotOf 8 = .ok (.aload_n 0, 1) := by decide +kernel
theorem dX1_spotOf_9 : decode cX1_spotOf 9 = .ok (.iload_n 2, 1) := by decide +kernel
theorem dX1_spotOf_10 : decode cX1_spotOf 10 = .ok (.invokevirtual 74, 3) := by decide +kernel
theorem dX1_spotOf_13 : decode cX1_spotOf 13 = .ok (.iload_n 1, 1) := by decide +kernel
theorem dX1_spotOf_14 : decode cX1_spotOf 14 = .ok (.if_icmp .ne 5, 3) := by decide +kernel
theorem dX1_spotOf_17 : decode cX1_spotOf 17 = .ok (.iload_n 2, 1) := by decide +kernel
theorem dX1_spotOf_18 : decode cX1_spotOf 18 = .ok (.ireturn, 1) := by decide +kernel
theorem dX1_spotOf_19 : decode cX1_spotOf 19 = .ok (.iinc 2 1, 3) := by decide +kernel
theorem dX1_spotOf_22 : decode cX1_spotOf 22 = .ok (.goto (-20), 3) := by decide +kernel
theorem dX1_spotOf_25 : decode cX1_spotOf 25 = .ok (.iconst (-1), 1) := by decide +kernel
theorem dX1_spotOf_26 : decode cX1_spotOf 26 = .ok (.ireturn, 1) := by decide +kernel
set_option maxRecDepth 20000 in
theorem ggX1_priceOf_X1_ownerOf : GoodIn wsX1_priceOf wsX1_ownerOf := goodIn_r _ [6, 7, 8, 9, 5, 10, 11, 12, 13, 14, 15, 16, 17, 18, 19, 20, 21, 38, 39] (by decide +kernel) (by decide +kernel)
set_option maxRecDepth 20000 in
theorem gX1_priceOf_X1_ownerOf : GoodIn wsX1_priceOf (wsV RX1 74 RX1 yX1_ownerOf wsX1_ownerOf) := goodIn_app (goodIn_of _ (by decide +kernel)) ggX1_priceOf_X1_ownerOf
set_option maxRecDepth 20000 in
theorem ggX1_priceOf_X1_worthWithout : GoodIn wsX1_priceOf wsX1_worthWithout := goodIn_r _ [25, 7, 8, 9, 5, 10, 11, 12, 13, 14, 15, 16, 17, 18, 26, 27, 28, 38, 39] (by decide +kernel) (by decide +kernel)
set_option maxRecDepth 20000 in
theorem gX1_priceOf_X1_worthWithout : GoodIn wsX1_priceOf (wsV RX1 77 RX1 yX1_worthWithout wsX1_worthWithout) := goodIn_app (goodIn_of _ (by decide +kernel)) ggX1_priceOf_X1_worthWithout
set_option maxRecDepth 20000 in
theorem ggX1_priceOf_X1_keyIn : GoodIn wsX1_priceOf wsX1_keyIn := goodIn_r _ [31] (by decide +kernel) (by decide +kernel)
set_option maxRecDepth 20000 in
theorem gX1_priceOf_X1_keyIn : GoodIn wsX1_priceOf (va_wsS RX1 50 yX1_keyIn wsX1_keyIn) := goodIn_app (goodIn_of _ (by decide +kernel)) ggX1_priceOf_X1_keyIn
set_option maxRecDepth 20000 in
theorem ggX1_priceOf_X1_worthOf : GoodIn wsX1_priceOf wsX1_worthOf := goodIn_r _ [28] (by decide +kernel) (by decide +kernel)
set_option maxRecDepth 20000 in
theorem gX1_priceOf_X1_worthOf : GoodIn wsX1_priceOf (va_wsS RX1 70 yX1_worthOf wsX1_worthOf) := goodIn_app (goodIn_of _ (by decide +kernel)) ggX1_priceOf_X1_worthOf
set_option maxRecDepth 20000 in
theorem ggX1_priceOf_X2_get : GoodIn wsX1_priceOf wsX2_get := goodIn_r _ [36, 37, 40] (by decide +kernel) (by decide +kernel)
set_option maxRecDepth 20000 in
theorem gX1_priceOf_X2_get : GoodIn wsX1_priceOf (wsV RX1 20 RX2 yX2_get wsX2_get) := goodIn_app (goodIn_of _ (by decide +kernel)) ggX1_priceOf_X2_get
theorem dX1_priceOf_0 : decode cX1_priceOf 0 = .ok (.aload_n 0, 1) := by decide +kernel
theorem dX1_priceOf_1 : decode cX1_priceOf 1 = .ok (.iload_n 1, 1) := by decide +kernel
theorem dX1_priceOf_2 : decode cX1_priceOf 2 = .ok (.invokevirtual 74, 3) := by decide +kernel
theorem dX1_priceOf_5 : decode cX1_priceOf 5 = .ok (.istore_n 3, 1) := by decide +kernel
theorem dX1_priceOf_6 : decode cX1_priceOf 6 = .ok (.iload_n 3, 1) := by decide +kernel
theorem dX1_priceOf_7 : decode cX1_priceOf 7 = .ok (.iconst (-1), 1) := by decide +kernel
theorem dX1_priceOf_8 : decode cX1_priceOf 8 = .ok (.if_icmp .ne 5, 3) := by decide +kernel
theorem dX1_priceOf_11 : decode cX1_priceOf 11 = .ok (.iconst (-1), 1) := by decide +kernel
theorem dX1_priceOf_12 : decode cX1_priceOf 12 = .ok (.ireturn, 1) := by decide +kernel
theorem dX1_priceOf_13 : decode cX1_priceOf 13 = .ok (.aload_n 0, 1) := by decide +kernel
theorem dX1_priceOf_14 : decode cX1_priceOf 14 = .ok (.iconst (-1), 1) := by decide +kernel
theorem dX1_priceOf_15 : decode cX1_priceOf 15 = .ok (.invokevirtual 77, 3) := by decide +kernel
theorem dX1_priceOf_18 : decode cX1_priceOf 18 = .ok (.aload_n 0, 1) := by decide +kernel
theorem dX1_priceOf_19 : decode cX1_priceOf 19 = .ok (.getfield 11, 3) := by decide +kernel
theorem dX1_priceOf_22 : decode cX1_priceOf 22 = .ok (.iload_n 3, 1) := by decide +kernel
theorem dX1_priceOf_23 : decode cX1_priceOf 23 = .ok (.iload_n 1, 1) := by decide +kernel
theorem dX1_priceOf_24 : decode cX1_priceOf 24 = .ok (.invokestatic 50, 3) := by decide +kernel
theorem dX1_priceOf_27 : decode cX1_priceOf 27 = .ok (.invokestatic 70, 3) := by decide +kernel
theorem dX1_priceOf_30 : decode cX1_priceOf 30 = .ok (.isub, 1) := by decide +kernel
theorem dX1_priceOf_31 : decode cX1_priceOf 31 = .ok (.istore 4, 2) := by decide +kernel
theorem dX1_priceOf_33 : decode cX1_priceOf 33 = .ok (.aload_n 2, 1) := by decide +kernel
theorem dX1_priceOf_34 : decode cX1_priceOf 34 = .ok (.iconst 0, 1) := by decide +kernel
theorem dX1_priceOf_35 : decode cX1_priceOf 35 = .ok (.iload_n 1, 1) := by decide +kernel
theorem dX1_priceOf_36 : decode cX1_priceOf 36 = .ok (.invokevirtual 20, 3) := by decide +kernel
theorem dX1_priceOf_39 : decode cX1_priceOf 39 = .ok (.aload_n 0, 1) := by decide +kernel
theorem dX1_priceOf_40 : decode cX1_priceOf 40 = .ok (.iload_n 3, 1) := by decide +kernel
theorem dX1_priceOf_41 : decode cX1_priceOf 41 = .ok (.invokevirtual 77, 3) := by decide +kernel
theorem dX1_priceOf_44 : decode cX1_priceOf 44 = .ok (.iadd, 1) := by decide +kernel
theorem dX1_priceOf_45 : decode cX1_priceOf 45 = .ok (.iload 4, 2) := by decide +kernel
theorem dX1_priceOf_47 : decode cX1_priceOf 47 = .ok (.isub, 1) := by decide +kernel
theorem dX1_priceOf_48 : decode cX1_priceOf 48 = .ok (.ireturn, 1) := by decide +kernel
set_option maxRecDepth 20000 in
theorem ggX1_worthByTrying_X1_setWithout : GoodIn wsX1_worthByTrying wsX1_setWithout := goodIn_r _ [5] (by decide +kernel) (by decide +kernel)
set_option maxRecDepth 20000 in
theorem gX1_worthByTrying_X1_setWithout : GoodIn wsX1_worthByTrying (va_wsS RX1 54 yX1_setWithout wsX1_setWithout) := goodIn_app (goodIn_of _ (by decide +kernel)) ggX1_worthByTrying_X1_setWithout
set_option maxRecDepth 20000 in
theorem ggX1_worthByTrying_X1_tryFrom : GoodIn wsX1_worthByTrying wsX1_tryFrom := goodIn_r _ [8, 9, 10, 11, 12, 6, 7, 4, 13, 14, 15, 16, 17, 18, 2, 3, 5, 19, 20, 21] (by decide +kernel) (by decide +kernel)
set_option maxRecDepth 20000 in
theorem gX1_worthByTrying_X1_tryFrom : GoodIn wsX1_worthByTrying (va_wsS RX1 80 yX1_tryFrom wsX1_tryFrom) := goodIn_app (goodIn_of _ (by decide +kernel)) ggX1_worthByTrying_X1_tryFrom
theorem dX1_worthByTrying_0 : decode cX1_worthByTrying 0 = .ok (.aload_n 0, 1) := by decide +kernel
theorem dX1_worthByTrying_1 : decode cX1_worthByTrying 1 = .ok (.getfield 11, 3) := by decide +kernel
theorem dX1_worthByTrying_4 : decode cX1_worthByTrying 4 = .ok (.iconst 0, 1) := by decide +kernel
theorem dX1_worthByTrying_5 : decode cX1_worthByTrying 5 = .ok (.bipush 63, 2) := by decide +kernel
theorem dX1_worthByTrying_7 : decode cX1_worthByTrying 7 = .ok (.iload_n 1, 1) := by decide +kernel
theorem dX1_worthByTrying_8 : decode cX1_worthByTrying 8 = .ok (.invokestatic 54, 3) := by decide +kernel
theorem dX1_worthByTrying_11 : decode cX1_worthByTrying 11 = .ok (.invokestatic 80, 3) := by decide +kernel
theorem dX1_worthByTrying_14 : decode cX1_worthByTrying 14 = .ok (.ireturn, 1) := by decide +kernel
set_option maxRecDepth 20000 in
theorem ggX1_tryFrom_X1_tryFrom : GoodIn wsX1_tryFrom wsX1_tryFrom := goodIn_r _ [0, 1, 2, 3, 4, 5, 6, 7, 8, 9, 10, 11, 12, 13, 14, 15, 16, 17, 18, 19] (by decide +kernel) (by decide +kernel)
set_option maxRecDepth 20000 in
theorem gX1_tryFrom_X1_tryFrom : GoodIn wsX1_tryFrom (va_wsS RX1 80 yX1_tryFrom wsX1_tryFrom) := goodIn_app (goodIn_of _ (by decide +kernel)) ggX1_tryFrom_X1_tryFrom
set_option maxRecDepth 20000 in
theorem ggX1_tryFrom_X1_isIn : GoodIn wsX1_tryFrom wsX1_isIn := goodIn_r _ [10] (by decide +kernel) (by decide +kernel)
set_option maxRecDepth 20000 in
theorem gX1_tryFrom_X1_isIn : GoodIn wsX1_tryFrom (va_wsS RX1 46 yX1_isIn wsX1_isIn) := goodIn_app (goodIn_of _ (by decide +kernel)) ggX1_tryFrom_X1_isIn
set_option maxRecDepth 20000 in
theorem ggX1_tryFrom_X1_keyIn : GoodIn wsX1_tryFrom wsX1_keyIn := goodIn_r _ [13] (by decide +kernel) (by decide +kernel)
set_option maxRecDepth 20000 in
theorem gX1_tryFrom_X1_keyIn : GoodIn wsX1_tryFrom (va_wsS RX1 50 yX1_keyIn wsX1_keyIn) := goodIn_app (goodIn_of _ (by decide +kernel)) ggX1_tryFrom_X1_keyIn
set_option maxRecDepth 20000 in
theorem ggX1_tryFrom_X1_setWithout : GoodIn wsX1_tryFrom wsX1_setWithout := goodIn_r _ [16] (by decide +kernel) (by decide +kernel)
set_option maxRecDepth 20000 in
theorem gX1_tryFrom_X1_setWithout : GoodIn wsX1_tryFrom (va_wsS RX1 54 yX1_setWithout wsX1_setWithout) := goodIn_app (goodIn_of _ (by decide +kernel)) ggX1_tryFrom_X1_setWithout
set_option maxRecDepth 20000 in
theorem ggX1_tryFrom_X1_worthOf : GoodIn wsX1_tryFrom wsX1_worthOf := goodIn_r _ [19] (by decide +kernel) (by decide +kernel)
set_option maxRecDepth 20000 in
theorem gX1_tryFrom_X1_worthOf : GoodIn wsX1_tryFrom (va_wsS RX1 70 yX1_worthOf wsX1_worthOf) := goodIn_app (goodIn_of _ (by decide +kernel)) ggX1_tryFrom_X1_worthOf
theorem dX1_tryFrom_0 : decode cX1_tryFrom 0 = .ok (.iload_n 1, 1) := by decide +kernel
theorem dX1_tryFrom_1 : decode cX1_tryFrom 1 = .ok (.bipush 6, 2) := by decide +kernel
theorem dX1_tryFrom_3 : decode cX1_tryFrom 3 = .ok (.if_icmp .lt 5, 3) := by decide +kernel
theorem dX1_tryFrom_6 : decode cX1_tryFrom 6 = .ok (.iconst 0, 1) := by decide +kernel
theorem dX1_tryFrom_7 : decode cX1_tryFrom 7 = .ok (.ireturn, 1) := by decide +kernel
theorem dX1_tryFrom_8 : decode cX1_tryFrom 8 = .ok (.aload_n 0, 1) := by decide +kernel
theorem dX1_tryFrom_9 : decode cX1_tryFrom 9 = .ok (.iload_n 1, 1) := by decide +kernel
theorem dX1_tryFrom_10 : decode cX1_tryFrom 10 = .ok (.iconst 1, 1) := by decide +kernel
theorem dX1_tryFrom_11 : decode cX1_tryFrom 11 = .ok (.iadd, 1) := by decide +kernel
theorem dX1_tryFrom_12 : decode cX1_tryFrom 12 = .ok (.iload_n 2, 1) := by decide +kernel
theorem dX1_tryFrom_13 : decode cX1_tryFrom 13 = .ok (.invokestatic 80, 3) := by decide +kernel
theorem dX1_tryFrom_16 : decode cX1_tryFrom 16 = .ok (.istore_n 3, 1) := by decide +kernel
theorem dX1_tryFrom_17 : decode cX1_tryFrom 17 = .ok (.iconst 0, 1) := by decide +kernel
theorem dX1_tryFrom_18 : decode cX1_tryFrom 18 = .ok (.istore 4, 2) := by decide +kernel
theorem dX1_tryFrom_20 : decode cX1_tryFrom 20 = .ok (.iload 4, 2) := by decide +kernel
theorem dX1_tryFrom_22 : decode cX1_tryFrom 22 = .ok (.bipush 6, 2) := by decide +kernel
theorem dX1_tryFrom_24 : decode cX1_tryFrom 24 = .ok (.if_icmp .ge 66, 3) := by decide +kernel
theorem dX1_tryFrom_27 : decode cX1_tryFrom 27 = .ok (.iload_n 2, 1) := by decide +kernel
theorem dX1_tryFrom_28 : decode cX1_tryFrom 28 = .ok (.iload 4, 2) := by decide +kernel
theorem dX1_tryFrom_30 : decode cX1_tryFrom 30 = .ok (.invokestatic 46, 3) := by decide +kernel
theorem dX1_tryFrom_33 : decode cX1_tryFrom 33 = .ok (.ifCond .eq 13, 3) := by decide +kernel
theorem dX1_tryFrom_36 : decode cX1_tryFrom 36 = .ok (.aload_n 0, 1) := by decide +kernel
theorem dX1_tryFrom_37 : decode cX1_tryFrom 37 = .ok (.iload 4, 2) := by decide +kernel
theorem dX1_tryFrom_39 : decode cX1_tryFrom 39 = .ok (.iload_n 1, 1) := by decide +kernel
theorem dX1_tryFrom_40 : decode cX1_tryFrom 40 = .ok (.invokestatic 50, 3) := by decide +kernel
theorem dX1_tryFrom_43 : decode cX1_tryFrom 43 = .ok (.goto 4, 3) := by decide +kernel
theorem dX1_tryFrom_46 : decode cX1_tryFrom 46 = .ok (.lconst 0, 1) := by decide +kernel
theorem dX1_tryFrom_47 : decode cX1_tryFrom 47 = .ok (.lstore 5, 2) := by decide +kernel
theorem dX1_tryFrom_49 : decode cX1_tryFrom 49 = .ok (.lload 5, 2) := by decide +kernel
theorem dX1_tryFrom_51 : decode cX1_tryFrom 51 = .ok (.lconst 0, 1) := by decide +kernel
theorem dX1_tryFrom_52 : decode cX1_tryFrom 52 = .ok (.lcmp, 1) := by decide +kernel
theorem dX1_tryFrom_53 : decode cX1_tryFrom 53 = .ok (.ifCond .eq 31, 3) := by decide +kernel
theorem dX1_tryFrom_56 : decode cX1_tryFrom 56 = .ok (.aload_n 0, 1) := by decide +kernel
theorem dX1_tryFrom_57 : decode cX1_tryFrom 57 = .ok (.iload_n 1, 1) := by decide +kernel
theorem dX1_tryFrom_58 : decode cX1_tryFrom 58 = .ok (.iconst 1, 1) := by decide +kernel
theorem dX1_tryFrom_59 : decode cX1_tryFrom 59 = .ok (.iadd, 1) := by decide +kernel
theorem dX1_tryFrom_60 : decode cX1_tryFrom 60 = .ok (.iload_n 2, 1) := by decide +kernel
theorem dX1_tryFrom_61 : decode cX1_tryFrom 61 = .ok (.iload 4, 2) := by decide +kernel
theorem dX1_tryFrom_63 : decode cX1_tryFrom 63 = .ok (.invokestatic 54, 3) := by decide +kernel
theorem dX1_tryFrom_66 : decode cX1_tryFrom 66 = .ok (.invokestatic 80, 3) := by decide +kernel
theorem dX1_tryFrom_69 : decode cX1_tryFrom 69 = .ok (.istore 7, 2) := by decide +kernel
theorem dX1_tryFrom_71 : decode cX1_tryFrom 71 = .ok (.iload_n 3, 1) := by decide +kernel
theorem dX1_tryFrom_72 : decode cX1_tryFrom 72 = .ok (.lload 5, 2) := by decide +kernel
theorem dX1_tryFrom_74 : decode cX1_tryFrom 74 = .ok (.invokestatic 70, 3) := by decide +kernel
theorem dX1_tryFrom_77 : decode cX1_tryFrom 77 = .ok (.iload 7, 2) := by decide +kernel
theorem dX1_tryFrom_79 : decode cX1_tryFrom 79 = .ok (.iadd, 1) := by decide +kernel
theorem dX1_tryFrom_80 : decode cX1_tryFrom 80 = .ok (.invokestatic 84, 3) := by decide +kernel
theorem dX1_tryFrom_83 : decode cX1_tryFrom 83 = .ok (.istore_n 3, 1) := by decide +kernel
theorem dX1_tryFrom_84 : decode cX1_tryFrom 84 = .ok (.iinc 4 1, 3) := by decide +kernel
theorem dX1_tryFrom_87 : decode cX1_tryFrom 87 = .ok (.goto (-67), 3) := by decide +kernel
theorem dX1_tryFrom_90 : decode cX1_tryFrom 90 = .ok (.iload_n 3, 1) := by decide +kernel
theorem dX1_tryFrom_91 : decode cX1_tryFrom 91 = .ok (.ireturn, 1) := by decide +kernel
set_option maxRecDepth 20000 in
theorem ggX2_init_X2_fill : GoodIn wsX2_init wsX2_fill := goodIn_r _ [10, 11, 12, 13, 9, 14, 5, 15] (by decide +kernel) (by decide +kernel)
set_option maxRecDepth 20000 in
theorem gX2_init_X2_fill : GoodIn wsX2_init (wsV RX2 15 RX2 yX2_fill wsX2_fill) := goodIn_app (goodIn_of _ (by decide +kernel)) ggX2_init_X2_fill
set_option maxRecDepth 20000 in
theorem ggX2_init_X2_put : GoodIn wsX2_init wsX2_put := goodIn_r _ [14, 5, 15] (by decide +kernel) (by decide +kernel)
set_option maxRecDepth 20000 in
theorem gX2_init_X2_put : GoodIn wsX2_init (wsV RX2 19 RX2 yX2_put wsX2_put) := goodIn_app (goodIn_of _ (by decide +kernel)) ggX2_init_X2_put
theorem dX2_init_0 : decode cX2_init 0 = .ok (.aload_n 0, 1) := by decide +kernel
theorem dX2_init_1 : decode cX2_init 1 = .ok (.invokespecial 5, 3) := by decide +kernel
theorem dX2_init_4 : decode cX2_init 4 = .ok (.aload_n 0, 1) := by decide +kernel
theorem dX2_init_5 : decode cX2_init 5 = .ok (.sipush 174, 3) := by decide +kernel
theorem dX2_init_8 : decode cX2_init 8 = .ok (.newarray .int, 2) := by decide +kernel
theorem dX2_init_10 : decode cX2_init 10 = .ok (.putfield 11, 3) := by decide +kernel
theorem dX2_init_13 : decode cX2_init 13 = .ok (.aload_n 0, 1) := by decide +kernel
theorem dX2_init_14 : decode cX2_init 14 = .ok (.iconst 0, 1) := by decide +kernel
theorem dX2_init_15 : decode cX2_init 15 = .ok (.bipush 6, 2) := by decide +kernel
theorem dX2_init_17 : decode cX2_init 17 = .ok (.iconst 5, 1) := by decide +kernel
theorem dX2_init_18 : decode cX2_init 18 = .ok (.invokevirtual 15, 3) := by decide +kernel
theorem dX2_init_21 : decode cX2_init 21 = .ok (.aload_n 0, 1) := by decide +kernel
theorem dX2_init_22 : decode cX2_init 22 = .ok (.bipush 6, 2) := by decide +kernel
theorem dX2_init_24 : decode cX2_init 24 = .ok (.bipush 6, 2) := by decide +kernel
theorem dX2_init_26 : decode cX2_init 26 = .ok (.bipush 100, 2) := by decide +kernel
theorem dX2_init_28 : decode cX2_init 28 = .ok (.invokevirtual 15, 3) := by decide +kernel
theorem dX2_init_31 : decode cX2_init 31 = .ok (.aload_n 0, 1) := by decide +kernel
theorem dX2_init_32 : decode cX2_init 32 = .ok (.bipush 12, 2) := by decide +kernel
theorem dX2_init_34 : decode cX2_init 34 = .ok (.bipush 6, 2) := by decide +kernel
theorem dX2_init_36 : decode cX2_init 36 = .ok (.iconst (-1), 1) := by decide +kernel
theorem dX2_init_37 : decode cX2_init 37 = .ok (.invokevirtual 15, 3) := by decide +kernel
theorem dX2_init_40 : decode cX2_init 40 = .ok (.aload_n 0, 1) := by decide +kernel
theorem dX2_init_41 : decode cX2_init 41 = .ok (.bipush 18, 2) := by decide +kernel
theorem dX2_init_43 : decode cX2_init 43 = .ok (.bipush 6, 2) := by decide +kernel
theorem dX2_init_45 : decode cX2_init 45 = .ok (.iconst (-1), 1) := by decide +kernel
theorem dX2_init_46 : decode cX2_init 46 = .ok (.invokevirtual 15, 3) := by decide +kernel
theorem dX2_init_49 : decode cX2_init 49 = .ok (.aload_n 0, 1) := by decide +kernel
theorem dX2_init_50 : decode cX2_init 50 = .ok (.bipush 30, 2) := by decide +kernel
theorem dX2_init_52 : decode cX2_init 52 = .ok (.bipush 6, 2) := by decide +kernel
theorem dX2_init_54 : decode cX2_init 54 = .ok (.bipush 100, 2) := by decide +kernel
theorem dX2_init_56 : decode cX2_init 56 = .ok (.invokevirtual 15, 3) := by decide +kernel
theorem dX2_init_59 : decode cX2_init 59 = .ok (.aload_n 0, 1) := by decide +kernel
theorem dX2_init_60 : decode cX2_init 60 = .ok (.sipush 162, 3) := by decide +kernel
theorem dX2_init_63 : decode cX2_init 63 = .ok (.iconst 0, 1) := by decide +kernel
theorem dX2_init_64 : decode cX2_init 64 = .ok (.iconst 2, 1) := by decide +kernel
theorem dX2_init_65 : decode cX2_init 65 = .ok (.invokevirtual 19, 3) := by decide +kernel
theorem dX2_init_68 : decode cX2_init 68 = .ok (.aload_n 0, 1) := by decide +kernel
theorem dX2_init_69 : decode cX2_init 69 = .ok (.sipush 162, 3) := by decide +kernel
theorem dX2_init_72 : decode cX2_init 72 = .ok (.iconst 1, 1) := by decide +kernel
theorem dX2_init_73 : decode cX2_init 73 = .ok (.iconst 1, 1) := by decide +kernel
theorem dX2_init_74 : decode cX2_init 74 = .ok (.invokevirtual 19, 3) := by decide +kernel
theorem dX2_init_77 : decode cX2_init 77 = .ok (.aload_n 0, 1) := by decide +kernel
theorem dX2_init_78 : decode cX2_init 78 = .ok (.sipush 162, 3) := by decide +kernel
theorem dX2_init_81 : decode cX2_init 81 = .ok (.iconst 2, 1) := by decide +kernel
theorem dX2_init_82 : decode cX2_init 82 = .ok (.bipush 10, 2) := by decide +kernel
theorem dX2_init_84 : decode cX2_init 84 = .ok (.invokevirtual 19, 3) := by decide +kernel
theorem dX2_init_87 : decode cX2_init 87 = .ok (.aload_n 0, 1) := by decide +kernel
theorem dX2_init_88 : decode cX2_init 88 = .ok (.sipush 166, 3) := by decide +kernel
theorem dX2_init_91 : decode cX2_init 91 = .ok (.iconst 0, 1) := by decide +kernel
theorem dX2_init_92 : decode cX2_init 92 = .ok (.sipush 600, 3) := by decide +kernel
theorem dX2_init_95 : decode cX2_init 95 = .ok (.invokevirtual 19, 3) := by decide +kernel
theorem dX2_init_98 : decode cX2_init 98 = .ok (.aload_n 0, 1) := by decide +kernel
theorem dX2_init_99 : decode cX2_init 99 = .ok (.sipush 167, 3) := by decide +kernel
theorem dX2_init_102 : decode cX2_init 102 = .ok (.iconst 0, 1) := by decide +kernel
theorem dX2_init_103 : decode cX2_init 103 = .ok (.iconst 1, 1) := by decide +kernel
theorem dX2_init_104 : decode cX2_init 104 = .ok (.invokevirtual 19, 3) := by decide +kernel
theorem dX2_init_107 : decode cX2_init 107 = .ok (.return_, 1) := by decide +kernel
theorem dX2_mostOfSetting_0 : decode cX2_mostOfSetting 0 = .ok (.iload_n 0, 1) := by decide +kernel
theorem dX2_mostOfSetting_1 : decode cX2_mostOfSetting 1 = .ok (.lookupswitch 33 #[(0, 27), (1, 30)], 27) := by decide +kernel
theorem dX2_mostOfSetting_28 : decode cX2_mostOfSetting 28 = .ok (.bipush 20, 2) := by decide +kernel
theorem dX2_mostOfSetting_30 : decode cX2_mostOfSetting 30 = .ok (.ireturn, 1) := by decide +kernel
theorem dX2_mostOfSetting_31 : decode cX2_mostOfSetting 31 = .ok (.bipush 9, 2) := by decide +kernel
theorem dX2_mostOfSetting_33 : decode cX2_mostOfSetting 33 = .ok (.ireturn, 1) := by decide +kernel
theorem dX2_mostOfSetting_34 : decode cX2_mostOfSetting 34 = .ok (.bipush 50, 2) := by decide +kernel
theorem dX2_mostOfSetting_36 : decode cX2_mostOfSetting 36 = .ok (.ireturn, 1) := by decide +kernel
theorem dX2_get_0 : decode cX2_get 0 = .ok (.iload_n 1, 1) := by decide +kernel
theorem dX2_get_1 : decode cX2_get 1 = .ok (.iload_n 2, 1) := by decide +kernel
theorem dX2_get_2 : decode cX2_get 2 = .ok (.iadd, 1) := by decide +kernel
theorem dX2_get_3 : decode cX2_get 3 = .ok (.istore_n 3, 1) := by decide +kernel
theorem dX2_get_4 : decode cX2_get 4 = .ok (.iload_n 3, 1) := by decide +kernel
theorem dX2_get_5 : decode cX2_get 5 = .ok (.ifCond .lt 21, 3) := by decide +kernel
theorem dX2_get_8 : decode cX2_get 8 = .ok (.iload_n 3, 1) := by decide +kernel
theorem dX2_get_9 : decode cX2_get 9 = .ok (.aload_n 0, 1) := by decide +kernel
theorem dX2_get_10 : decode cX2_get 10 = .ok (.getfield 11, 3) := by decide +kernel
theorem dX2_get_13 : decode cX2_get 13 = .ok (.arraylength, 1) := by decide +kernel
theorem dX2_get_14 : decode cX2_get 14 = .ok (.if_icmp .ge 12, 3) := by decide +kernel
theorem dX2_get_17 : decode cX2_get 17 = .ok (.aload_n 0, 1) := by decide +kernel
theorem dX2_get_18 : decode cX2_get 18 = .ok (.getfield 11, 3) := by decide +kernel
theorem dX2_get_21 : decode cX2_get 21 = .ok (.iload_n 3, 1) := by decide +kernel
theorem dX2_get_22 : decode cX2_get 22 = .ok (.iaload, 1) := by decide +kernel
theorem dX2_get_23 : decode cX2_get 23 = .ok (.goto 4, 3) := by decide +kernel
theorem dX2_get_26 : decode cX2_get 26 = .ok (.iconst 0, 1) := by decide +kernel
theorem dX2_get_27 : decode cX2_get 27 = .ok (.ireturn, 1) := by decide +kernel
set_option maxRecDepth 20000 in
theorem ggX2_get__X2_get : GoodIn wsX2_get_ wsX2_get := goodIn_r _ [5, 6, 7] (by decide +kernel) (by decide +kernel)
set_option maxRecDepth 20000 in
theorem gX2_get__X2_get : GoodIn wsX2_get_ (wsV RX2 22 RX2 yX2_get wsX2_get) := goodIn_app (goodIn_of _ (by decide +kernel)) ggX2_get__X2_get
theorem dX2_get__0 : decode cX2_get_ 0 = .ok (.aload_n 0, 1) := by decide +kernel
theorem dX2_get__1 : decode cX2_get_ 1 = .ok (.iload_n 1, 1) := by decide +kernel
theorem dX2_get__2 : decode cX2_get_ 2 = .ok (.iconst 0, 1) := by decide +kernel
theorem dX2_get__3 : decode cX2_get_ 3 = .ok (.invokevirtual 22, 3) := by decide +kernel
theorem dX2_get__6 : decode cX2_get_ 6 = .ok (.ireturn, 1) := by decide +kernel
theorem dX2_put_0 : decode cX2_put 0 = .ok (.iload_n 1, 1) := by decide +kernel
theorem dX2_put_1 : decode cX2_put 1 = .ok (.iload_n 2, 1) := by decide +kernel
theorem dX2_put_2 : decode cX2_put 2 = .ok (.iadd, 1) := by decide +kernel
theorem dX2_put_3 : decode cX2_put 3 = .ok (.istore 4, 2) := by decide +kernel
theorem dX2_put_5 : decode cX2_put 5 = .ok (.iload 4, 2) := by decide +kernel
theorem dX2_put_7 : decode cX2_put 7 = .ok (.ifCond .lt 21, 3) := by decide +kernel
theorem dX2_put_10 : decode cX2_put 10 = .ok (.iload 4, 2) := by decide +kernel
theorem dX2_put_12 : decode cX2_put 12 = .ok (.aload_n 0, 1) := by decide +kernel
theorem dX2_put_13 : decode cX2_put 13 = .ok (.getfield 11, 3) := by decide +kernel
theorem dX2_put_16 : decode cX2_put 16 = .ok (.arraylength, 1) := by decide +kernel
theorem dX2_put_17 : decode cX2_put 17 = .ok (.if_icmp .ge 11, 3) := by decide +kernel
theorem dX2_put_20 : decode cX2_put 20 = .ok (.aload_n 0, 1) := by decide +kernel
theorem dX2_put_21 : decode cX2_put 21 = .ok (.getfield 11, 3) := by decide +kernel
theorem dX2_put_24 : decode cX2_put 24 = .ok (.iload 4, 2) := by decide +kernel
theorem dX2_put_26 : decode cX2_put 26 = .ok (.iload_n 3, 1) := by decide +kernel
theorem dX2_put_27 : decode cX2_put 27 = .ok (.iastore, 1) := by decide +kernel
theorem dX2_put_28 : decode cX2_put 28 = .ok (.return_, 1) := by decide +kernel
set_option maxRecDepth 20000 in
theorem ggX2_add_X2_get : GoodIn wsX2_add wsX2_get := goodIn_r _ [5, 6, 11] (by decide +kernel) (by decide +kernel)
set_option maxRecDepth 20000 in
theorem gX2_add_X2_get : GoodIn wsX2_add (wsV RX2 22 RX2 yX2_get wsX2_get) := goodIn_app (goodIn_of _ (by decide +kernel)) ggX2_add_X2_get
set_option maxRecDepth 20000 in
theorem ggX2_add_X2_put : GoodIn wsX2_add wsX2_put := goodIn_r _ [10, 6, 11] (by decide +kernel) (by decide +kernel)
set_option maxRecDepth 20000 in
theorem gX2_add_X2_put : GoodIn wsX2_add (wsV RX2 19 RX2 yX2_put wsX2_put) := goodIn_app (goodIn_of _ (by decide +kernel)) ggX2_add_X2_put
theorem dX2_add_0 : decode cX2_add 0 = .ok (.aload_n 0, 1) := by decide +kernel
theorem dX2_add_1 : decode cX2_add 1 = .ok (.iload_n 1, 1) := by decide +kernel
theorem dX2_add_2 : decode cX2_add 2 = .ok (.iload_n 2, 1) := by decide +kernel
theorem dX2_add_3 : decode cX2_add 3 = .ok (.aload_n 0, 1) := by decide +kernel
theorem dX2_add_4 : decode cX2_add 4 = .ok (.iload_n 1, 1) := by decide +kernel
theorem dX2_add_5 : decode cX2_add 5 = .ok (.iload_n 2, 1) := by decide +kernel
theorem dX2_add_6 : decode cX2_add 6 = .ok (.invokevirtual 22, 3) := by decide +kernel
theorem dX2_add_9 : decode cX2_add 9 = .ok (.iload_n 3, 1) := by decide +kernel
theorem dX2_add_10 : decode cX2_add 10 = .ok (.iadd, 1) := by decide +kernel
theorem dX2_add_11 : decode cX2_add 11 = .ok (.invokevirtual 19, 3) := by decide +kernel
theorem dX2_add_14 : decode cX2_add 14 = .ok (.return_, 1) := by decide +kernel
set_option maxRecDepth 20000 in
theorem ggX2_fill_X2_put : GoodIn wsX2_fill wsX2_put := goodIn_r _ [5, 6, 7] (by decide +kernel) (by decide +kernel)
set_option maxRecDepth 20000 in
theorem gX2_fill_X2_put : GoodIn wsX2_fill (wsV RX2 19 RX2 yX2_put wsX2_put) := goodIn_app (goodIn_of _ (by decide +kernel)) ggX2_fill_X2_put
theorem dX2_fill_0 : decode cX2_fill 0 = .ok (.iconst 0, 1) := by decide +kernel
theorem dX2_fill_1 : decode cX2_fill 1 = .ok (.istore 4, 2) := by decide +kernel
theorem dX2_fill_3 : decode cX2_fill 3 = .ok (.iload 4, 2) := by decide +kernel
theorem dX2_fill_5 : decode cX2_fill 5 = .ok (.iload_n 2, 1) := by decide +kernel
theorem dX2_fill_6 : decode cX2_fill 6 = .ok (.if_icmp .ge 17, 3) := by decide +kernel
theorem dX2_fill_9 : decode cX2_fill 9 = .ok (.aload_n 0, 1) := by decide +kernel
theorem dX2_fill_10 : decode cX2_fill 10 = .ok (.iload_n 1, 1) := by decide +kernel
theorem dX2_fill_11 : decode cX2_fill 11 = .ok (.iload 4, 2) := by decide +kernel
theorem dX2_fill_13 : decode cX2_fill 13 = .ok (.iload_n 3, 1) := by decide +kernel
theorem dX2_fill_14 : decode cX2_fill 14 = .ok (.invokevirtual 19, 3) := by decide +kernel
theorem dX2_fill_17 : decode cX2_fill 17 = .ok (.iinc 4 1, 3) := by decide +kernel
theorem dX2_fill_20 : decode cX2_fill 20 = .ok (.goto (-17), 3) := by decide +kernel
theorem dX2_fill_23 : decode cX2_fill 23 = .ok (.return_, 1) := by decide +kernel
set_option maxRecDepth 20000 in
theorem ggX2_sum_X2_get : GoodIn wsX2_sum wsX2_get := goodIn_r _ [5, 6, 7] (by decide +kernel) (by decide +kernel)
set_option maxRecDepth 20000 in
theorem gX2_sum_X2_get : GoodIn wsX2_sum (wsV RX2 22 RX2 yX2_get wsX2_get) := goodIn_app (goodIn_of _ (by decide +kernel)) ggX2_sum_X2_get
theorem dX2_sum_0 : decode cX2_sum 0 = .ok (.iconst 0, 1) := by decide +kernel
theorem dX2_sum_1 : decode cX2_sum 1 = .ok (.istore_n 3, 1) := by decide +kernel
theorem dX2_sum_2 : decode cX2_sum 2 = .ok (.iconst 0, 1) := by decide +kernel
theorem dX2_sum_3 : decode cX2_sum 3 = .ok (.istore 4, 2) := by decide +kernel
theorem dX2_sum_5 : decode cX2_sum 5 = .ok (.iload 4, 2) := by decide +kernel
theorem dX2_sum_7 : decode cX2_sum 7 = .ok (.iload_n 2, 1) := by decide +kernel
theorem dX2_sum_8 : decode cX2_sum 8 = .ok (.if_icmp .ge 19, 3) := by decide +kernel
theorem dX2_sum_11 : decode cX2_sum 11 = .ok (.iload_n 3, 1) := by decide +kernel
theorem dX2_sum_12 : decode cX2_sum 12 = .ok (.aload_n 0, 1) := by decide +kernel
theorem dX2_sum_13 : decode cX2_sum 13 = .ok (.iload_n 1, 1) := by decide +kernel
theorem dX2_sum_14 : decode cX2_sum 14 = .ok (.iload 4, 2) := by decide +kernel
theorem dX2_sum_16 : decode cX2_sum 16 = .ok (.invokevirtual 22, 3) := by decide +kernel
theorem dX2_sum_19 : decode cX2_sum 19 = .ok (.iadd, 1) := by decide +kernel
theorem dX2_sum_20 : decode cX2_sum 20 = .ok (.istore_n 3, 1) := by decide +kernel
theorem dX2_sum_21 : decode cX2_sum 21 = .ok (.iinc 4 1, 3) := by decide +kernel
theorem dX2_sum_24 : decode cX2_sum 24 = .ok (.goto (-19), 3) := by decide +kernel
theorem dX2_sum_27 : decode cX2_sum 27 = .ok (.iload_n 3, 1) := by decide +kernel
theorem dX2_sum_28 : decode cX2_sum 28 = .ok (.ireturn, 1) := by decide +kernel
theorem dX2_placeOfBid_0 : decode cX2_placeOfBid 0 = .ok (.iload_n 0, 1) := by decide +kernel
theorem dX2_placeOfBid_1 : decode cX2_placeOfBid 1 = .ok (.bipush 6, 2) := by decide +kernel
theorem dX2_placeOfBid_3 : decode cX2_placeOfBid 3 = .ok (.imul, 1) := by decide +kernel
theorem dX2_placeOfBid_4 : decode cX2_placeOfBid 4 = .ok (.iload_n 1, 1) := by decide +kernel
theorem dX2_placeOfBid_5 : decode cX2_placeOfBid 5 = .ok (.iadd, 1) := by decide +kernel
theorem dX2_placeOfBid_6 : decode cX2_placeOfBid 6 = .ok (.ireturn, 1) := by decide +kernel
set_option maxRecDepth 20000 in
theorem ggX2_ofBid_X2_placeOfBid : GoodIn wsX2_ofBid wsX2_placeOfBid := goodIn_r _ [4] (by decide +kernel) (by decide +kernel)
set_option maxRecDepth 20000 in
theorem gX2_ofBid_X2_placeOfBid : GoodIn wsX2_ofBid (va_wsS RX2 26 yX2_placeOfBid wsX2_placeOfBid) := goodIn_app (goodIn_of _ (by decide +kernel)) ggX2_ofBid_X2_placeOfBid
set_option maxRecDepth 20000 in
theorem ggX2_ofBid_X2_get : GoodIn wsX2_ofBid wsX2_get := goodIn_r _ [8, 9, 10] (by decide +kernel) (by decide +kernel)
set_option maxRecDepth 20000 in
theorem gX2_ofBid_X2_get : GoodIn wsX2_ofBid (wsV RX2 22 RX2 yX2_get wsX2_get) := goodIn_app (goodIn_of _ (by decide +kernel)) ggX2_ofBid_X2_get
theorem dX2_ofBid_0 : decode cX2_ofBid 0 = .ok (.aload_n 0, 1) := by decide +kernel
theorem dX2_ofBid_1 : decode cX2_ofBid 1 = .ok (.iload_n 1, 1) := by decide +kernel
theorem dX2_ofBid_2 : decode cX2_ofBid 2 = .ok (.iload_n 2, 1) := by decide +kernel
theorem dX2_ofBid_3 : decode cX2_ofBid 3 = .ok (.iload_n 3, 1) := by decide +kernel
theorem dX2_ofBid_4 : decode cX2_ofBid 4 = .ok (.invokestatic 26, 3) := by decide +kernel
theorem dX2_ofBid_7 : decode cX2_ofBid 7 = .ok (.invokevirtual 22, 3) := by decide +kernel
theorem dX2_ofBid_10 : decode cX2_ofBid 10 = .ok (.ireturn, 1) := by decide +kernel
set_option maxRecDepth 20000 in
theorem ggX2_hasBid_X2_ofBid : GoodIn wsX2_hasBid wsX2_ofBid := goodIn_r _ [5, 6, 7, 4, 8, 9, 10, 11, 12, 13, 14] (by decide +kernel) (by decide +kernel)
set_option maxRecDepth 20000 in
theorem gX2_hasBid_X2_ofBid : GoodIn wsX2_hasBid (wsV RX2 29 RX2 yX2_ofBid wsX2_ofBid) := goodIn_app (goodIn_of _ (by decide +kernel)) ggX2_hasBid_X2_ofBid
theorem dX2_hasBid_0 : decode cX2_hasBid 0 = .ok (.aload_n 0, 1) := by decide +kernel
theorem dX2_hasBid_1 : decode cX2_hasBid 1 = .ok (.bipush 54, 2) := by decide +kernel
theorem dX2_hasBid_3 : decode cX2_hasBid 3 = .ok (.iload_n 1, 1) := by decide +kernel
theorem dX2_hasBid_4 : decode cX2_hasBid 4 = .ok (.iload_n 2, 1) := by decide +kernel
theorem dX2_hasBid_5 : decode cX2_hasBid 5 = .ok (.invokevirtual 29, 3) := by decide +kernel
theorem dX2_hasBid_8 : decode cX2_hasBid 8 = .ok (.ifCond .eq 7, 3) := by decide +kernel
theorem dX2_hasBid_11 : decode cX2_hasBid 11 = .ok (.iconst 1, 1) := by decide +kernel
theorem dX2_hasBid_12 : decode cX2_hasBid 12 = .ok (.goto 4, 3) := by decide +kernel
theorem dX2_hasBid_15 : decode cX2_hasBid 15 = .ok (.iconst 0, 1) := by decide +kernel
theorem dX2_hasBid_16 : decode cX2_hasBid 16 = .ok (.ireturn, 1) := by decide +kernel
set_option maxRecDepth 20000 in
theorem ggX2_bidsForSpot_X2_hasBid : GoodIn wsX2_bidsForSpot wsX2_hasBid := goodIn_r _ [5, 6, 7, 8, 4, 9, 10, 11, 12, 13, 14, 15, 16, 17, 18] (by decide +kernel) (by decide +kernel)
set_option maxRecDepth 20000 in
theorem gX2_bidsForSpot_X2_hasBid : GoodIn wsX2_bidsForSpot (wsV RX2 33 RX2 yX2_hasBid wsX2_hasBid) := goodIn_app (goodIn_of _ (by decide +kernel)) ggX2_bidsForSpot_X2_hasBid
theorem dX2_bidsForSpot_0 : decode cX2_bidsForSpot 0 = .ok (.iconst 0, 1) := by decide +kernel
theorem dX2_bidsForSpot_1 : decode cX2_bidsForSpot 1 = .ok (.istore_n 2, 1) := by decide +kernel
theorem dX2_bidsForSpot_2 : decode cX2_bidsForSpot 2 = .ok (.iconst 0, 1) := by decide +kernel
theorem dX2_bidsForSpot_3 : decode cX2_bidsForSpot 3 = .ok (.istore_n 3, 1) := by decide +kernel
theorem dX2_bidsForSpot_4 : decode cX2_bidsForSpot 4 = .ok (.iload_n 3, 1) := by decide +kernel
theorem dX2_bidsForSpot_5 : decode cX2_bidsForSpot 5 = .ok (.bipush 6, 2) := by decide +kernel
theorem dX2_bidsForSpot_7 : decode cX2_bidsForSpot 7 = .ok (.if_icmp .ge 26, 3) := by decide +kernel
theorem dX2_bidsForSpot_10 : decode cX2_bidsForSpot 10 = .ok (.iload_n 2, 1) := by decide +kernel
theorem dX2_bidsForSpot_11 : decode cX2_bidsForSpot 11 = .ok (.aload_n 0, 1) := by decide +kernel
theorem dX2_bidsForSpot_12 : decode cX2_bidsForSpot 12 = .ok (.iload_n 3, 1) := by decide +kernel
theorem dX2_bidsForSpot_13 : decode cX2_bidsForSpot 13 = .ok (.iload_n 1, 1) := by decide +kernel
theorem dX2_bidsForSpot_14 : decode cX2_bidsForSpot 14 = .ok (.invokevirtual 33, 3) := by decide +kernel
theorem dX2_bidsForSpot_17 : decode cX2_bidsForSpot 17 = .ok (.ifCond .eq 7, 3) := by decide +kernel
theorem dX2_bidsForSpot_20 : decode cX2_bidsForSpot 20 = .ok (.iconst 1, 1) := by decide +kernel
theorem dX2_bidsForSpot_21 : decode cX2_bidsForSpot 21 = .ok (.goto 4, 3) := by decide +kernel
theorem dX2_bidsForSpot_24 : decode cX2_bidsForSpot 24 = .ok (.iconst 0, 1) := by decide +kernel
theorem dX2_bidsForSpot_25 : decode cX2_bidsForSpot 25 = .ok (.iadd, 1) := by decide +kernel
theorem dX2_bidsForSpot_26 : decode cX2_bidsForSpot 26 = .ok (.istore_n 2, 1) := by decide +kernel
theorem dX2_bidsForSpot_27 : decode cX2_bidsForSpot 27 = .ok (.iinc 3 1, 3) := by decide +kernel
theorem dX2_bidsForSpot_30 : decode cX2_bidsForSpot 30 = .ok (.goto (-26), 3) := by decide +kernel
theorem dX2_bidsForSpot_33 : decode cX2_bidsForSpot 33 = .ok (.iload_n 2, 1) := by decide +kernel
theorem dX2_bidsForSpot_34 : decode cX2_bidsForSpot 34 = .ok (.ireturn, 1) := by decide +kernel
set_option maxRecDepth 20000 in
theorem ggX2_bidsOfBidder_X2_hasBid : GoodIn wsX2_bidsOfBidder wsX2_hasBid := goodIn_r _ [5, 6, 7, 8, 4, 9, 10, 11, 12, 13, 14, 15, 16, 17, 18] (by decide +kernel) (by decide +kernel)
set_option maxRecDepth 20000 in
theorem gX2_bidsOfBidder_X2_hasBid : GoodIn wsX2_bidsOfBidder (wsV RX2 33 RX2 yX2_hasBid wsX2_hasBid) := goodIn_app (goodIn_of _ (by decide +kernel)) ggX2_bidsOfBidder_X2_hasBid
theorem dX2_bidsOfBidder_0 : decode cX2_bidsOfBidder 0 = .ok (.iconst 0, 1) := by decide +kernel
theorem dX2_bidsOfBidder_1 : decode cX2_bidsOfBidder 1 = .ok (.istore_n 2, 1) := by decide +kernel
theorem dX2_bidsOfBidder_2 : decode cX2_bidsOfBidder 2 = .ok (.iconst 0, 1) := by decide +kernel
theorem dX2_bidsOfBidder_3 : decode cX2_bidsOfBidder 3 = .ok (.istore_n 3, 1) := by decide +kernel
theorem dX2_bidsOfBidder_4 : decode cX2_bidsOfBidder 4 = .ok (.iload_n 3, 1) := by decide +kernel
theorem dX2_bidsOfBidder_5 : decode cX2_bidsOfBidder 5 = .ok (.bipush 6, 2) := by decide +kernel
theorem dX2_bidsOfBidder_7 : decode cX2_bidsOfBidder 7 = .ok (.if_icmp .ge 26, 3) := by decide +kernel
theorem dX2_bidsOfBidder_10 : decode cX2_bidsOfBidder 10 = .ok (.iload_n 2, 1) := by decide +kernel
theorem dX2_bidsOfBidder_11 : decode cX2_bidsOfBidder 11 = .ok (.aload_n 0, 1) := by decide +kernel
theorem dX2_bidsOfBidder_12 : decode cX2_bidsOfBidder 12 = .ok (.iload_n 1, 1) := by decide +kernel
theorem dX2_bidsOfBidder_13 : decode cX2_bidsOfBidder 13 = .ok (.iload_n 3, 1) := by decide +kernel
theorem dX2_bidsOfBidder_14 : decode cX2_bidsOfBidder 14 = .ok (.invokevirtual 33, 3) := by decide +kernel
theorem dX2_bidsOfBidder_17 : decode cX2_bidsOfBidder 17 = .ok (.ifCond .eq 7, 3) := by decide +kernel
theorem dX2_bidsOfBidder_20 : decode cX2_bidsOfBidder 20 = .ok (.iconst 1, 1) := by decide +kernel
theorem dX2_bidsOfBidder_21 : decode cX2_bidsOfBidder 21 = .ok (.goto 4, 3) := by decide +kernel
theorem dX2_bidsOfBidder_24 : decode cX2_bidsOfBidder 24 = .ok (.iconst 0, 1) := by decide +kernel
theorem dX2_bidsOfBidder_25 : decode cX2_bidsOfBidder 25 = .ok (.iadd, 1) := by decide +kernel
theorem dX2_bidsOfBidder_26 : decode cX2_bidsOfBidder 26 = .ok (.istore_n 2, 1) := by decide +kernel
theorem dX2_bidsOfBidder_27 : decode cX2_bidsOfBidder 27 = .ok (.iinc 3 1, 3) := by decide +kernel
theorem dX2_bidsOfBidder_30 : decode cX2_bidsOfBidder 30 = .ok (.goto (-26), 3) := by decide +kernel
theorem dX2_bidsOfBidder_33 : decode cX2_bidsOfBidder 33 = .ok (.iload_n 2, 1) := by decide +kernel
theorem dX2_bidsOfBidder_34 : decode cX2_bidsOfBidder 34 = .ok (.ireturn, 1) := by decide +kernel
set_option maxRecDepth 20000 in
theorem ggX2_bidsInAll_X2_bidsOfBidder : GoodIn wsX2_bidsInAll wsX2_bidsOfBidder := goodIn_r _ [5, 6, 7, 8, 4, 9, 10, 11, 12, 13, 14, 15, 16, 17, 18, 19, 20, 21, 22] (by decide +kernel) (by decide +kernel)
set_option maxRecDepth 20000 in
theorem gX2_bidsInAll_X2_bidsOfBidder : GoodIn wsX2_bidsInAll (wsV RX2 37 RX2 yX2_bidsOfBidder wsX2_bidsOfBidder) := goodIn_app (goodIn_of _ (by decide +kernel)) ggX2_bidsInAll_X2_bidsOfBidder
theorem dX2_bidsInAll_0 : decode cX2_bidsInAll 0 = .ok (.iconst 0, 1) := by decide +kernel
theorem dX2_bidsInAll_1 : decode cX2_bidsInAll 1 = .ok (.istore_n 1, 1) := by decide +kernel
theorem dX2_bidsInAll_2 : decode cX2_bidsInAll 2 = .ok (.iconst 0, 1) := by decide +kernel
theorem dX2_bidsInAll_3 : decode cX2_bidsInAll 3 = .ok (.istore_n 2, 1) := by decide +kernel
theorem dX2_bidsInAll_4 : decode cX2_bidsInAll 4 = .ok (.iload_n 2, 1) := by decide +kernel
theorem dX2_bidsInAll_5 : decode cX2_bidsInAll 5 = .ok (.bipush 6, 2) := by decide +kernel
theorem dX2_bidsInAll_7 : decode cX2_bidsInAll 7 = .ok (.if_icmp .ge 17, 3) := by decide +kernel
theorem dX2_bidsInAll_10 : decode cX2_bidsInAll 10 = .ok (.iload_n 1, 1) := by decide +kernel
theorem dX2_bidsInAll_11 : decode cX2_bidsInAll 11 = .ok (.aload_n 0, 1) := by decide +kernel
theorem dX2_bidsInAll_12 : decode cX2_bidsInAll 12 = .ok (.iload_n 2, 1) := by decide +kernel
theorem dX2_bidsInAll_13 : decode cX2_bidsInAll 13 = .ok (.invokevirtual 37, 3) := by decide +kernel
theorem dX2_bidsInAll_16 : decode cX2_bidsInAll 16 = .ok (.iadd, 1) := by decide +kernel
theorem dX2_bidsInAll_17 : decode cX2_bidsInAll 17 = .ok (.istore_n 1, 1) := by decide +kernel
theorem dX2_bidsInAll_18 : decode cX2_bidsInAll 18 = .ok (.iinc 2 1, 3) := by decide +kernel
theorem dX2_bidsInAll_21 : decode cX2_bidsInAll 21 = .ok (.goto (-17), 3) := by decide +kernel
theorem dX2_bidsInAll_24 : decode cX2_bidsInAll 24 = .ok (.iload_n 1, 1) := by decide +kernel
theorem dX2_bidsInAll_25 : decode cX2_bidsInAll 25 = .ok (.ireturn, 1) := by decide +kernel
set_option maxRecDepth 20000 in
theorem ggX2_whyNotSealed_X2_isOpened : GoodIn wsX2_whyNotSealed wsX2_isOpened := goodIn_r _ [5, 6, 7, 8, 4, 9, 10, 11, 12, 13, 14, 26] (by decide +kernel) (by decide +kernel)
set_option maxRecDepth 20000 in
theorem gX2_whyNotSealed_X2_isOpened : GoodIn wsX2_whyNotSealed (wsV RX2 41 RX2 yX2_isOpened wsX2_isOpened) := goodIn_app (goodIn_of _ (by decide +kernel)) ggX2_whyNotSealed_X2_isOpened
set_option maxRecDepth 20000 in
theorem ggX2_whyNotSealed_X2_hasBid : GoodIn wsX2_whyNotSealed wsX2_hasBid := goodIn_r _ [18, 19, 20, 21, 4, 22, 23, 24, 25, 10, 11, 12, 13, 14, 26] (by decide +kernel) (by decide +kernel)
set_option maxRecDepth 20000 in
theorem gX2_whyNotSealed_X2_hasBid : GoodIn wsX2_whyNotSealed (wsV RX2 33 RX2 yX2_hasBid wsX2_hasBid) := goodIn_app (goodIn_of _ (by decide +kernel)) ggX2_whyNotSealed_X2_hasBid
set_option maxRecDepth 20000 in
theorem ggX2_whyNotSealed_X2_get : GoodIn wsX2_whyNotSealed wsX2_get := goodIn_r _ [13, 14, 26] (by decide +kernel) (by decide +kernel)
set_option maxRecDepth 20000 in
theorem gX2_whyNotSealed_X2_get : GoodIn wsX2_whyNotSealed (wsV RX2 22 RX2 yX2_get wsX2_get) := goodIn_app (goodIn_of _ (by decide +kernel)) ggX2_whyNotSealed_X2_get
theorem dX2_whyNotSealed_0 : decode cX2_whyNotSealed 0 = .ok (.aload_n 0, 1) := by decide +kernel
theorem dX2_whyNotSealed_1 : decode cX2_whyNotSealed 1 = .ok (.invokevirtual 41, 3) := by decide +kernel
theorem dX2_whyNotSealed_4 : decode cX2_whyNotSealed 4 = .ok (.ifCond .eq 5, 3) := by decide +kernel
theorem dX2_whyNotSealed_7 : decode cX2_whyNotSealed 7 = .ok (.iconst 1, 1) := by decide +kernel
theorem dX2_whyNotSealed_8 : decode cX2_whyNotSealed 8 = .ok (.ireturn, 1) := by decide +kernel
theorem dX2_whyNotSealed_9 : decode cX2_whyNotSealed 9 = .ok (.aload_n 0, 1) := by decide +kernel
theorem dX2_whyNotSealed_10 : decode cX2_whyNotSealed 10 = .ok (.iload_n 1, 1) := by decide +kernel
theorem dX2_whyNotSealed_11 : decode cX2_whyNotSealed 11 = .ok (.iload_n 2, 1) := by decide +kernel
theorem dX2_whyNotSealed_12 : decode cX2_whyNotSealed 12 = .ok (.invokevirtual 33, 3) := by decide +kernel
theorem dX2_whyNotSealed_15 : decode cX2_whyNotSealed 15 = .ok (.ifCond .eq 5, 3) := by decide +kernel
theorem dX2_whyNotSealed_18 : decode cX2_whyNotSealed 18 = .ok (.iconst 2, 1) := by decide +kernel
theorem dX2_whyNotSealed_19 : decode cX2_whyNotSealed 19 = .ok (.ireturn, 1) := by decide +kernel
theorem dX2_whyNotSealed_20 : decode cX2_whyNotSealed 20 = .ok (.iload_n 3, 1) := by decide +kernel
theorem dX2_whyNotSealed_21 : decode cX2_whyNotSealed 21 = .ok (.aload_n 0, 1) := by decide +kernel
theorem dX2_whyNotSealed_22 : decode cX2_whyNotSealed 22 = .ok (.iconst 0, 1) := by decide +kernel
theorem dX2_whyNotSealed_23 : decode cX2_whyNotSealed 23 = .ok (.iload_n 2, 1) := by decide +kernel
theorem dX2_whyNotSealed_24 : decode cX2_whyNotSealed 24 = .ok (.invokevirtual 22, 3) := by decide +kernel
theorem dX2_whyNotSealed_27 : decode cX2_whyNotSealed 27 = .ok (.if_icmp .ge 5, 3) := by decide +kernel
theorem dX2_whyNotSealed_30 : decode cX2_whyNotSealed 30 = .ok (.iconst 3, 1) := by decide +kernel
theorem dX2_whyNotSealed_31 : decode cX2_whyNotSealed 31 = .ok (.ireturn, 1) := by decide +kernel
theorem dX2_whyNotSealed_32 : decode cX2_whyNotSealed 32 = .ok (.aload_n 0, 1) := by decide +kernel
theorem dX2_whyNotSealed_33 : decode cX2_whyNotSealed 33 = .ok (.bipush 30, 2) := by decide +kernel
theorem dX2_whyNotSealed_35 : decode cX2_whyNotSealed 35 = .ok (.iload_n 1, 1) := by decide +kernel
theorem dX2_whyNotSealed_36 : decode cX2_whyNotSealed 36 = .ok (.invokevirtual 22, 3) := by decide +kernel
theorem dX2_whyNotSealed_39 : decode cX2_whyNotSealed 39 = .ok (.iload_n 3, 1) := by decide +kernel
theorem dX2_whyNotSealed_40 : decode cX2_whyNotSealed 40 = .ok (.if_icmp .ge 7, 3) := by decide +kernel
theorem dX2_whyNotSealed_43 : decode cX2_whyNotSealed 43 = .ok (.iconst 4, 1) := by decide +kernel
theorem dX2_whyNotSealed_44 : decode cX2_whyNotSealed 44 = .ok (.goto 4, 3) := by decide +kernel
theorem dX2_whyNotSealed_47 : decode cX2_whyNotSealed 47 = .ok (.iconst 0, 1) := by decide +kernel
theorem dX2_whyNotSealed_48 : decode cX2_whyNotSealed 48 = .ok (.ireturn, 1) := by decide +kernel
set_option maxRecDepth 20000 in
theorem ggX2_sealBid_X2_placeOfBid : GoodIn wsX2_sealBid wsX2_placeOfBid := goodIn_r _ [4] (by decide +kernel) (by decide +kernel)
set_option maxRecDepth 20000 in
theorem gX2_sealBid_X2_placeOfBid : GoodIn wsX2_sealBid (va_wsS RX2 26 yX2_placeOfBid wsX2_placeOfBid) := goodIn_app (goodIn_of _ (by decide +kernel)) ggX2_sealBid_X2_placeOfBid
set_option maxRecDepth 20000 in
theorem ggX2_sealBid_X2_get_ : GoodIn wsX2_sealBid wsX2_get_ := goodIn_r _ [8, 9, 10, 11, 3, 12, 13, 22] (by decide +kernel) (by decide +kernel)
set_option maxRecDepth 20000 in
theorem gX2_sealBid_X2_get_ : GoodIn wsX2_sealBid (wsV RX2 45 RX2 yX2_get_ wsX2_get_) := goodIn_app (goodIn_of _ (by decide +kernel)) ggX2_sealBid_X2_get_
set_option maxRecDepth 20000 in
theorem ggX2_sealBid_X2_put : GoodIn wsX2_sealBid wsX2_put := goodIn_r _ [17, 13, 22] (by decide +kernel) (by decide +kernel)
set_option maxRecDepth 20000 in
theorem gX2_sealBid_X2_put : GoodIn wsX2_sealBid (wsV RX2 19 RX2 yX2_put wsX2_put) := goodIn_app (goodIn_of _ (by decide +kernel)) ggX2_sealBid_X2_put
set_option maxRecDepth 20000 in
theorem ggX2_sealBid_X2_add : GoodIn wsX2_sealBid wsX2_add := goodIn_r _ [21, 9, 10, 11, 3, 12, 13, 14, 15, 16, 17, 22] (by decide +kernel) (by decide +kernel)
set_option maxRecDepth 20000 in
theorem gX2_sealBid_X2_add : GoodIn wsX2_sealBid (wsV RX2 47 RX2 yX2_add wsX2_add) := goodIn_app (goodIn_of _ (by decide +kernel)) ggX2_sealBid_X2_add
theorem dX2_sealBid_0 : decode cX2_sealBid 0 = .ok (.iload_n 1, 1) := by decide +kernel
theorem dX2_sealBid_1 : decode cX2_sealBid 1 = .ok (.iload_n 2, 1) := by decide +kernel
theorem dX2_sealBid_2 : decode cX2_sealBid 2 = .ok (.invokestatic 26, 3) := by decide +kernel
theorem dX2_sealBid_5 : decode cX2_sealBid 5 = .ok (.istore 4, 2) := by decide +kernel
theorem dX2_sealBid_7 : decode cX2_sealBid 7 = .ok (.bipush 73, 2) := by decide +kernel
theorem dX2_sealBid_9 : decode cX2_sealBid 9 = .ok (.iload_n 3, 1) := by decide +kernel
theorem dX2_sealBid_10 : decode cX2_sealBid 10 = .ok (.imul, 1) := by decide +kernel
theorem dX2_sealBid_11 : decode cX2_sealBid 11 = .ok (.bipush 41, 2) := by decide +kernel
theorem dX2_sealBid_13 : decode cX2_sealBid 13 = .ok (.aload_n 0, 1) := by decide +kernel
theorem dX2_sealBid_14 : decode cX2_sealBid 14 = .ok (.sipush 170, 3) := by decide +kernel
theorem dX2_sealBid_17 : decode cX2_sealBid 17 = .ok (.invokevirtual 45, 3) := by decide +kernel
theorem dX2_sealBid_20 : decode cX2_sealBid 20 = .ok (.imul, 1) := by decide +kernel
theorem dX2_sealBid_21 : decode cX2_sealBid 21 = .ok (.iadd, 1) := by decide +kernel
theorem dX2_sealBid_22 : decode cX2_sealBid 22 = .ok (.bipush 6, 2) := by decide +kernel
theorem dX2_sealBid_24 : decode cX2_sealBid 24 = .ok (.iload_n 1, 1) := by decide +kernel
theorem dX2_sealBid_25 : decode cX2_sealBid 25 = .ok (.imul, 1) := by decide +kernel
theorem dX2_sealBid_26 : decode cX2_sealBid 26 = .ok (.iadd, 1) := by decide +kernel
theorem dX2_sealBid_27 : decode cX2_sealBid 27 = .ok (.iload_n 2, 1) := by decide +kernel
theorem dX2_sealBid_28 : decode cX2_sealBid 28 = .ok (.iadd, 1) := by decide +kernel
theorem dX2_sealBid_29 : decode cX2_sealBid 29 = .ok (.sipush 4096, 3) := by decide +kernel
theorem dX2_sealBid_32 : decode cX2_sealBid 32 = .ok (.irem, 1) := by decide +kernel
theorem dX2_sealBid_33 : decode cX2_sealBid 33 = .ok (.istore 5, 2) := by decide +kernel
theorem dX2_sealBid_35 : decode cX2_sealBid 35 = .ok (.aload_n 0, 1) := by decide +kernel
theorem dX2_sealBid_36 : decode cX2_sealBid 36 = .ok (.bipush 54, 2) := by decide +kernel
theorem dX2_sealBid_38 : decode cX2_sealBid 38 = .ok (.iload 4, 2) := by decide +kernel
theorem dX2_sealBid_40 : decode cX2_sealBid 40 = .ok (.iload_n 3, 1) := by decide +kernel
theorem dX2_sealBid_41 : decode cX2_sealBid 41 = .ok (.invokevirtual 19, 3) := by decide +kernel
theorem dX2_sealBid_44 : decode cX2_sealBid 44 = .ok (.aload_n 0, 1) := by decide +kernel
theorem dX2_sealBid_45 : decode cX2_sealBid 45 = .ok (.bipush 90, 2) := by decide +kernel
theorem dX2_sealBid_47 : decode cX2_sealBid 47 = .ok (.iload 4, 2) := by decide +kernel
theorem dX2_sealBid_49 : decode cX2_sealBid 49 = .ok (.iload 5, 2) := by decide +kernel
theorem dX2_sealBid_51 : decode cX2_sealBid 51 = .ok (.invokevirtual 19, 3) := by decide +kernel
theorem dX2_sealBid_54 : decode cX2_sealBid 54 = .ok (.aload_n 0, 1) := by decide +kernel
theorem dX2_sealBid_55 : decode cX2_sealBid 55 = .ok (.bipush 126, 2) := by decide +kernel
theorem dX2_sealBid_57 : decode cX2_sealBid 57 = .ok (.iload 4, 2) := by decide +kernel
theorem dX2_sealBid_59 : decode cX2_sealBid 59 = .ok (.aload_n 0, 1) := by decide +kernel
theorem dX2_sealBid_60 : decode cX2_sealBid 60 = .ok (.sipush 168, 3) := by decide +kernel
theorem dX2_sealBid_63 : decode cX2_sealBid 63 = .ok (.invokevirtual 45, 3) := by decide +kernel
theorem dX2_sealBid_66 : decode cX2_sealBid 66 = .ok (.invokevirtual 19, 3) := by decide +kernel
theorem dX2_sealBid_69 : decode cX2_sealBid 69 = .ok (.aload_n 0, 1) := by decide +kernel
theorem dX2_sealBid_70 : decode cX2_sealBid 70 = .ok (.sipush 170, 3) := by decide +kernel
theorem dX2_sealBid_73 : decode cX2_sealBid 73 = .ok (.iconst 0, 1) := by decide +kernel
theorem dX2_sealBid_74 : decode cX2_sealBid 74 = .ok (.iconst 1, 1) := by decide +kernel
theorem dX2_sealBid_75 : decode cX2_sealBid 75 = .ok (.invokevirtual 47, 3) := by decide +kernel
theorem dX2_sealBid_78 : decode cX2_sealBid 78 = .ok (.aload_n 0, 1) := by decide +kernel
theorem dX2_sealBid_79 : decode cX2_sealBid 79 = .ok (.sipush 171, 3) := by decide +kernel
theorem dX2_sealBid_82 : decode cX2_sealBid 82 = .ok (.iconst 0, 1) := by decide +kernel
theorem dX2_sealBid_83 : decode cX2_sealBid 83 = .ok (.iconst 1, 1) := by decide +kernel
theorem dX2_sealBid_84 : decode cX2_sealBid 84 = .ok (.invokevirtual 47, 3) := by decide +kernel
theorem dX2_sealBid_87 : decode cX2_sealBid 87 = .ok (.iload 5, 2) := by decide +kernel
theorem dX2_sealBid_89 : decode cX2_sealBid 89 = .ok (.ireturn, 1) := by decide +kernel
set_option maxRecDepth 20000 in
theorem ggX2_feeFor_X2_get_ : GoodIn wsX2_feeFor wsX2_get_ := goodIn_r _ [5, 6, 7, 8, 4, 9, 10, 18] (by decide +kernel) (by decide +kernel)
set_option maxRecDepth 20000 in
theorem gX2_feeFor_X2_get_ : GoodIn wsX2_feeFor (wsV RX2 45 RX2 yX2_get_ wsX2_get_) := goodIn_app (goodIn_of _ (by decide +kernel)) ggX2_feeFor_X2_get_
set_option maxRecDepth 20000 in
theorem ggX2_feeFor_X2_ofBid : GoodIn wsX2_feeFor wsX2_ofBid := goodIn_r _ [14, 15, 16, 4, 17, 6, 7, 8, 9, 10, 18] (by decide +kernel) (by decide +kernel)
set_option maxRecDepth 20000 in
theorem gX2_feeFor_X2_ofBid : GoodIn wsX2_feeFor (wsV RX2 29 RX2 yX2_ofBid wsX2_ofBid) := goodIn_app (goodIn_of _ (by decide +kernel)) ggX2_feeFor_X2_ofBid
set_option maxRecDepth 20000 in
theorem ggX2_feeFor_X2_get : GoodIn wsX2_feeFor wsX2_get := goodIn_r _ [9, 10, 18] (by decide +kernel) (by decide +kernel)
set_option maxRecDepth 20000 in
theorem gX2_feeFor_X2_get : GoodIn wsX2_feeFor (wsV RX2 22 RX2 yX2_get wsX2_get) := goodIn_app (goodIn_of _ (by decide +kernel)) ggX2_feeFor_X2_get
theorem dX2_feeFor_0 : decode cX2_feeFor 0 = .ok (.aload_n 0, 1) := by decide +kernel
theorem dX2_feeFor_1 : decode cX2_feeFor 1 = .ok (.sipush 168, 3) := by decide +kernel
theorem dX2_feeFor_4 : decode cX2_feeFor 4 = .ok (.invokevirtual 45, 3) := by decide +kernel
theorem dX2_feeFor_7 : decode cX2_feeFor 7 = .ok (.aload_n 0, 1) := by decide +kernel
theorem dX2_feeFor_8 : decode cX2_feeFor 8 = .ok (.bipush 126, 2) := by decide +kernel
theorem dX2_feeFor_10 : decode cX2_feeFor 10 = .ok (.iload_n 1, 1) := by decide +kernel
theorem dX2_feeFor_11 : decode cX2_feeFor 11 = .ok (.iload_n 2, 1) := by decide +kernel
theorem dX2_feeFor_12 : decode cX2_feeFor 12 = .ok (.invokevirtual 29, 3) := by decide +kernel
theorem dX2_feeFor_15 : decode cX2_feeFor 15 = .ok (.isub, 1) := by decide +kernel
theorem dX2_feeFor_16 : decode cX2_feeFor 16 = .ok (.istore_n 3, 1) := by decide +kernel
theorem dX2_feeFor_17 : decode cX2_feeFor 17 = .ok (.aload_n 0, 1) := by decide +kernel
theorem dX2_feeFor_18 : decode cX2_feeFor 18 = .ok (.sipush 162, 3) := by decide +kernel
theorem dX2_feeFor_21 : decode cX2_feeFor 21 = .ok (.iconst 0, 1) := by decide +kernel
theorem dX2_feeFor_22 : decode cX2_feeFor 22 = .ok (.invokevirtual 22, 3) := by decide +kernel
theorem dX2_feeFor_25 : decode cX2_feeFor 25 = .ok (.aload_n 0, 1) := by decide +kernel
theorem dX2_feeFor_26 : decode cX2_feeFor 26 = .ok (.sipush 162, 3) := by decide +kernel
theorem dX2_feeFor_29 : decode cX2_feeFor 29 = .ok (.iconst 1, 1) := by decide +kernel
theorem dX2_feeFor_30 : decode cX2_feeFor 30 = .ok (.invokevirtual 22, 3) := by decide +kernel
theorem dX2_feeFor_33 : decode cX2_feeFor 33 = .ok (.iload_n 3, 1) := by decide +kernel
theorem dX2_feeFor_34 : decode cX2_feeFor 34 = .ok (.imul, 1) := by decide +kernel
theorem dX2_feeFor_35 : decode cX2_feeFor 35 = .ok (.iadd, 1) := by decide +kernel
theorem dX2_feeFor_36 : decode cX2_feeFor 36 = .ok (.ireturn, 1) := by decide +kernel
set_option maxRecDepth 20000 in
theorem ggX2_whyNotWithdrawn_X2_isOpened : GoodIn wsX2_whyNotWithdrawn wsX2_isOpened := goodIn_r _ [5, 6, 7, 8, 4, 9, 10, 11, 12, 13, 14, 30] (by decide +kernel) (by decide +kernel)
set_option maxRecDepth 20000 in
theorem gX2_whyNotWithdrawn_X2_isOpened : GoodIn wsX2_whyNotWithdrawn (wsV RX2 41 RX2 yX2_isOpened wsX2_isOpened) := goodIn_app (goodIn_of _ (by decide +kernel)) ggX2_whyNotWithdrawn_X2_isOpened
set_option maxRecDepth 20000 in
theorem ggX2_whyNotWithdrawn_X2_hasBid : GoodIn wsX2_whyNotWithdrawn wsX2_hasBid := goodIn_r _ [18, 19, 20, 21, 4, 22, 23, 24, 25, 10, 11, 12, 13, 14, 30] (by decide +kernel) (by decide +kernel)
set_option maxRecDepth 20000 in
theorem gX2_whyNotWithdrawn_X2_hasBid : GoodIn wsX2_whyNotWithdrawn (wsV RX2 33 RX2 yX2_hasBid wsX2_hasBid) := goodIn_app (goodIn_of _ (by decide +kernel)) ggX2_whyNotWithdrawn_X2_hasBid
set_option maxRecDepth 20000 in
theorem ggX2_whyNotWithdrawn_X2_get : GoodIn wsX2_whyNotWithdrawn wsX2_get := goodIn_r _ [13, 14, 30] (by decide +kernel) (by decide +kernel)
set_option maxRecDepth 20000 in
theorem gX2_whyNotWithdrawn_X2_get : GoodIn wsX2_whyNotWithdrawn (wsV RX2 22 RX2 yX2_get wsX2_get) := goodIn_app (goodIn_of _ (by decide +kernel)) ggX2_whyNotWithdrawn_X2_get
set_option maxRecDepth 20000 in
theorem ggX2_whyNotWithdrawn_X2_feeFor : GoodIn wsX2_whyNotWithdrawn wsX2_feeFor := goodIn_r _ [29, 6, 7, 8, 4, 9, 10, 11, 12, 13, 14, 19, 20, 21, 22, 23, 24, 25, 30] (by decide +kernel) (by decide +kernel)
set_option maxRecDepth 20000 in
theorem gX2_whyNotWithdrawn_X2_feeFor : GoodIn wsX2_whyNotWithdrawn (wsV RX2 50 RX2 yX2_feeFor wsX2_feeFor) := goodIn_app (goodIn_of _ (by decide +kernel)) ggX2_whyNotWithdrawn_X2_feeFor
theorem dX2_whyNotWithdrawn_0 : decode cX2_whyNotWithdrawn 0 = .ok (.aload_n 0, 1) := by decide +kernel
theorem dX2_whyNotWithdrawn_1 : decode cX2_whyNotWithdrawn 1 = .ok (.invokevirtual 41, 3) := by decide +kernel
theorem dX2_whyNotWithdrawn_4 : decode cX2_whyNotWithdrawn 4 = .ok (.ifCond .eq 5, 3) := by decide +kernel
theorem dX2_whyNotWithdrawn_7 : decode cX2_whyNotWithdrawn 7 = .ok (.iconst 1, 1) := by decide +kernel
theorem dX2_whyNotWithdrawn_8 : decode cX2_whyNotWithdrawn 8 = .ok (.ireturn, 1) := by decide +kernel
theorem dX2_whyNotWithdrawn_9 : decode cX2_whyNotWithdrawn 9 = .ok (.aload_n 0, 1) := by decide +kernel
theorem dX2_whyNotWithdrawn_10 : decode cX2_whyNotWithdrawn 10 = .ok (.iload_n 1, 1) := by decide +kernel
theorem dX2_whyNotWithdrawn_11 : decode cX2_whyNotWithdrawn 11 = .ok (.iload_n 2, 1) := by decide +kernel
theorem dX2_whyNotWithdrawn_12 : decode cX2_whyNotWithdrawn 12 = .ok (.invokevirtual 33, 3) := by decide +kernel
theorem dX2_whyNotWithdrawn_15 : decode cX2_whyNotWithdrawn 15 = .ok (.ifCond .ne 5, 3) := by decide +kernel
theorem dX2_whyNotWithdrawn_18 : decode cX2_whyNotWithdrawn 18 = .ok (.iconst 2, 1) := by decide +kernel
theorem dX2_whyNotWithdrawn_19 : decode cX2_whyNotWithdrawn 19 = .ok (.ireturn, 1) := by decide +kernel
theorem dX2_whyNotWithdrawn_20 : decode cX2_whyNotWithdrawn 20 = .ok (.aload_n 0, 1) := by decide +kernel
theorem dX2_whyNotWithdrawn_21 : decode cX2_whyNotWithdrawn 21 = .ok (.bipush 30, 2) := by decide +kernel
theorem dX2_whyNotWithdrawn_23 : decode cX2_whyNotWithdrawn 23 = .ok (.iload_n 1, 1) := by decide +kernel
theorem dX2_whyNotWithdrawn_24 : decode cX2_whyNotWithdrawn 24 = .ok (.invokevirtual 22, 3) := by decide +kernel
theorem dX2_whyNotWithdrawn_27 : decode cX2_whyNotWithdrawn 27 = .ok (.aload_n 0, 1) := by decide +kernel
theorem dX2_whyNotWithdrawn_28 : decode cX2_whyNotWithdrawn 28 = .ok (.iload_n 1, 1) := by decide +kernel
theorem dX2_whyNotWithdrawn_29 : decode cX2_whyNotWithdrawn 29 = .ok (.iload_n 2, 1) := by decide +kernel
theorem dX2_whyNotWithdrawn_30 : decode cX2_whyNotWithdrawn 30 = .ok (.invokevirtual 50, 3) := by decide +kernel
theorem dX2_whyNotWithdrawn_33 : decode cX2_whyNotWithdrawn 33 = .ok (.if_icmp .ge 7, 3) := by decide +kernel
theorem dX2_whyNotWithdrawn_36 : decode cX2_whyNotWithdrawn 36 = .ok (.iconst 3, 1) := by decide +kernel
theorem dX2_whyNotWithdrawn_37 : decode cX2_whyNotWithdrawn 37 = .ok (.goto 4, 3) := by decide +kernel
theorem dX2_whyNotWithdrawn_40 : decode cX2_whyNotWithdrawn 40 = .ok (.iconst 0, 1) := by decide +kernel
theorem dX2_whyNotWithdrawn_41 : decode cX2_whyNotWithdrawn 41 = .ok (.ireturn, 1) := by decide +kernel
set_option maxRecDepth 20000 in
theorem ggX2_takeBack_X2_feeFor : GoodIn wsX2_takeBack wsX2_feeFor := goodIn_r _ [5, 6, 7, 8, 4, 9, 10, 11, 12, 13, 14, 15, 16, 17, 18, 19, 20, 21, 34] (by decide +kernel) (by decide +kernel)
set_option maxRecDepth 20000 in
theorem gX2_takeBack_X2_feeFor : GoodIn wsX2_takeBack (wsV RX2 50 RX2 yX2_feeFor wsX2_feeFor) := goodIn_app (goodIn_of _ (by decide +kernel)) ggX2_takeBack_X2_feeFor
set_option maxRecDepth 20000 in
theorem ggX2_takeBack_X2_placeOfBid : GoodIn wsX2_takeBack wsX2_placeOfBid := goodIn_r _ [21] (by decide +kernel) (by decide +kernel)
set_option maxRecDepth 20000 in
theorem gX2_takeBack_X2_placeOfBid : GoodIn wsX2_takeBack (va_wsS RX2 26 yX2_placeOfBid wsX2_placeOfBid) := goodIn_app (goodIn_of _ (by decide +kernel)) ggX2_takeBack_X2_placeOfBid
set_option maxRecDepth 20000 in
theorem ggX2_takeBack_X2_put : GoodIn wsX2_takeBack wsX2_put := goodIn_r _ [25, 14, 34] (by decide +kernel) (by decide +kernel)
set_option maxRecDepth 20000 in
theorem gX2_takeBack_X2_put : GoodIn wsX2_takeBack (wsV RX2 19 RX2 yX2_put wsX2_put) := goodIn_app (goodIn_of _ (by decide +kernel)) ggX2_takeBack_X2_put
set_option maxRecDepth 20000 in
theorem ggX2_takeBack_X2_putInChest : GoodIn wsX2_takeBack wsX2_putInChest := goodIn_r _ [29, 30, 31, 32, 4, 33, 10, 11, 12, 13, 14, 22, 23, 24, 25, 34] (by decide +kernel) (by decide +kernel)
set_option maxRecDepth 20000 in
theorem gX2_takeBack_X2_putInChest : GoodIn wsX2_takeBack (wsV RX2 53 RX2 yX2_putInChest wsX2_putInChest) := goodIn_app (goodIn_of _ (by decide +kernel)) ggX2_takeBack_X2_putInChest
set_option maxRecDepth 20000 in
theorem ggX2_takeBack_X2_add : GoodIn wsX2_takeBack wsX2_add := goodIn_r _ [33, 10, 11, 12, 4, 13, 14, 22, 23, 24, 25, 34] (by decide +kernel) (by decide +kernel)
set_option maxRecDepth 20000 in
theorem gX2_takeBack_X2_add : GoodIn wsX2_takeBack (wsV RX2 47 RX2 yX2_add wsX2_add) := goodIn_app (goodIn_of _ (by decide +kernel)) ggX2_takeBack_X2_add
theorem dX2_takeBack_0 : decode cX2_takeBack 0 = .ok (.aload_n 0, 1) := by decide +kernel
theorem dX2_takeBack_1 : decode cX2_takeBack 1 = .ok (.iload_n 1, 1) := by decide +kernel
theorem dX2_takeBack_2 : decode cX2_takeBack 2 = .ok (.iload_n 2, 1) := by decide +kernel
theorem dX2_takeBack_3 : decode cX2_takeBack 3 = .ok (.invokevirtual 50, 3) := by decide +kernel
theorem dX2_takeBack_6 : decode cX2_takeBack 6 = .ok (.istore_n 3, 1) := by decide +kernel
theorem dX2_takeBack_7 : decode cX2_takeBack 7 = .ok (.aload_n 0, 1) := by decide +kernel
theorem dX2_takeBack_8 : decode cX2_takeBack 8 = .ok (.bipush 54, 2) := by decide +kernel
theorem dX2_takeBack_10 : decode cX2_takeBack 10 = .ok (.iload_n 1, 1) := by decide +kernel
theorem dX2_takeBack_11 : decode cX2_takeBack 11 = .ok (.iload_n 2, 1) := by decide +kernel
theorem dX2_takeBack_12 : decode cX2_takeBack 12 = .ok (.invokestatic 26, 3) := by decide +kernel
theorem dX2_takeBack_15 : decode cX2_takeBack 15 = .ok (.iconst 0, 1) := by decide +kernel
theorem dX2_takeBack_16 : decode cX2_takeBack 16 = .ok (.invokevirtual 19, 3) := by decide +kernel
theorem dX2_takeBack_19 : decode cX2_takeBack 19 = .ok (.aload_n 0, 1) := by decide +kernel
theorem dX2_takeBack_20 : decode cX2_takeBack 20 = .ok (.iload_n 1, 1) := by decide +kernel
theorem dX2_takeBack_21 : decode cX2_takeBack 21 = .ok (.iload_n 3, 1) := by decide +kernel
theorem dX2_takeBack_22 : decode cX2_takeBack 22 = .ok (.invokevirtual 53, 3) := by decide +kernel
theorem dX2_takeBack_25 : decode cX2_takeBack 25 = .ok (.aload_n 0, 1) := by decide +kernel
theorem dX2_takeBack_26 : decode cX2_takeBack 26 = .ok (.bipush 48, 2) := by decide +kernel
theorem dX2_takeBack_28 : decode cX2_takeBack 28 = .ok (.iload_n 1, 1) := by decide +kernel
theorem dX2_takeBack_29 : decode cX2_takeBack 29 = .ok (.iload_n 3, 1) := by decide +kernel
theorem dX2_takeBack_30 : decode cX2_takeBack 30 = .ok (.invokevirtual 47, 3) := by decide +kernel
theorem dX2_takeBack_33 : decode cX2_takeBack 33 = .ok (.aload_n 0, 1) := by decide +kernel
theorem dX2_takeBack_34 : decode cX2_takeBack 34 = .ok (.sipush 172, 3) := by decide +kernel
theorem dX2_takeBack_37 : decode cX2_takeBack 37 = .ok (.iconst 0, 1) := by decide +kernel
theorem dX2_takeBack_38 : decode cX2_takeBack 38 = .ok (.iconst 1, 1) := by decide +kernel
theorem dX2_takeBack_39 : decode cX2_takeBack 39 = .ok (.invokevirtual 47, 3) := by decide +kernel
theorem dX2_takeBack_42 : decode cX2_takeBack 42 = .ok (.iload_n 3, 1) := by decide +kernel
theorem dX2_takeBack_43 : decode cX2_takeBack 43 = .ok (.ireturn, 1) := by decide +kernel
set_option maxRecDepth 20000 in
theorem ggX2_putInChest_X2_add : GoodIn wsX2_putInChest wsX2_add := goodIn_r _ [5, 6, 7, 8, 4, 9, 10, 11, 12, 13, 14, 15] (by decide +kernel) (by decide +kernel)
set_option maxRecDepth 20000 in
theorem gX2_putInChest_X2_add : GoodIn wsX2_putInChest (wsV RX2 47 RX2 yX2_add wsX2_add) := goodIn_app (goodIn_of _ (by decide +kernel)) ggX2_putInChest_X2_add
theorem dX2_putInChest_0 : decode cX2_putInChest 0 = .ok (.aload_n 0, 1) := by decide +kernel
theorem dX2_putInChest_1 : decode cX2_putInChest 1 = .ok (.bipush 30, 2) := by decide +kernel
theorem dX2_putInChest_3 : decode cX2_putInChest 3 = .ok (.iload_n 1, 1) := by decide +kernel
theorem dX2_putInChest_4 : decode cX2_putInChest 4 = .ok (.iload_n 2, 1) := by decide +kernel
theorem dX2_putInChest_5 : decode cX2_putInChest 5 = .ok (.ineg, 1) := by decide +kernel
theorem dX2_putInChest_6 : decode cX2_putInChest 6 = .ok (.invokevirtual 47, 3) := by decide +kernel
theorem dX2_putInChest_9 : decode cX2_putInChest 9 = .ok (.aload_n 0, 1) := by decide +kernel
theorem dX2_putInChest_10 : decode cX2_putInChest 10 = .ok (.sipush 165, 3) := by decide +kernel
theorem dX2_putInChest_13 : decode cX2_putInChest 13 = .ok (.iconst 0, 1) := by decide +kernel
theorem dX2_putInChest_14 : decode cX2_putInChest 14 = .ok (.iload_n 2, 1) := by decide +kernel
theorem dX2_putInChest_15 : decode cX2_putInChest 15 = .ok (.invokevirtual 47, 3) := by decide +kernel
theorem dX2_putInChest_18 : decode cX2_putInChest 18 = .ok (.return_, 1) := by decide +kernel
set_option maxRecDepth 20000 in
theorem ggX2_isOpened_X2_get_ : GoodIn wsX2_isOpened wsX2_get_ := goodIn_r _ [5, 6, 7, 8, 4, 9, 10, 11] (by decide +kernel) (by decide +kernel)
set_option maxRecDepth 20000 in
theorem gX2_isOpened_X2_get_ : GoodIn wsX2_isOpened (wsV RX2 45 RX2 yX2_get_ wsX2_get_) := goodIn_app (goodIn_of _ (by decide +kernel)) ggX2_isOpened_X2_get_
theorem dX2_isOpened_0 : decode cX2_isOpened 0 = .ok (.aload_n 0, 1) := by decide +kernel
theorem dX2_isOpened_1 : decode cX2_isOpened 1 = .ok (.sipush 169, 3) := by decide +kernel
theorem dX2_isOpened_4 : decode cX2_isOpened 4 = .ok (.invokevirtual 45, 3) := by decide +kernel
theorem dX2_isOpened_7 : decode cX2_isOpened 7 = .ok (.ifCond .eq 7, 3) := by decide +kernel
theorem dX2_isOpened_10 : decode cX2_isOpened 10 = .ok (.iconst 1, 1) := by decide +kernel
theorem dX2_isOpened_11 : decode cX2_isOpened 11 = .ok (.goto 4, 3) := by decide +kernel
theorem dX2_isOpened_14 : decode cX2_isOpened 14 = .ok (.iconst 0, 1) := by decide +kernel
theorem dX2_isOpened_15 : decode cX2_isOpened 15 = .ok (.ireturn, 1) := by decide +kernel
set_option maxRecDepth 20000 in
theorem ggX2_openBids_X2_put : GoodIn wsX2_openBids wsX2_put := goodIn_r _ [5, 6, 7] (by decide +kernel) (by decide +kernel)
set_option maxRecDepth 20000 in
theorem gX2_openBids_X2_put : GoodIn wsX2_openBids (wsV RX2 19 RX2 yX2_put wsX2_put) := goodIn_app (goodIn_of _ (by decide +kernel)) ggX2_openBids_X2_put
theorem dX2_openBids_0 : decode cX2_openBids 0 = .ok (.aload_n 0, 1) := by decide +kernel
theorem dX2_openBids_1 : decode cX2_openBids 1 = .ok (.sipush 169, 3) := by decide +kernel
theorem dX2_openBids_4 : decode cX2_openBids 4 = .ok (.iconst 0, 1) := by decide +kernel
theorem dX2_openBids_5 : decode cX2_openBids 5 = .ok (.iconst 1, 1) := by decide +kernel
theorem dX2_openBids_6 : decode cX2_openBids 6 = .ok (.invokevirtual 19, 3) := by decide +kernel
theorem dX2_openBids_9 : decode cX2_openBids 9 = .ok (.return_, 1) := by decide +kernel
set_option maxRecDepth 20000 in
theorem ggX2_passHours_X2_get_ : GoodIn wsX2_passHours wsX2_get_ := goodIn_r _ [9, 10, 11, 12, 8, 13, 14, 19] (by decide +kernel) (by decide +kernel)
set_option maxRecDepth 20000 in
theorem gX2_passHours_X2_get_ : GoodIn wsX2_passHours (wsV RX2 45 RX2 yX2_get_ wsX2_get_) := goodIn_app (goodIn_of _ (by decide +kernel)) ggX2_passHours_X2_get_
set_option maxRecDepth 20000 in
theorem ggX2_passHours_X2_put : GoodIn wsX2_passHours wsX2_put := goodIn_r _ [18, 14, 19] (by decide +kernel) (by decide +kernel)
set_option maxRecDepth 20000 in
theorem gX2_passHours_X2_put : GoodIn wsX2_passHours (wsV RX2 19 RX2 yX2_put wsX2_put) := goodIn_app (goodIn_of _ (by decide +kernel)) ggX2_passHours_X2_put
theorem dX2_passHours_0 : decode cX2_passHours 0 = .ok (.aload_n 0, 1) := by decide +kernel
theorem dX2_passHours_1 : decode cX2_passHours 1 = .ok (.sipush 168, 3) := by decide +kernel
theorem dX2_passHours_4 : decode cX2_passHours 4 = .ok (.iconst 0, 1) := by decide +kernel
theorem dX2_passHours_5 : decode cX2_passHours 5 = .ok (.bipush 23, 2) := by decide +kernel
theorem dX2_passHours_7 : decode cX2_passHours 7 = .ok (.aload_n 0, 1) := by decide +kernel
theorem dX2_passHours_8 : decode cX2_passHours 8 = .ok (.sipush 168, 3) := by decide +kernel
theorem dX2_passHours_11 : decode cX2_passHours 11 = .ok (.invokevirtual 45, 3) := by decide +kernel
theorem dX2_passHours_14 : decode cX2_passHours 14 = .ok (.iload_n 1, 1) := by decide +kernel
theorem dX2_passHours_15 : decode cX2_passHours 15 = .ok (.iadd, 1) := by decide +kernel
theorem dX2_passHours_16 : decode cX2_passHours 16 = .ok (.invokestatic 57, 3) := by decide +kernel
theorem dX2_passHours_19 : decode cX2_passHours 19 = .ok (.invokevirtual 19, 3) := by decide +kernel
theorem dX2_passHours_22 : decode cX2_passHours 22 = .ok (.aload_n 0, 1) := by decide +kernel
theorem dX2_passHours_23 : decode cX2_passHours 23 = .ok (.sipush 168, 3) := by decide +kernel
theorem dX2_passHours_26 : decode cX2_passHours 26 = .ok (.invokevirtual 45, 3) := by decide +kernel
theorem dX2_passHours_29 : decode cX2_passHours 29 = .ok (.ireturn, 1) := by decide +kernel
set_option maxRecDepth 20000 in
theorem ggX2_giveSpot_X2_put : GoodIn wsX2_giveSpot wsX2_put := goodIn_r _ [5, 6, 19] (by decide +kernel) (by decide +kernel)
set_option maxRecDepth 20000 in
theorem gX2_giveSpot_X2_put : GoodIn wsX2_giveSpot (wsV RX2 19 RX2 yX2_put wsX2_put) := goodIn_app (goodIn_of _ (by decide +kernel)) ggX2_giveSpot_X2_put
set_option maxRecDepth 20000 in
theorem ggX2_giveSpot_X2_putInChest : GoodIn wsX2_giveSpot wsX2_putInChest := goodIn_r _ [10, 11, 12, 13, 4, 14, 15, 16, 17, 18, 6, 1, 2, 3, 5, 19] (by decide +kernel) (by decide +kernel)
set_option maxRecDepth 20000 in
theorem gX2_giveSpot_X2_putInChest : GoodIn wsX2_giveSpot (wsV RX2 53 RX2 yX2_putInChest wsX2_putInChest) := goodIn_app (goodIn_of _ (by decide +kernel)) ggX2_giveSpot_X2_putInChest
set_option maxRecDepth 20000 in
theorem ggX2_giveSpot_X2_add : GoodIn wsX2_giveSpot wsX2_add := goodIn_r _ [14, 15, 16, 17, 4, 18, 6, 1, 2, 3, 5, 19] (by decide +kernel) (by decide +kernel)
set_option maxRecDepth 20000 in
theorem gX2_giveSpot_X2_add : GoodIn wsX2_giveSpot (wsV RX2 47 RX2 yX2_add wsX2_add) := goodIn_app (goodIn_of _ (by decide +kernel)) ggX2_giveSpot_X2_add
theorem dX2_giveSpot_0 : decode cX2_giveSpot 0 = .ok (.aload_n 0, 1) := by decide +kernel
theorem dX2_giveSpot_1 : decode cX2_giveSpot 1 = .ok (.bipush 12, 2) := by decide +kernel
theorem dX2_giveSpot_3 : decode cX2_giveSpot 3 = .ok (.iload_n 1, 1) := by decide +kernel
theorem dX2_giveSpot_4 : decode cX2_giveSpot 4 = .ok (.iload_n 2, 1) := by decide +kernel
theorem dX2_giveSpot_5 : decode cX2_giveSpot 5 = .ok (.invokevirtual 19, 3) := by decide +kernel
theorem dX2_giveSpot_8 : decode cX2_giveSpot 8 = .ok (.aload_n 0, 1) := by decide +kernel
theorem dX2_giveSpot_9 : decode cX2_giveSpot 9 = .ok (.bipush 18, 2) := by decide +kernel
theorem dX2_giveSpot_11 : decode cX2_giveSpot 11 = .ok (.iload_n 1, 1) := by decide +kernel
theorem dX2_giveSpot_12 : decode cX2_giveSpot 12 = .ok (.iload_n 3, 1) := by decide +kernel
theorem dX2_giveSpot_13 : decode cX2_giveSpot 13 = .ok (.invokevirtual 19, 3) := by decide +kernel
theorem dX2_giveSpot_16 : decode cX2_giveSpot 16 = .ok (.aload_n 0, 1) := by decide +kernel
theorem dX2_giveSpot_17 : decode cX2_giveSpot 17 = .ok (.iload_n 2, 1) := by decide +kernel
theorem dX2_giveSpot_18 : decode cX2_giveSpot 18 = .ok (.iload_n 3, 1) := by decide +kernel
theorem dX2_giveSpot_19 : decode cX2_giveSpot 19 = .ok (.invokevirtual 53, 3) := by decide +kernel
theorem dX2_giveSpot_22 : decode cX2_giveSpot 22 = .ok (.aload_n 0, 1) := by decide +kernel
theorem dX2_giveSpot_23 : decode cX2_giveSpot 23 = .ok (.bipush 42, 2) := by decide +kernel
theorem dX2_giveSpot_25 : decode cX2_giveSpot 25 = .ok (.iload_n 2, 1) := by decide +kernel
theorem dX2_giveSpot_26 : decode cX2_giveSpot 26 = .ok (.iload_n 3, 1) := by decide +kernel
theorem dX2_giveSpot_27 : decode cX2_giveSpot 27 = .ok (.invokevirtual 47, 3) := by decide +kernel
theorem dX2_giveSpot_30 : decode cX2_giveSpot 30 = .ok (.aload_n 0, 1) := by decide +kernel
theorem dX2_giveSpot_31 : decode cX2_giveSpot 31 = .ok (.sipush 173, 3) := by decide +kernel
theorem dX2_giveSpot_34 : decode cX2_giveSpot 34 = .ok (.iconst 0, 1) := by decide +kernel
theorem dX2_giveSpot_35 : decode cX2_giveSpot 35 = .ok (.iconst 1, 1) := by decide +kernel
theorem dX2_giveSpot_36 : decode cX2_giveSpot 36 = .ok (.invokevirtual 47, 3) := by decide +kernel
theorem dX2_giveSpot_39 : decode cX2_giveSpot 39 = .ok (.return_, 1) := by decide +kernel
set_option maxRecDepth 20000 in
theorem ggX2_spotOfOwner_X2_get : GoodIn wsX2_spotOfOwner wsX2_get := goodIn_r _ [5, 6, 7] (by decide +kernel) (by decide +kernel)
set_option maxRecDepth 20000 in
theorem gX2_spotOfOwner_X2_get : GoodIn wsX2_spotOfOwner (wsV RX2 22 RX2 yX2_get wsX2_get) := goodIn_app (goodIn_of _ (by decide +kernel)) ggX2_spotOfOwner_X2_get
theorem dX2_spotOfOwner_0 : decode cX2_spotOfOwner 0 = .ok (.iconst 0, 1) := by decide +kernel
theorem dX2_spotOfOwner_1 : decode cX2_spotOfOwner 1 = .ok (.istore_n 2, 1) := by decide +kernel
theorem dX2_spotOfOwner_2 : decode cX2_spotOfOwner 2 = .ok (.iload_n 2, 1) := by decide +kernel
theorem dX2_spotOfOwner_3 : decode cX2_spotOfOwner 3 = .ok (.bipush 6, 2) := by decide +kernel
theorem dX2_spotOfOwner_5 : decode cX2_spotOfOwner 5 = .ok (.if_icmp .ge 22, 3) := by decide +kernel
theorem dX2_spotOfOwner_8 : decode cX2_spotOfOwner 8 = .ok (.aload_n 0, 1) := by decide +kernel
theorem dX2_spotOfOwner_9 : decode cX2_spotOfOwner 9 = .ok (.bipush 12, 2) := by decide +kernel
theorem dX2_spotOfOwner_11 : decode cX2_spotOfOwner 11 = .ok (.iload_n 2, 1) := by decide +kernel
theorem dX2_spotOfOwner_12 : decode cX2_spotOfOwner 12 = .ok (.invokevirtual 22, 3) := by decide +kernel
theorem dX2_spotOfOwner_15 : decode cX2_spotOfOwner 15 = .ok (.iload_n 1, 1) := by decide +kernel
theorem dX2_spotOfOwner_16 : decode cX2_spotOfOwner 16 = .ok (.if_icmp .ne 5, 3) := by decide +kernel
theorem dX2_spotOfOwner_19 : decode cX2_spotOfOwner 19 = .ok (.iload_n 2, 1) := by decide +kernel
theorem dX2_spotOfOwner_20 : decode cX2_spotOfOwner 20 = .ok (.ireturn, 1) := by decide +kernel
theorem dX2_spotOfOwner_21 : decode cX2_spotOfOwner 21 = .ok (.iinc 2 1, 3) := by decide +kernel
theorem dX2_spotOfOwner_24 : decode cX2_spotOfOwner 24 = .ok (.goto (-22), 3) := by decide +kernel
theorem dX2_spotOfOwner_27 : decode cX2_spotOfOwner 27 = .ok (.iconst (-1), 1) := by decide +kernel
theorem dX2_spotOfOwner_28 : decode cX2_spotOfOwner 28 = .ok (.ireturn, 1) := by decide +kernel
set_option maxRecDepth 20000 in
theorem ggX2_canFish_X2_isOpened : GoodIn wsX2_canFish wsX2_isOpened := goodIn_r _ [5, 6, 7, 8, 4, 9, 10, 11, 12, 13, 14, 15] (by decide +kernel) (by decide +kernel)
set_option maxRecDepth 20000 in
theorem gX2_canFish_X2_isOpened : GoodIn wsX2_canFish (wsV RX2 41 RX2 yX2_isOpened wsX2_isOpened) := goodIn_app (goodIn_of _ (by decide +kernel)) ggX2_canFish_X2_isOpened
set_option maxRecDepth 20000 in
theorem ggX2_canFish_X2_get : GoodIn wsX2_canFish wsX2_get := goodIn_r _ [13, 14, 15] (by decide +kernel) (by decide +kernel)
set_option maxRecDepth 20000 in
theorem gX2_canFish_X2_get : GoodIn wsX2_canFish (wsV RX2 22 RX2 yX2_get wsX2_get) := goodIn_app (goodIn_of _ (by decide +kernel)) ggX2_canFish_X2_get
theorem dX2_canFish_0 : decode cX2_canFish 0 = .ok (.aload_n 0, 1) := by decide +kernel
theorem dX2_canFish_1 : decode cX2_canFish 1 = .ok (.invokevirtual 41, 3) := by decide +kernel
theorem dX2_canFish_4 : decode cX2_canFish 4 = .ok (.ifCond .eq 18, 3) := by decide +kernel
theorem dX2_canFish_7 : decode cX2_canFish 7 = .ok (.aload_n 0, 1) := by decide +kernel
theorem dX2_canFish_8 : decode cX2_canFish 8 = .ok (.bipush 12, 2) := by decide +kernel
theorem dX2_canFish_10 : decode cX2_canFish 10 = .ok (.iload_n 1, 1) := by decide +kernel
theorem dX2_canFish_11 : decode cX2_canFish 11 = .ok (.invokevirtual 22, 3) := by decide +kernel
theorem dX2_canFish_14 : decode cX2_canFish 14 = .ok (.iconst (-1), 1) := by decide +kernel
theorem dX2_canFish_15 : decode cX2_canFish 15 = .ok (.if_icmp .eq 7, 3) := by decide +kernel
theorem dX2_canFish_18 : decode cX2_canFish 18 = .ok (.iconst 1, 1) := by decide +kernel
theorem dX2_canFish_19 : decode cX2_canFish 19 = .ok (.goto 4, 3) := by decide +kernel
theorem dX2_canFish_22 : decode cX2_canFish 22 = .ok (.iconst 0, 1) := by decide +kernel
theorem dX2_canFish_23 : decode cX2_canFish 23 = .ok (.ireturn, 1) := by decide +kernel
set_option maxRecDepth 20000 in
theorem ggX2_catchFish_X2_get : GoodIn wsX2_catchFish wsX2_get := goodIn_r _ [9, 10, 23] (by decide +kernel) (by decide +kernel)
set_option maxRecDepth 20000 in
theorem gX2_catchFish_X2_get : GoodIn wsX2_catchFish (wsV RX2 22 RX2 yX2_get wsX2_get) := goodIn_app (goodIn_of _ (by decide +kernel)) ggX2_catchFish_X2_get
set_option maxRecDepth 20000 in
theorem ggX2_catchFish_X2_add : GoodIn wsX2_catchFish wsX2_add := goodIn_r _ [14, 5, 6, 7, 8, 9, 10, 15, 16, 17, 18, 23] (by decide +kernel) (by decide +kernel)
set_option maxRecDepth 20000 in
theorem gX2_catchFish_X2_add : GoodIn wsX2_catchFish (wsV RX2 47 RX2 yX2_add wsX2_add) := goodIn_app (goodIn_of _ (by decide +kernel)) ggX2_catchFish_X2_add
set_option maxRecDepth 20000 in
theorem ggX2_catchFish_X2_swim : GoodIn wsX2_catchFish wsX2_swim := goodIn_r _ [22, 1, 2, 3, 4, 5, 6, 7, 8, 9, 10, 11, 12, 13, 14, 15, 16, 17, 18, 23] (by decide +kernel) (by decide +kernel)
set_option maxRecDepth 20000 in
theorem gX2_catchFish_X2_swim : GoodIn wsX2_catchFish (wsV RX2 62 RX2 yX2_swim wsX2_swim) := goodIn_app (goodIn_of _ (by decide +kernel)) ggX2_catchFish_X2_swim
theorem dX2_catchFish_0 : decode cX2_catchFish 0 = .ok (.aload_n 0, 1) := by decide +kernel
theorem dX2_catchFish_1 : decode cX2_catchFish 1 = .ok (.bipush 6, 2) := by decide +kernel
theorem dX2_catchFish_3 : decode cX2_catchFish 3 = .ok (.iload_n 1, 1) := by decide +kernel
theorem dX2_catchFish_4 : decode cX2_catchFish 4 = .ok (.invokevirtual 22, 3) := by decide +kernel
theorem dX2_catchFish_7 : decode cX2_catchFish 7 = .ok (.istore_n 2, 1) := by decide +kernel
theorem dX2_catchFish_8 : decode cX2_catchFish 8 = .ok (.iload_n 2, 1) := by decide +kernel
theorem dX2_catchFish_9 : decode cX2_catchFish 9 = .ok (.iload_n 2, 1) := by decide +kernel
theorem dX2_catchFish_10 : decode cX2_catchFish 10 = .ok (.iconst 4, 1) := by decide +kernel
theorem dX2_catchFish_11 : decode cX2_catchFish 11 = .ok (.idiv, 1) := by decide +kernel
theorem dX2_catchFish_12 : decode cX2_catchFish 12 = .ok (.iconst 1, 1) := by decide +kernel
theorem dX2_catchFish_13 : decode cX2_catchFish 13 = .ok (.iadd, 1) := by decide +kernel
theorem dX2_catchFish_14 : decode cX2_catchFish 14 = .ok (.invokestatic 57, 3) := by decide +kernel
theorem dX2_catchFish_17 : decode cX2_catchFish 17 = .ok (.istore_n 3, 1) := by decide +kernel
theorem dX2_catchFish_18 : decode cX2_catchFish 18 = .ok (.aload_n 0, 1) := by decide +kernel
theorem dX2_catchFish_19 : decode cX2_catchFish 19 = .ok (.bipush 6, 2) := by decide +kernel
theorem dX2_catchFish_21 : decode cX2_catchFish 21 = .ok (.iload_n 1, 1) := by decide +kernel
theorem dX2_catchFish_22 : decode cX2_catchFish 22 = .ok (.iload_n 3, 1) := by decide +kernel
theorem dX2_catchFish_23 : decode cX2_catchFish 23 = .ok (.ineg, 1) := by decide +kernel
theorem dX2_catchFish_24 : decode cX2_catchFish 24 = .ok (.invokevirtual 47, 3) := by decide +kernel
theorem dX2_catchFish_27 : decode cX2_catchFish 27 = .ok (.aload_n 0, 1) := by decide +kernel
theorem dX2_catchFish_28 : decode cX2_catchFish 28 = .ok (.bipush 36, 2) := by decide +kernel
theorem dX2_catchFish_30 : decode cX2_catchFish 30 = .ok (.aload_n 0, 1) := by decide +kernel
theorem dX2_catchFish_31 : decode cX2_catchFish 31 = .ok (.bipush 12, 2) := by decide +kernel
theorem dX2_catchFish_33 : decode cX2_catchFish 33 = .ok (.iload_n 1, 1) := by decide +kernel
theorem dX2_catchFish_34 : decode cX2_catchFish 34 = .ok (.invokevirtual 22, 3) := by decide +kernel
theorem dX2_catchFish_37 : decode cX2_catchFish 37 = .ok (.iload_n 3, 1) := by decide +kernel
theorem dX2_catchFish_38 : decode cX2_catchFish 38 = .ok (.invokevirtual 47, 3) := by decide +kernel
theorem dX2_catchFish_41 : decode cX2_catchFish 41 = .ok (.aload_n 0, 1) := by decide +kernel
theorem dX2_catchFish_42 : decode cX2_catchFish 42 = .ok (.bipush 24, 2) := by decide +kernel
theorem dX2_catchFish_44 : decode cX2_catchFish 44 = .ok (.iload_n 1, 1) := by decide +kernel
theorem dX2_catchFish_45 : decode cX2_catchFish 45 = .ok (.iload_n 3, 1) := by decide +kernel
theorem dX2_catchFish_46 : decode cX2_catchFish 46 = .ok (.invokevirtual 47, 3) := by decide +kernel
theorem dX2_catchFish_49 : decode cX2_catchFish 49 = .ok (.aload_n 0, 1) := by decide +kernel
theorem dX2_catchFish_50 : decode cX2_catchFish 50 = .ok (.iload_n 1, 1) := by decide +kernel
theorem dX2_catchFish_51 : decode cX2_catchFish 51 = .ok (.iload_n 1, 1) := by decide +kernel
theorem dX2_catchFish_52 : decode cX2_catchFish 52 = .ok (.iconst 1, 1) := by decide +kernel
theorem dX2_catchFish_53 : decode cX2_catchFish 53 = .ok (.isub, 1) := by decide +kernel
theorem dX2_catchFish_54 : decode cX2_catchFish 54 = .ok (.invokevirtual 62, 3) := by decide +kernel
theorem dX2_catchFish_57 : decode cX2_catchFish 57 = .ok (.aload_n 0, 1) := by decide +kernel
theorem dX2_catchFish_58 : decode cX2_catchFish 58 = .ok (.iload_n 1, 1) := by decide +kernel
theorem dX2_catchFish_59 : decode cX2_catchFish 59 = .ok (.iload_n 1, 1) := by decide +kernel
theorem dX2_catchFish_60 : decode cX2_catchFish 60 = .ok (.iconst 1, 1) := by decide +kernel
theorem dX2_catchFish_61 : decode cX2_catchFish 61 = .ok (.iadd, 1) := by decide +kernel
theorem dX2_catchFish_62 : decode cX2_catchFish 62 = .ok (.invokevirtual 62, 3) := by decide +kernel
theorem dX2_catchFish_65 : decode cX2_catchFish 65 = .ok (.iload_n 3, 1) := by decide +kernel
theorem dX2_catchFish_66 : decode cX2_catchFish 66 = .ok (.ireturn, 1) := by decide +kernel
set_option maxRecDepth 20000 in
theorem ggX2_swim_X2_get : GoodIn wsX2_swim wsX2_get := goodIn_r _ [9, 10, 19] (by decide +kernel) (by decide +kernel)
set_option maxRecDepth 20000 in
theorem gX2_swim_X2_get : GoodIn wsX2_swim (wsV RX2 22 RX2 yX2_get wsX2_get) := goodIn_app (goodIn_of _ (by decide +kernel)) ggX2_swim_X2_get
set_option maxRecDepth 20000 in
theorem ggX2_swim_X2_add : GoodIn wsX2_swim wsX2_add := goodIn_r _ [14, 5, 6, 7, 8, 9, 10, 15, 16, 17, 18, 19] (by decide +kernel) (by decide +kernel)
set_option maxRecDepth 20000 in
theorem gX2_swim_X2_add : GoodIn wsX2_swim (wsV RX2 47 RX2 yX2_add wsX2_add) := goodIn_app (goodIn_of _ (by decide +kernel)) ggX2_swim_X2_add
theorem dX2_swim_0 : decode cX2_swim 0 = .ok (.iload_n 2, 1) := by decide +kernel
theorem dX2_swim_1 : decode cX2_swim 1 = .ok (.ifCond .lt 24, 3) := by decide +kernel
theorem dX2_swim_4 : decode cX2_swim 4 = .ok (.iload_n 2, 1) := by decide +kernel
theorem dX2_swim_5 : decode cX2_swim 5 = .ok (.bipush 6, 2) := by decide +kernel
theorem dX2_swim_7 : decode cX2_swim 7 = .ok (.if_icmp .ge 18, 3) := by decide +kernel
theorem dX2_swim_10 : decode cX2_swim 10 = .ok (.aload_n 0, 1) := by decide +kernel
theorem dX2_swim_11 : decode cX2_swim 11 = .ok (.bipush 12, 2) := by decide +kernel
theorem dX2_swim_13 : decode cX2_swim 13 = .ok (.iload_n 2, 1) := by decide +kernel
theorem dX2_swim_14 : decode cX2_swim 14 = .ok (.invokevirtual 22, 3) := by decide +kernel
theorem dX2_swim_17 : decode cX2_swim 17 = .ok (.iconst (-1), 1) := by decide +kernel
theorem dX2_swim_18 : decode cX2_swim 18 = .ok (.if_icmp .ne 7, 3) := by decide +kernel
theorem dX2_swim_21 : decode cX2_swim 21 = .ok (.iconst 1, 1) := by decide +kernel
theorem dX2_swim_22 : decode cX2_swim 22 = .ok (.goto 4, 3) := by decide +kernel
theorem dX2_swim_25 : decode cX2_swim 25 = .ok (.iconst 0, 1) := by decide +kernel
theorem dX2_swim_26 : decode cX2_swim 26 = .ok (.istore_n 3, 1) := by decide +kernel
theorem dX2_swim_27 : decode cX2_swim 27 = .ok (.iload_n 3, 1) := by decide +kernel
theorem dX2_swim_28 : decode cX2_swim 28 = .ok (.ifCond .eq 65, 3) := by decide +kernel
theorem dX2_swim_31 : decode cX2_swim 31 = .ok (.aload_n 0, 1) := by decide +kernel
theorem dX2_swim_32 : decode cX2_swim 32 = .ok (.bipush 6, 2) := by decide +kernel
theorem dX2_swim_34 : decode cX2_swim 34 = .ok (.iload_n 2, 1) := by decide +kernel
theorem dX2_swim_35 : decode cX2_swim 35 = .ok (.invokevirtual 22, 3) := by decide +kernel
theorem dX2_swim_38 : decode cX2_swim 38 = .ok (.aload_n 0, 1) := by decide +kernel
theorem dX2_swim_39 : decode cX2_swim 39 = .ok (.bipush 6, 2) := by decide +kernel
theorem dX2_swim_41 : decode cX2_swim 41 = .ok (.iload_n 1, 1) := by decide +kernel
theorem dX2_swim_42 : decode cX2_swim 42 = .ok (.invokevirtual 22, 3) := by decide +kernel
theorem dX2_swim_45 : decode cX2_swim 45 = .ok (.if_icmp .ge 48, 3) := by decide +kernel
theorem dX2_swim_48 : decode cX2_swim 48 = .ok (.aload_n 0, 1) := by decide +kernel
theorem dX2_swim_49 : decode cX2_swim 49 = .ok (.bipush 6, 2) := by decide +kernel
theorem dX2_swim_51 : decode cX2_swim 51 = .ok (.iload_n 1, 1) := by decide +kernel
theorem dX2_swim_52 : decode cX2_swim 52 = .ok (.invokevirtual 22, 3) := by decide +kernel
theorem dX2_swim_55 : decode cX2_swim 55 = .ok (.bipush 10, 2) := by decide +kernel
theorem dX2_swim_57 : decode cX2_swim 57 = .ok (.idiv, 1) := by decide +kernel
theorem dX2_swim_58 : decode cX2_swim 58 = .ok (.sipush 200, 3) := by decide +kernel
theorem dX2_swim_61 : decode cX2_swim 61 = .ok (.aload_n 0, 1) := by decide +kernel
theorem dX2_swim_62 : decode cX2_swim 62 = .ok (.bipush 6, 2) := by decide +kernel
theorem dX2_swim_64 : decode cX2_swim 64 = .ok (.iload_n 2, 1) := by decide +kernel
theorem dX2_swim_65 : decode cX2_swim 65 = .ok (.invokevirtual 22, 3) := by decide +kernel
theorem dX2_swim_68 : decode cX2_swim 68 = .ok (.isub, 1) := by decide +kernel
theorem dX2_swim_69 : decode cX2_swim 69 = .ok (.invokestatic 57, 3) := by decide +kernel
theorem dX2_swim_72 : decode cX2_swim 72 = .ok (.istore 4, 2) := by decide +kernel
theorem dX2_swim_74 : decode cX2_swim 74 = .ok (.aload_n 0, 1) := by decide +kernel
theorem dX2_swim_75 : decode cX2_swim 75 = .ok (.bipush 6, 2) := by decide +kernel
theorem dX2_swim_77 : decode cX2_swim 77 = .ok (.iload_n 1, 1) := by decide +kernel
theorem dX2_swim_78 : decode cX2_swim 78 = .ok (.iload 4, 2) := by decide +kernel
theorem dX2_swim_80 : decode cX2_swim 80 = .ok (.ineg, 1) := by decide +kernel
theorem dX2_swim_81 : decode cX2_swim 81 = .ok (.invokevirtual 47, 3) := by decide +kernel
theorem dX2_swim_84 : decode cX2_swim 84 = .ok (.aload_n 0, 1) := by decide +kernel
theorem dX2_swim_85 : decode cX2_swim 85 = .ok (.bipush 6, 2) := by decide +kernel
theorem dX2_swim_87 : decode cX2_swim 87 = .ok (.iload_n 2, 1) := by decide +kernel
theorem dX2_swim_88 : decode cX2_swim 88 = .ok (.iload 4, 2) := by decide +kernel
theorem dX2_swim_90 : decode cX2_swim 90 = .ok (.invokevirtual 47, 3) := by decide +kernel
theorem dX2_swim_93 : decode cX2_swim 93 = .ok (.return_, 1) := by decide +kernel
set_option maxRecDepth 20000 in
theorem ggX2_beginDay_X2_get : GoodIn wsX2_beginDay wsX2_get := goodIn_r _ [9, 10, 23] (by decide +kernel) (by decide +kernel)
set_option maxRecDepth 20000 in
theorem gX2_beginDay_X2_get : GoodIn wsX2_beginDay (wsV RX2 22 RX2 yX2_get wsX2_get) := goodIn_app (goodIn_of _ (by decide +kernel)) ggX2_beginDay_X2_get
set_option maxRecDepth 20000 in
theorem ggX2_beginDay_X2_add : GoodIn wsX2_beginDay wsX2_add := goodIn_r _ [14, 5, 6, 7, 8, 9, 10, 15, 16, 17, 18, 23] (by decide +kernel) (by decide +kernel)
set_option maxRecDepth 20000 in
theorem gX2_beginDay_X2_add : GoodIn wsX2_beginDay (wsV RX2 47 RX2 yX2_add wsX2_add) := goodIn_app (goodIn_of _ (by decide +kernel)) ggX2_beginDay_X2_add
set_option maxRecDepth 20000 in
theorem ggX2_beginDay_X2_fill : GoodIn wsX2_beginDay wsX2_fill := goodIn_r _ [22, 15, 16, 17, 8, 18, 10, 23] (by decide +kernel) (by decide +kernel)
set_option maxRecDepth 20000 in
theorem gX2_beginDay_X2_fill : GoodIn wsX2_beginDay (wsV RX2 15 RX2 yX2_fill wsX2_fill) := goodIn_app (goodIn_of _ (by decide +kernel)) ggX2_beginDay_X2_fill
set_option maxRecDepth 20000 in
theorem ggX2_beginDay_X2_put : GoodIn wsX2_beginDay wsX2_put := goodIn_r _ [18, 10, 23] (by decide +kernel) (by decide +kernel)
set_option maxRecDepth 20000 in
theorem gX2_beginDay_X2_put : GoodIn wsX2_beginDay (wsV RX2 19 RX2 yX2_put wsX2_put) := goodIn_app (goodIn_of _ (by decide +kernel)) ggX2_beginDay_X2_put
theorem dX2_beginDay_0 : decode cX2_beginDay 0 = .ok (.iconst 0, 1) := by decide +kernel
theorem dX2_beginDay_1 : decode cX2_beginDay 1 = .ok (.istore_n 1, 1) := by decide +kernel
theorem dX2_beginDay_2 : decode cX2_beginDay 2 = .ok (.iconst 0, 1) := by decide +kernel
theorem dX2_beginDay_3 : decode cX2_beginDay 3 = .ok (.istore_n 2, 1) := by decide +kernel
theorem dX2_beginDay_4 : decode cX2_beginDay 4 = .ok (.iload_n 2, 1) := by decide +kernel
theorem dX2_beginDay_5 : decode cX2_beginDay 5 = .ok (.bipush 6, 2) := by decide +kernel
theorem dX2_beginDay_7 : decode cX2_beginDay 7 = .ok (.if_icmp .ge 44, 3) := by decide +kernel
theorem dX2_beginDay_10 : decode cX2_beginDay 10 = .ok (.aload_n 0, 1) := by decide +kernel
theorem dX2_beginDay_11 : decode cX2_beginDay 11 = .ok (.sipush 162, 3) := by decide +kernel
theorem dX2_beginDay_14 : decode cX2_beginDay 14 = .ok (.iconst 2, 1) := by decide +kernel
theorem dX2_beginDay_15 : decode cX2_beginDay 15 = .ok (.invokevirtual 22, 3) := by decide +kernel
theorem dX2_beginDay_18 : decode cX2_beginDay 18 = .ok (.sipush 200, 3) := by decide +kernel
theorem dX2_beginDay_21 : decode cX2_beginDay 21 = .ok (.aload_n 0, 1) := by decide +kernel
theorem dX2_beginDay_22 : decode cX2_beginDay 22 = .ok (.bipush 6, 2) := by decide +kernel
theorem dX2_beginDay_24 : decode cX2_beginDay 24 = .ok (.iload_n 2, 1) := by decide +kernel
theorem dX2_beginDay_25 : decode cX2_beginDay 25 = .ok (.invokevirtual 22, 3) := by decide +kernel
theorem dX2_beginDay_28 : decode cX2_beginDay 28 = .ok (.isub, 1) := by decide +kernel
theorem dX2_beginDay_29 : decode cX2_beginDay 29 = .ok (.invokestatic 57, 3) := by decide +kernel
theorem dX2_beginDay_32 : decode cX2_beginDay 32 = .ok (.istore_n 3, 1) := by decide +kernel
theorem dX2_beginDay_33 : decode cX2_beginDay 33 = .ok (.aload_n 0, 1) := by decide +kernel
theorem dX2_beginDay_34 : decode cX2_beginDay 34 = .ok (.bipush 6, 2) := by decide +kernel
theorem dX2_beginDay_36 : decode cX2_beginDay 36 = .ok (.iload_n 2, 1) := by decide +kernel
theorem dX2_beginDay_37 : decode cX2_beginDay 37 = .ok (.iload_n 3, 1) := by decide +kernel
theorem dX2_beginDay_38 : decode cX2_beginDay 38 = .ok (.invokevirtual 47, 3) := by decide +kernel
theorem dX2_beginDay_41 : decode cX2_beginDay 41 = .ok (.iload_n 1, 1) := by decide +kernel
theorem dX2_beginDay_42 : decode cX2_beginDay 42 = .ok (.iload_n 3, 1) := by decide +kernel
theorem dX2_beginDay_43 : decode cX2_beginDay 43 = .ok (.iadd, 1) := by decide +kernel
theorem dX2_beginDay_44 : decode cX2_beginDay 44 = .ok (.istore_n 1, 1) := by decide +kernel
theorem dX2_beginDay_45 : decode cX2_beginDay 45 = .ok (.iinc 2 1, 3) := by decide +kernel
theorem dX2_beginDay_48 : decode cX2_beginDay 48 = .ok (.goto (-44), 3) := by decide +kernel
theorem dX2_beginDay_51 : decode cX2_beginDay 51 = .ok (.aload_n 0, 1) := by decide +kernel
theorem dX2_beginDay_52 : decode cX2_beginDay 52 = .ok (.bipush 54, 2) := by decide +kernel
theorem dX2_beginDay_54 : decode cX2_beginDay 54 = .ok (.bipush 36, 2) := by decide +kernel
theorem dX2_beginDay_56 : decode cX2_beginDay 56 = .ok (.iconst 0, 1) := by decide +kernel
theorem dX2_beginDay_57 : decode cX2_beginDay 57 = .ok (.invokevirtual 15, 3) := by decide +kernel
theorem dX2_beginDay_60 : decode cX2_beginDay 60 = .ok (.aload_n 0, 1) := by decide +kernel
theorem dX2_beginDay_61 : decode cX2_beginDay 61 = .ok (.bipush 12, 2) := by decide +kernel
theorem dX2_beginDay_63 : decode cX2_beginDay 63 = .ok (.bipush 6, 2) := by decide +kernel
theorem dX2_beginDay_65 : decode cX2_beginDay 65 = .ok (.iconst (-1), 1) := by decide +kernel
theorem dX2_beginDay_66 : decode cX2_beginDay 66 = .ok (.invokevirtual 15, 3) := by decide +kernel
theorem dX2_beginDay_69 : decode cX2_beginDay 69 = .ok (.aload_n 0, 1) := by decide +kernel
theorem dX2_beginDay_70 : decode cX2_beginDay 70 = .ok (.bipush 18, 2) := by decide +kernel
theorem dX2_beginDay_72 : decode cX2_beginDay 72 = .ok (.bipush 6, 2) := by decide +kernel
theorem dX2_beginDay_74 : decode cX2_beginDay 74 = .ok (.iconst (-1), 1) := by decide +kernel
theorem dX2_beginDay_75 : decode cX2_beginDay 75 = .ok (.invokevirtual 15, 3) := by decide +kernel
theorem dX2_beginDay_78 : decode cX2_beginDay 78 = .ok (.aload_n 0, 1) := by decide +kernel
theorem dX2_beginDay_79 : decode cX2_beginDay 79 = .ok (.sipush 168, 3) := by decide +kernel
theorem dX2_beginDay_82 : decode cX2_beginDay 82 = .ok (.iconst 0, 1) := by decide +kernel
theorem dX2_beginDay_83 : decode cX2_beginDay 83 = .ok (.iconst 0, 1) := by decide +kernel
theorem dX2_beginDay_84 : decode cX2_beginDay 84 = .ok (.invokevirtual 19, 3) := by decide +kernel
theorem dX2_beginDay_87 : decode cX2_beginDay 87 = .ok (.aload_n 0, 1) := by decide +kernel
theorem dX2_beginDay_88 : decode cX2_beginDay 88 = .ok (.sipush 169, 3) := by decide +kernel
theorem dX2_beginDay_91 : decode cX2_beginDay 91 = .ok (.iconst 0, 1) := by decide +kernel
theorem dX2_beginDay_92 : decode cX2_beginDay 92 = .ok (.iconst 0, 1) := by decide +kernel
theorem dX2_beginDay_93 : decode cX2_beginDay 93 = .ok (.invokevirtual 19, 3) := by decide +kernel
theorem dX2_beginDay_96 : decode cX2_beginDay 96 = .ok (.aload_n 0, 1) := by decide +kernel
theorem dX2_beginDay_97 : decode cX2_beginDay 97 = .ok (.sipush 170, 3) := by decide +kernel
theorem dX2_beginDay_100 : decode cX2_beginDay 100 = .ok (.iconst 0, 1) := by decide +kernel
theorem dX2_beginDay_101 : decode cX2_beginDay 101 = .ok (.iconst 0, 1) := by decide +kernel
theorem dX2_beginDay_102 : decode cX2_beginDay 102 = .ok (.invokevirtual 19, 3) := by decide +kernel
theorem dX2_beginDay_105 : decode cX2_beginDay 105 = .ok (.aload_n 0, 1) := by decide +kernel
theorem dX2_beginDay_106 : decode cX2_beginDay 106 = .ok (.sipush 167, 3) := by decide +kernel
theorem dX2_beginDay_109 : decode cX2_beginDay 109 = .ok (.iconst 0, 1) := by decide +kernel
theorem dX2_beginDay_110 : decode cX2_beginDay 110 = .ok (.iconst 1, 1) := by decide +kernel
theorem dX2_beginDay_111 : decode cX2_beginDay 111 = .ok (.invokevirtual 47, 3) := by decide +kernel
theorem dX2_beginDay_114 : decode cX2_beginDay 114 = .ok (.iload_n 1, 1) := by decide +kernel
theorem dX2_beginDay_115 : decode cX2_beginDay 115 = .ok (.ireturn, 1) := by decide +kernel
set_option maxRecDepth 20000 in
theorem ggX2_copyTo_X2_get_ : GoodIn wsX2_copyTo wsX2_get_ := goodIn_r _ [5, 6, 7, 8, 4, 9, 10, 11] (by decide +kernel) (by decide +kernel)
set_option maxRecDepth 20000 in
theorem gX2_copyTo_X2_get_ : GoodIn wsX2_copyTo (wsV RX2 45 RX2 yX2_get_ wsX2_get_) := goodIn_app (goodIn_of _ (by decide +kernel)) ggX2_copyTo_X2_get_
theorem dX2_copyTo_0 : decode cX2_copyTo 0 = .ok (.iconst 0, 1) := by decide +kernel
theorem dX2_copyTo_1 : decode cX2_copyTo 1 = .ok (.istore_n 3, 1) := by decide +kernel
theorem dX2_copyTo_2 : decode cX2_copyTo 2 = .ok (.iload_n 3, 1) := by decide +kernel
theorem dX2_copyTo_3 : decode cX2_copyTo 3 = .ok (.sipush 174, 3) := by decide +kernel
theorem dX2_copyTo_6 : decode cX2_copyTo 6 = .ok (.if_icmp .ge 35, 3) := by decide +kernel
theorem dX2_copyTo_9 : decode cX2_copyTo 9 = .ok (.iload_n 2, 1) := by decide +kernel
theorem dX2_copyTo_10 : decode cX2_copyTo 10 = .ok (.iload_n 3, 1) := by decide +kernel
theorem dX2_copyTo_11 : decode cX2_copyTo 11 = .ok (.iadd, 1) := by decide +kernel
theorem dX2_copyTo_12 : decode cX2_copyTo 12 = .ok (.istore 4, 2) := by decide +kernel
theorem dX2_copyTo_14 : decode cX2_copyTo 14 = .ok (.iload 4, 2) := by decide +kernel
theorem dX2_copyTo_16 : decode cX2_copyTo 16 = .ok (.ifCond .lt 19, 3) := by decide +kernel
theorem dX2_copyTo_19 : decode cX2_copyTo 19 = .ok (.iload 4, 2) := by decide +kernel
theorem dX2_copyTo_21 : decode cX2_copyTo 21 = .ok (.aload_n 1, 1) := by decide +kernel
theorem dX2_copyTo_22 : decode cX2_copyTo 22 = .ok (.arraylength, 1) := by decide +kernel
theorem dX2_copyTo_23 : decode cX2_copyTo 23 = .ok (.if_icmp .ge 12, 3) := by decide +kernel
theorem dX2_copyTo_26 : decode cX2_copyTo 26 = .ok (.aload_n 1, 1) := by decide +kernel
theorem dX2_copyTo_27 : decode cX2_copyTo 27 = .ok (.iload 4, 2) := by decide +kernel
theorem dX2_copyTo_29 : decode cX2_copyTo 29 = .ok (.aload_n 0, 1) := by decide +kernel
theorem dX2_copyTo_30 : decode cX2_copyTo 30 = .ok (.iload_n 3, 1) := by decide +kernel
theorem dX2_copyTo_31 : decode cX2_copyTo 31 = .ok (.invokevirtual 45, 3) := by decide +kernel
theorem dX2_copyTo_34 : decode cX2_copyTo 34 = .ok (.iastore, 1) := by decide +kernel
theorem dX2_copyTo_35 : decode cX2_copyTo 35 = .ok (.iinc 3 1, 3) := by decide +kernel
theorem dX2_copyTo_38 : decode cX2_copyTo 38 = .ok (.goto (-36), 3) := by decide +kernel
theorem dX2_copyTo_41 : decode cX2_copyTo 41 = .ok (.return_, 1) := by decide +kernel
set_option maxRecDepth 20000 in
theorem ggX2_copyFrom_X2_put : GoodIn wsX2_copyFrom wsX2_put := goodIn_r _ [5, 6, 7] (by decide +kernel) (by decide +kernel)
set_option maxRecDepth 20000 in
theorem gX2_copyFrom_X2_put : GoodIn wsX2_copyFrom (wsV RX2 19 RX2 yX2_put wsX2_put) := goodIn_app (goodIn_of _ (by decide +kernel)) ggX2_copyFrom_X2_put
theorem dX2_copyFrom_0 : decode cX2_copyFrom 0 = .ok (.iconst 0, 1) := by decide +kernel
theorem dX2_copyFrom_1 : decode cX2_copyFrom 1 = .ok (.istore_n 3, 1) := by decide +kernel
theorem dX2_copyFrom_2 : decode cX2_copyFrom 2 = .ok (.iload_n 3, 1) := by decide +kernel
theorem dX2_copyFrom_3 : decode cX2_copyFrom 3 = .ok (.sipush 174, 3) := by decide +kernel
theorem dX2_copyFrom_6 : decode cX2_copyFrom 6 = .ok (.if_icmp .ge 36, 3) := by decide +kernel
theorem dX2_copyFrom_9 : decode cX2_copyFrom 9 = .ok (.iload_n 2, 1) := by decide +kernel
theorem dX2_copyFrom_10 : decode cX2_copyFrom 10 = .ok (.iload_n 3, 1) := by decide +kernel
theorem dX2_copyFrom_11 : decode cX2_copyFrom 11 = .ok (.iadd, 1) := by decide +kernel
theorem dX2_copyFrom_12 : decode cX2_copyFrom 12 = .ok (.istore 4, 2) := by decide +kernel
theorem dX2_copyFrom_14 : decode cX2_copyFrom 14 = .ok (.iload 4, 2) := by decide +kernel
theorem dX2_copyFrom_16 : decode cX2_copyFrom 16 = .ok (.ifCond .lt 20, 3) := by decide +kernel
theorem dX2_copyFrom_19 : decode cX2_copyFrom 19 = .ok (.iload 4, 2) := by decide +kernel
theorem dX2_copyFrom_21 : decode cX2_copyFrom 21 = .ok (.aload_n 1, 1) := by decide +kernel
theorem dX2_copyFrom_22 : decode cX2_copyFrom 22 = .ok (.arraylength, 1) := by decide +kernel
theorem dX2_copyFrom_23 : decode cX2_copyFrom 23 = .ok (.if_icmp .ge 13, 3) := by decide +kernel
theorem dX2_copyFrom_26 : decode cX2_copyFrom 26 = .ok (.aload_n 0, 1) := by decide +kernel
theorem dX2_copyFrom_27 : decode cX2_copyFrom 27 = .ok (.iload_n 3, 1) := by decide +kernel
theorem dX2_copyFrom_28 : decode cX2_copyFrom 28 = .ok (.iconst 0, 1) := by decide +kernel
theorem dX2_copyFrom_29 : decode cX2_copyFrom 29 = .ok (.aload_n 1, 1) := by decide +kernel
theorem dX2_copyFrom_30 : decode cX2_copyFrom 30 = .ok (.iload 4, 2) := by decide +kernel
theorem dX2_copyFrom_32 : decode cX2_copyFrom 32 = .ok (.iaload, 1) := by decide +kernel
theorem dX2_copyFrom_33 : decode cX2_copyFrom 33 = .ok (.invokevirtual 19, 3) := by decide +kernel
theorem dX2_copyFrom_36 : decode cX2_copyFrom 36 = .ok (.iinc 3 1, 3) := by decide +kernel
theorem dX2_copyFrom_39 : decode cX2_copyFrom 39 = .ok (.goto (-37), 3) := by decide +kernel
theorem dX2_copyFrom_42 : decode cX2_copyFrom 42 = .ok (.return_, 1) := by decide +kernel
theorem dX3_init_0 : decode cX3_init 0 = .ok (.aload_n 0, 1) := by decide +kernel
theorem dX3_init_1 : decode cX3_init 1 = .ok (.invokespecial 1, 3) := by decide +kernel
theorem dX3_init_4 : decode cX3_init 4 = .ok (.aload_n 0, 1) := by decide +kernel
theorem dX3_init_5 : decode cX3_init 5 = .ok (.bipush 60, 2) := by decide +kernel
theorem dX3_init_7 : decode cX3_init 7 = .ok (.newarray .int, 2) := by decide +kernel
theorem dX3_init_9 : decode cX3_init 9 = .ok (.putfield 9, 3) := by decide +kernel
theorem dX3_init_12 : decode cX3_init 12 = .ok (.return_, 1) := by decide +kernel
end
section
set_option maxRecDepth 20000 in
theorem ggX4_init_X2_init : GoodIn wsX4_init wsX2_init := goodIn_r _ [22, 23, 2, 3, 24, 25, 26, 27, 28, 6, 29, 30, 31, 32, 33, 49] (by decide +kernel) (by decide +kernel)
set_option maxRecDepth 20000 in
theorem gX4_init_X2_init : GoodIn wsX4_init (wsX2_init) := ggX4_init_X2_init
set_option maxRecDepth 20000 in
theorem ggX4_init_X1_init : GoodIn wsX4_init wsX1_init := goodIn_r _ [35, 36, 2, 3, 37, 38, 39, 54, 55] (by decide +kernel) (by decide +kernel)
set_option maxRecDepth 20000 in
theorem gX4_init_X1_init_n18 : GoodIn wsX4_init (wsX1_init) := ggX4_init_X1_init
set_option maxRecDepth 20000 in
theorem ggX4_init_X0_init : GoodIn wsX4_init wsX0_init := goodIn_r _ [41, 42, 2, 3, 24, 43, 44, 56, 57, 58, 59] (by decide +kernel) (by decide +kernel)
set_option maxRecDepth 20000 in
theorem gX4_init_X0_init_n25 : GoodIn wsX4_init (wsX0_init) := ggX4_init_X0_init
set_option maxRecDepth 20000 in
theorem ggX4_init_X3_init : GoodIn wsX4_init wsX3_init := goodIn_r _ [46, 47, 2, 3, 24, 48, 60, 61] (by decide +kernel) (by decide +kernel)
set_option maxRecDepth 20000 in
theorem gX4_init_X3_init_n32 : GoodIn wsX4_init (wsX3_init) := ggX4_init_X3_init
theorem dX4_init_0 : decode cX4_init 0 = .ok (.aload_n 0, 1) := by decide +kernel
theorem dX4_init_1 : decode cX4_init 1 = .ok (.invokespecial 3, 3) := by decide +kernel
theorem dX4_init_4 : decode cX4_init 4 = .ok (.aload_n 0, 1) := by decide +kernel
theorem dX4_init_5 : decode cX4_init 5 = .ok (.new 9, 3) := by decide +kernel
theorem dX4_init_8 : decode cX4_init 8 = .ok (.dup, 1) := by decide +kernel
theorem dX4_init_9 : decode cX4_init 9 = .ok (.invokespecial 11, 3) := by decide +kernel
theorem dX4_init_12 : decode cX4_init 12 = .ok (.putfield 12, 3) := by decide +kernel
theorem dX4_init_15 : decode cX4_init 15 = .ok (.aload_n 0, 1) := by decide +kernel
theorem dX4_init_16 : decode cX4_init 16 = .ok (.new 16, 3) := by decide +kernel
theorem dX4_init_19 : decode cX4_init 19 = .ok (.dup, 1) := by decide +kernel
theorem dX4_init_20 : decode cX4_init 20 = .ok (.invokespecial 18, 3) := by decide +kernel
theorem dX4_init_23 : decode cX4_init 23 = .ok (.putfield 19, 3) := by decide +kernel
theorem dX4_init_26 : decode cX4_init 26 = .ok (.aload_n 0, 1) := by decide +kernel
theorem dX4_init_27 : decode cX4_init 27 = .ok (.new 23, 3) := by decide +kernel
theorem dX4_init_30 : decode cX4_init 30 = .ok (.dup, 1) := by decide +kernel
theorem dX4_init_31 : decode cX4_init 31 = .ok (.invokespecial 25, 3) := by decide +kernel
theorem dX4_init_34 : decode cX4_init 34 = .ok (.putfield 26, 3) := by decide +kernel
theorem dX4_init_37 : decode cX4_init 37 = .ok (.aload_n 0, 1) := by decide +kernel
theorem dX4_init_38 : decode cX4_init 38 = .ok (.new 30, 3) := by decide +kernel
theorem dX4_init_41 : decode cX4_init 41 = .ok (.dup, 1) := by decide +kernel
theorem dX4_init_42 : decode cX4_init 42 = .ok (.invokespecial 32, 3) := by decide +kernel
theorem dX4_init_45 : decode cX4_init 45 = .ok (.putfield 33, 3) := by decide +kernel
theorem dX4_init_48 : decode cX4_init 48 = .ok (.return_, 1) := by decide +kernel
set_option maxRecDepth 20000 in
theorem ggX4_price_X4_needPlace : GoodIn wsX4_price wsX4_needPlace := goodIn_ca (goodIn_r _ [6, 7, 8] (by decide +kernel) (by decide +kernel)) (goodIn_sub (fun _ h => List.mem_cons_of_mem _ (List.mem_append_left _ (List.mem_append_right _ h))) (by decide +kernel))
set_option maxRecDepth 20000 in
theorem gX4_price_X4_needPlace : GoodIn wsX4_price (va_wsS RX4 37 yX4_needPlace wsX4_needPlace) := goodIn_app (goodIn_of _ (by decide +kernel)) ggX4_price_X4_needPlace
set_option maxRecDepth 20000 in
theorem ggX4_price_X4_needRange : GoodIn wsX4_price wsX4_needRange := goodIn_ca (goodIn_r _ [11, 12, 13] (by decide +kernel) (by decide +kernel)) (goodIn_sub (fun _ h => List.mem_cons_of_mem _ (List.mem_append_right _ h)) (by decide +kernel))
set_option maxRecDepth 20000 in
theorem gX4_price_X4_needRange : GoodIn wsX4_price (va_wsS RX4 41 yX4_needRange wsX4_needRange) := goodIn_app (goodIn_of _ (by decide +kernel)) ggX4_price_X4_needRange
set_option maxRecDepth 20000 in
theorem ggX4_price_X0_save : GoodIn wsX4_price wsX0_save := goodIn_r _ [18, 19, 20, 21, 22, 23, 17, 24, 25, 26, 27, 28, 29, 30, 31, 32, 33, 34, 35, 36, 37, 38, 48, 49, 50, 51, 52] (by decide +kernel) (by decide +kernel)
set_option maxRecDepth 20000 in
theorem gX4_price_X0_save : GoodIn wsX4_price (wsV RX4 45 RX0 yX0_save wsX0_save) := goodIn_app (goodIn_of _ (by decide +kernel)) ggX4_price_X0_save
set_option maxRecDepth 20000 in
theorem ggX4_price_X2_get : GoodIn wsX4_price wsX2_get := goodIn_r _ [37, 38, 52] (by decide +kernel) (by decide +kernel)
set_option maxRecDepth 20000 in
theorem gX4_price_X2_get : GoodIn wsX4_price (wsV RX4 49 RX2 yX2_get wsX2_get) := goodIn_app (goodIn_of _ (by decide +kernel)) ggX4_price_X2_get
set_option maxRecDepth 20000 in
theorem ggX4_price_X2_put : GoodIn wsX4_price wsX2_put := goodIn_r _ [43, 38, 52] (by decide +kernel) (by decide +kernel)
set_option maxRecDepth 20000 in
theorem gX4_price_X2_put : GoodIn wsX4_price (wsV RX4 53 RX2 yX2_put wsX2_put) := goodIn_app (goodIn_of _ (by decide +kernel)) ggX4_price_X2_put
theorem dX4_price_0 : decode cX4_price 0 = .ok (.iload_n 1, 1) := by decide +kernel
theorem dX4_price_1 : decode cX4_price 1 = .ok (.bipush 6, 2) := by decide +kernel
theorem dX4_price_3 : decode cX4_price 3 = .ok (.invokestatic 37, 3) := by decide +kernel
theorem dX4_price_6 : decode cX4_price 6 = .ok (.iload_n 2, 1) := by decide +kernel
theorem dX4_price_7 : decode cX4_price 7 = .ok (.iconst 0, 1) := by decide +kernel
theorem dX4_price_8 : decode cX4_price 8 = .ok (.bipush 99, 2) := by decide +kernel
theorem dX4_price_10 : decode cX4_price 10 = .ok (.invokestatic 41, 3) := by decide +kernel
theorem dX4_price_13 : decode cX4_price 13 = .ok (.aload_n 0, 1) := by decide +kernel
theorem dX4_price_14 : decode cX4_price 14 = .ok (.getfield 26, 3) := by decide +kernel
theorem dX4_price_17 : decode cX4_price 17 = .ok (.aload_n 0, 1) := by decide +kernel
theorem dX4_price_18 : decode cX4_price 18 = .ok (.getfield 12, 3) := by decide +kernel
theorem dX4_price_21 : decode cX4_price 21 = .ok (.invokevirtual 45, 3) := by decide +kernel
theorem dX4_price_24 : decode cX4_price 24 = .ok (.aload_n 0, 1) := by decide +kernel
theorem dX4_price_25 : decode cX4_price 25 = .ok (.getfield 12, 3) := by decide +kernel
theorem dX4_price_28 : decode cX4_price 28 = .ok (.iconst 0, 1) := by decide +kernel
theorem dX4_price_29 : decode cX4_price 29 = .ok (.iload_n 1, 1) := by decide +kernel
theorem dX4_price_30 : decode cX4_price 30 = .ok (.invokevirtual 49, 3) := by decide +kernel
theorem dX4_price_33 : decode cX4_price 33 = .ok (.istore_n 3, 1) := by decide +kernel
theorem dX4_price_34 : decode cX4_price 34 = .ok (.aload_n 0, 1) := by decide +kernel
theorem dX4_price_35 : decode cX4_price 35 = .ok (.getfield 12, 3) := by decide +kernel
theorem dX4_price_38 : decode cX4_price 38 = .ok (.iconst 0, 1) := by decide +kernel
theorem dX4_price_39 : decode cX4_price 39 = .ok (.iload_n 1, 1) := by decide +kernel
theorem dX4_price_40 : decode cX4_price 40 = .ok (.iload_n 2, 1) := by decide +kernel
theorem dX4_price_41 : decode cX4_price 41 = .ok (.invokevirtual 53, 3) := by decide +kernel
theorem dX4_price_44 : decode cX4_price 44 = .ok (.iload_n 3, 1) := by decide +kernel
theorem dX4_price_45 : decode cX4_price 45 = .ok (.ireturn, 1) := by decide +kernel
set_option maxRecDepth 20000 in
theorem ggX4_pay_X4_needPlace : GoodIn wsX4_pay wsX4_needPlace := goodIn_ca (goodIn_r _ [6, 7, 8] (by decide +kernel) (by decide +kernel)) (goodIn_sub (fun _ h => List.mem_cons_of_mem _ (List.mem_append_left _ (List.mem_append_left _ (List.mem_append_right _ h)))) (by decide +kernel))
set_option maxRecDepth 20000 in
theorem gX4_pay_X4_needPlace : GoodIn wsX4_pay (va_wsS RX4 37 yX4_needPlace wsX4_needPlace) := goodIn_app (goodIn_of _ (by decide +kernel)) ggX4_pay_X4_needPlace
set_option maxRecDepth 20000 in
theorem ggX4_pay_X4_needRange : GoodIn wsX4_pay wsX4_needRange := goodIn_ca (goodIn_r _ [11, 12, 13] (by decide +kernel) (by decide +kernel)) (goodIn_sub (fun _ h => List.mem_cons_of_mem _ (List.mem_append_left _ (List.mem_append_right _ h))) (by decide +kernel))
set_option maxRecDepth 20000 in
theorem gX4_pay_X4_needRange : GoodIn wsX4_pay (va_wsS RX4 41 yX4_needRange wsX4_needRange) := goodIn_app (goodIn_of _ (by decide +kernel)) ggX4_pay_X4_needRange
set_option maxRecDepth 20000 in
theorem ggX4_pay_X2_get_ : GoodIn wsX4_pay wsX2_get_ := goodIn_r _ [18, 19, 20, 21, 17, 22, 23, 58] (by decide +kernel) (by decide +kernel)
set_option maxRecDepth 20000 in
theorem gX4_pay_X2_get_ : GoodIn wsX4_pay (wsV RX4 56 RX2 yX2_get_ wsX2_get_) := goodIn_app (goodIn_of _ (by decide +kernel)) ggX4_pay_X2_get_
set_option maxRecDepth 20000 in
theorem ggX4_pay_X4_needState : GoodIn wsX4_pay wsX4_needState := goodIn_ca (goodIn_r _ [26, 27, 28] (by decide +kernel) (by decide +kernel)) (goodIn_sub (fun _ h => List.mem_cons_of_mem _ (List.mem_append_right _ h)) (by decide +kernel))
set_option maxRecDepth 20000 in
theorem gX4_pay_X4_needState : GoodIn wsX4_pay (va_wsS RX4 59 yX4_needState wsX4_needState) := goodIn_app (goodIn_of _ (by decide +kernel)) ggX4_pay_X4_needState
set_option maxRecDepth 20000 in
theorem ggX4_pay_X0_save : GoodIn wsX4_pay wsX0_save := goodIn_r _ [33, 34, 35, 36, 37, 38, 32, 39, 40, 41, 42, 17, 43, 44, 15, 16, 18, 19, 20, 21, 22, 23, 59, 60, 61, 62, 58] (by decide +kernel) (by decide +kernel)
set_option maxRecDepth 20000 in
theorem gX4_pay_X0_save : GoodIn wsX4_pay (wsV RX4 45 RX0 yX0_save wsX0_save) := goodIn_app (goodIn_of _ (by decide +kernel)) ggX4_pay_X0_save
set_option maxRecDepth 20000 in
theorem ggX4_pay_X2_add : GoodIn wsX4_pay wsX2_add := goodIn_r _ [48, 19, 20, 21, 17, 22, 23, 49, 50, 51, 52, 58] (by decide +kernel) (by decide +kernel)
set_option maxRecDepth 20000 in
theorem gX4_pay_X2_add : GoodIn wsX4_pay (wsV RX4 63 RX2 yX2_add wsX2_add) := goodIn_app (goodIn_of _ (by decide +kernel)) ggX4_pay_X2_add
set_option maxRecDepth 20000 in
theorem ggX4_pay_X2_get : GoodIn wsX4_pay wsX2_get := goodIn_r _ [22, 23, 58] (by decide +kernel) (by decide +kernel)
set_option maxRecDepth 20000 in
theorem gX4_pay_X2_get : GoodIn wsX4_pay (wsV RX4 49 RX2 yX2_get wsX2_get) := goodIn_app (goodIn_of _ (by decide +kernel)) ggX4_pay_X2_get
theorem dX4_pay_0 : decode cX4_pay 0 = .ok (.iload_n 1, 1) := by decide +kernel
theorem dX4_pay_1 : decode cX4_pay 1 = .ok (.bipush 6, 2) := by decide +kernel
theorem dX4_pay_3 : decode cX4_pay 3 = .ok (.invokestatic 37, 3) := by decide +kernel
theorem dX4_pay_6 : decode cX4_pay 6 = .ok (.iload_n 2, 1) := by decide +kernel
theorem dX4_pay_7 : decode cX4_pay 7 = .ok (.iconst 1, 1) := by decide +kernel
theorem dX4_pay_8 : decode cX4_pay 8 = .ok (.bipush 99, 2) := by decide +kernel
theorem dX4_pay_10 : decode cX4_pay 10 = .ok (.invokestatic 41, 3) := by decide +kernel
theorem dX4_pay_13 : decode cX4_pay 13 = .ok (.aload_n 0, 1) := by decide +kernel
theorem dX4_pay_14 : decode cX4_pay 14 = .ok (.getfield 12, 3) := by decide +kernel
theorem dX4_pay_17 : decode cX4_pay 17 = .ok (.sipush 166, 3) := by decide +kernel
theorem dX4_pay_20 : decode cX4_pay 20 = .ok (.invokevirtual 56, 3) := by decide +kernel
theorem dX4_pay_23 : decode cX4_pay 23 = .ok (.iload_n 2, 1) := by decide +kernel
theorem dX4_pay_24 : decode cX4_pay 24 = .ok (.iadd, 1) := by decide +kernel
theorem dX4_pay_25 : decode cX4_pay 25 = .ok (.sipush 9999, 3) := by decide +kernel
theorem dX4_pay_28 : decode cX4_pay 28 = .ok (.if_icmp .gt 7, 3) := by decide +kernel
theorem dX4_pay_31 : decode cX4_pay 31 = .ok (.iconst 1, 1) := by decide +kernel
theorem dX4_pay_32 : decode cX4_pay 32 = .ok (.goto 4, 3) := by decide +kernel
theorem dX4_pay_35 : decode cX4_pay 35 = .ok (.iconst 0, 1) := by decide +kernel
theorem dX4_pay_36 : decode cX4_pay 36 = .ok (.invokestatic 59, 3) := by decide +kernel
theorem dX4_pay_39 : decode cX4_pay 39 = .ok (.aload_n 0, 1) := by decide +kernel
theorem dX4_pay_40 : decode cX4_pay 40 = .ok (.getfield 26, 3) := by decide +kernel
theorem dX4_pay_43 : decode cX4_pay 43 = .ok (.aload_n 0, 1) := by decide +kernel
theorem dX4_pay_44 : decode cX4_pay 44 = .ok (.getfield 12, 3) := by decide +kernel
theorem dX4_pay_47 : decode cX4_pay 47 = .ok (.invokevirtual 45, 3) := by decide +kernel
theorem dX4_pay_50 : decode cX4_pay 50 = .ok (.aload_n 0, 1) := by decide +kernel
theorem dX4_pay_51 : decode cX4_pay 51 = .ok (.getfield 12, 3) := by decide +kernel
theorem dX4_pay_54 : decode cX4_pay 54 = .ok (.sipush 166, 3) := by decide +kernel
theorem dX4_pay_57 : decode cX4_pay 57 = .ok (.iconst 0, 1) := by decide +kernel
theorem dX4_pay_58 : decode cX4_pay 58 = .ok (.iload_n 2, 1) := by decide +kernel
theorem dX4_pay_59 : decode cX4_pay 59 = .ok (.invokevirtual 63, 3) := by decide +kernel
theorem dX4_pay_62 : decode cX4_pay 62 = .ok (.aload_n 0, 1) := by decide +kernel
theorem dX4_pay_63 : decode cX4_pay 63 = .ok (.getfield 12, 3) := by decide +kernel
theorem dX4_pay_66 : decode cX4_pay 66 = .ok (.bipush 30, 2) := by decide +kernel
theorem dX4_pay_68 : decode cX4_pay 68 = .ok (.iload_n 1, 1) := by decide +kernel
theorem dX4_pay_69 : decode cX4_pay 69 = .ok (.iload_n 2, 1) := by decide +kernel
theorem dX4_pay_70 : decode cX4_pay 70 = .ok (.invokevirtual 63, 3) := by decide +kernel
theorem dX4_pay_73 : decode cX4_pay 73 = .ok (.aload_n 0, 1) := by decide +kernel
theorem dX4_pay_74 : decode cX4_pay 74 = .ok (.getfield 12, 3) := by decide +kernel
theorem dX4_pay_77 : decode cX4_pay 77 = .ok (.bipush 30, 2) := by decide +kernel
theorem dX4_pay_79 : decode cX4_pay 79 = .ok (.iload_n 1, 1) := by decide +kernel
theorem dX4_pay_80 : decode cX4_pay 80 = .ok (.invokevirtual 49, 3) := by decide +kernel
theorem dX4_pay_83 : decode cX4_pay 83 = .ok (.ireturn, 1) := by decide +kernel
set_option maxRecDepth 20000 in
theorem ggX4_set_X4_needPlace : GoodIn wsX4_set wsX4_needPlace := goodIn_ca (goodIn_r _ [6, 7, 8] (by decide +kernel) (by decide +kernel)) (goodIn_sub (fun _ h => List.mem_cons_of_mem _ (List.mem_append_left _ (List.mem_append_right _ h))) (by decide +kernel))
set_option maxRecDepth 20000 in
theorem gX4_set_X4_needPlace : GoodIn wsX4_set (va_wsS RX4 37 yX4_needPlace wsX4_needPlace) := goodIn_app (goodIn_of _ (by decide +kernel)) ggX4_set_X4_needPlace
set_option maxRecDepth 20000 in
theorem ggX4_set_X2_mostOfSetting : GoodIn wsX4_set wsX2_mostOfSetting := goodIn_r _ [12] (by decide +kernel) (by decide +kernel)
set_option maxRecDepth 20000 in
theorem gX4_set_X2_mostOfSetting : GoodIn wsX4_set (va_wsS RX4 66 yX2_mostOfSetting wsX2_mostOfSetting) := goodIn_app (goodIn_of _ (by decide +kernel)) ggX4_set_X2_mostOfSetting
set_option maxRecDepth 20000 in
theorem ggX4_set_X4_needRange : GoodIn wsX4_set wsX4_needRange := goodIn_ca (goodIn_r _ [15, 16, 17] (by decide +kernel) (by decide +kernel)) (goodIn_sub (fun _ h => List.mem_cons_of_mem _ (List.mem_append_right _ h)) (by decide +kernel))
set_option maxRecDepth 20000 in
theorem gX4_set_X4_needRange : GoodIn wsX4_set (va_wsS RX4 41 yX4_needRange wsX4_needRange) := goodIn_app (goodIn_of _ (by decide +kernel)) ggX4_set_X4_needRange
set_option maxRecDepth 20000 in
theorem ggX4_set_X0_save : GoodIn wsX4_set wsX0_save := goodIn_r _ [22, 23, 24, 25, 26, 27, 21, 28, 29, 30, 31, 11, 32, 33, 34, 35, 36, 37, 38, 39, 40, 41, 51, 52, 53, 54, 55] (by decide +kernel) (by decide +kernel)
set_option maxRecDepth 20000 in
theorem gX4_set_X0_save : GoodIn wsX4_set (wsV RX4 45 RX0 yX0_save wsX0_save) := goodIn_app (goodIn_of _ (by decide +kernel)) ggX4_set_X0_save
set_option maxRecDepth 20000 in
theorem ggX4_set_X2_get : GoodIn wsX4_set wsX2_get := goodIn_r _ [40, 41, 55] (by decide +kernel) (by decide +kernel)
set_option maxRecDepth 20000 in
theorem gX4_set_X2_get : GoodIn wsX4_set (wsV RX4 49 RX2 yX2_get wsX2_get) := goodIn_app (goodIn_of _ (by decide +kernel)) ggX4_set_X2_get
set_option maxRecDepth 20000 in
theorem ggX4_set_X2_put : GoodIn wsX4_set wsX2_put := goodIn_r _ [46, 41, 55] (by decide +kernel) (by decide +kernel)
set_option maxRecDepth 20000 in
theorem gX4_set_X2_put : GoodIn wsX4_set (wsV RX4 53 RX2 yX2_put wsX2_put) := goodIn_app (goodIn_of _ (by decide +kernel)) ggX4_set_X2_put
theorem dX4_set_0 : decode cX4_set 0 = .ok (.iload_n 1, 1) := by decide +kernel
theorem dX4_set_1 : decode cX4_set 1 = .ok (.iconst 3, 1) := by decide +kernel
theorem dX4_set_2 : decode cX4_set 2 = .ok (.invokestatic 37, 3) := by decide +kernel
theorem dX4_set_5 : decode cX4_set 5 = .ok (.iload_n 2, 1) := by decide +kernel
theorem dX4_set_6 : decode cX4_set 6 = .ok (.iconst 0, 1) := by decide +kernel
theorem dX4_set_7 : decode cX4_set 7 = .ok (.iload_n 1, 1) := by decide +kernel
theorem dX4_set_8 : decode cX4_set 8 = .ok (.invokestatic 66, 3) := by decide +kernel
theorem dX4_set_11 : decode cX4_set 11 = .ok (.invokestatic 41, 3) := by decide +kernel
theorem dX4_set_14 : decode cX4_set 14 = .ok (.aload_n 0, 1) := by decide +kernel
theorem dX4_set_15 : decode cX4_set 15 = .ok (.getfield 26, 3) := by decide +kernel
theorem dX4_set_18 : decode cX4_set 18 = .ok (.aload_n 0, 1) := by decide +kernel
theorem dX4_set_19 : decode cX4_set 19 = .ok (.getfield 12, 3) := by decide +kernel
theorem dX4_set_22 : decode cX4_set 22 = .ok (.invokevirtual 45, 3) := by decide +kernel
theorem dX4_set_25 : decode cX4_set 25 = .ok (.aload_n 0, 1) := by decide +kernel
theorem dX4_set_26 : decode cX4_set 26 = .ok (.getfield 12, 3) := by decide +kernel
theorem dX4_set_29 : decode cX4_set 29 = .ok (.sipush 162, 3) := by decide +kernel
theorem dX4_set_32 : decode cX4_set 32 = .ok (.iload_n 1, 1) := by decide +kernel
theorem dX4_set_33 : decode cX4_set 33 = .ok (.invokevirtual 49, 3) := by decide +kernel
theorem dX4_set_36 : decode cX4_set 36 = .ok (.istore_n 3, 1) := by decide +kernel
theorem dX4_set_37 : decode cX4_set 37 = .ok (.aload_n 0, 1) := by decide +kernel
theorem dX4_set_38 : decode cX4_set 38 = .ok (.getfield 12, 3) := by decide +kernel
theorem dX4_set_41 : decode cX4_set 41 = .ok (.sipush 162, 3) := by decide +kernel
theorem dX4_set_44 : decode cX4_set 44 = .ok (.iload_n 1, 1) := by decide +kernel
theorem dX4_set_45 : decode cX4_set 45 = .ok (.iload_n 2, 1) := by decide +kernel
theorem dX4_set_46 : decode cX4_set 46 = .ok (.invokevirtual 53, 3) := by decide +kernel
theorem dX4_set_49 : decode cX4_set 49 = .ok (.iload_n 3, 1) := by decide +kernel
theorem dX4_set_50 : decode cX4_set 50 = .ok (.ireturn, 1) := by decide +kernel
set_option maxRecDepth 20000 in
theorem ggX4_bid_X4_needPlace : GoodIn wsX4_bid wsX4_needPlace := goodIn_ca (goodIn_r _ [6, 7, 8] (by decide +kernel) (by decide +kernel)) (goodIn_sub (fun _ h => List.mem_cons_of_mem _ (List.mem_append_left _ (List.mem_append_left _ (List.mem_append_right _ h)))) (by decide +kernel))
set_option maxRecDepth 20000 in
theorem gX4_bid_X4_needPlace : GoodIn wsX4_bid (va_wsS RX4 37 yX4_needPlace wsX4_needPlace) := goodIn_app (goodIn_of _ (by decide +kernel)) ggX4_bid_X4_needPlace
set_option maxRecDepth 20000 in
theorem ggX4_bid_X4_needRange : GoodIn wsX4_bid wsX4_needRange := goodIn_ca (goodIn_r _ [11, 12, 13] (by decide +kernel) (by decide +kernel)) (goodIn_sub (fun _ h => List.mem_cons_of_mem _ (List.mem_append_left _ (List.mem_append_right _ h))) (by decide +kernel))
set_option maxRecDepth 20000 in
theorem gX4_bid_X4_needRange : GoodIn wsX4_bid (va_wsS RX4 41 yX4_needRange wsX4_needRange) := goodIn_app (goodIn_of _ (by decide +kernel)) ggX4_bid_X4_needRange
set_option maxRecDepth 20000 in
theorem ggX4_bid_X2_whyNotSealed : GoodIn wsX4_bid wsX2_whyNotSealed := goodIn_r _ [18, 19, 20, 21, 17, 22, 23, 24, 25, 26, 27, 28, 29, 30, 31, 32, 33, 34, 35, 36, 37, 38, 39, 40, 41, 42, 79] (by decide +kernel) (by decide +kernel)
set_option maxRecDepth 20000 in
theorem gX4_bid_X2_whyNotSealed : GoodIn wsX4_bid (wsV RX4 69 RX2 yX2_whyNotSealed wsX2_whyNotSealed) := goodIn_app (goodIn_of _ (by decide +kernel)) ggX4_bid_X2_whyNotSealed
set_option maxRecDepth 20000 in
theorem ggX4_bid_X4_needState : GoodIn wsX4_bid wsX4_needState := goodIn_ca (goodIn_r _ [45, 46, 47] (by decide +kernel) (by decide +kernel)) (goodIn_sub (fun _ h => List.mem_cons_of_mem _ (List.mem_append_right _ h)) (by decide +kernel))
set_option maxRecDepth 20000 in
theorem gX4_bid_X4_needState : GoodIn wsX4_bid (va_wsS RX4 59 yX4_needState wsX4_needState) := goodIn_app (goodIn_of _ (by decide +kernel)) ggX4_bid_X4_needState
set_option maxRecDepth 20000 in
theorem ggX4_bid_X0_save : GoodIn wsX4_bid wsX0_save := goodIn_r _ [52, 53, 54, 55, 56, 57, 51, 58, 59, 60, 61, 17, 62, 23, 24, 25, 26, 27, 28, 29, 30, 31, 80, 81, 82, 83, 79] (by decide +kernel) (by decide +kernel)
set_option maxRecDepth 20000 in
theorem gX4_bid_X0_save : GoodIn wsX4_bid (wsV RX4 45 RX0 yX0_save wsX0_save) := goodIn_app (goodIn_of _ (by decide +kernel)) ggX4_bid_X0_save
set_option maxRecDepth 20000 in
theorem ggX4_bid_X2_sealBid : GoodIn wsX4_bid wsX2_sealBid := goodIn_r _ [66, 40, 41, 17, 42, 23, 24, 25, 26, 27, 28, 29, 30, 31, 67, 68, 69, 70, 71, 72, 73, 74, 79] (by decide +kernel) (by decide +kernel)
set_option maxRecDepth 20000 in
theorem gX4_bid_X2_sealBid : GoodIn wsX4_bid (wsV RX4 73 RX2 yX2_sealBid wsX2_sealBid) := goodIn_app (goodIn_of _ (by decide +kernel)) ggX4_bid_X2_sealBid
theorem dX4_bid_0 : decode cX4_bid 0 = .ok (.iload_n 1, 1) := by decide +kernel
theorem dX4_bid_1 : decode cX4_bid 1 = .ok (.bipush 6, 2) := by decide +kernel
theorem dX4_bid_3 : decode cX4_bid 3 = .ok (.invokestatic 37, 3) := by decide +kernel
theorem dX4_bid_6 : decode cX4_bid 6 = .ok (.iload_n 2, 1) := by decide +kernel
theorem dX4_bid_7 : decode cX4_bid 7 = .ok (.bipush 6, 2) := by decide +kernel
theorem dX4_bid_9 : decode cX4_bid 9 = .ok (.invokestatic 37, 3) := by decide +kernel
theorem dX4_bid_12 : decode cX4_bid 12 = .ok (.iload_n 3, 1) := by decide +kernel
theorem dX4_bid_13 : decode cX4_bid 13 = .ok (.iconst 1, 1) := by decide +kernel
theorem dX4_bid_14 : decode cX4_bid 14 = .ok (.bipush 99, 2) := by decide +kernel
theorem dX4_bid_16 : decode cX4_bid 16 = .ok (.invokestatic 41, 3) := by decide +kernel
theorem dX4_bid_19 : decode cX4_bid 19 = .ok (.aload_n 0, 1) := by decide +kernel
theorem dX4_bid_20 : decode cX4_bid 20 = .ok (.getfield 12, 3) := by decide +kernel
theorem dX4_bid_23 : decode cX4_bid 23 = .ok (.iload_n 1, 1) := by decide +kernel
theorem dX4_bid_24 : decode cX4_bid 24 = .ok (.iload_n 2, 1) := by decide +kernel
theorem dX4_bid_25 : decode cX4_bid 25 = .ok (.iload_n 3, 1) := by decide +kernel
theorem dX4_bid_26 : decode cX4_bid 26 = .ok (.invokevirtual 69, 3) := by decide +kernel
theorem dX4_bid_29 : decode cX4_bid 29 = .ok (.ifCond .ne 7, 3) := by decide +kernel
theorem dX4_bid_32 : decode cX4_bid 32 = .ok (.iconst 1, 1) := by decide +kernel
theorem dX4_bid_33 : decode cX4_bid 33 = .ok (.goto 4, 3) := by decide +kernel
theorem dX4_bid_36 : decode cX4_bid 36 = .ok (.iconst 0, 1) := by decide +kernel
theorem dX4_bid_37 : decode cX4_bid 37 = .ok (.invokestatic 59, 3) := by decide +kernel
theorem dX4_bid_40 : decode cX4_bid 40 = .ok (.aload_n 0, 1) := by decide +kernel
theorem dX4_bid_41 : decode cX4_bid 41 = .ok (.getfield 26, 3) := by decide +kernel
theorem dX4_bid_44 : decode cX4_bid 44 = .ok (.aload_n 0, 1) := by decide +kernel
theorem dX4_bid_45 : decode cX4_bid 45 = .ok (.getfield 12, 3) := by decide +kernel
theorem dX4_bid_48 : decode cX4_bid 48 = .ok (.invokevirtual 45, 3) := by decide +kernel
theorem dX4_bid_51 : decode cX4_bid 51 = .ok (.aload_n 0, 1) := by decide +kernel
theorem dX4_bid_52 : decode cX4_bid 52 = .ok (.getfield 12, 3) := by decide +kernel
theorem dX4_bid_55 : decode cX4_bid 55 = .ok (.iload_n 1, 1) := by decide +kernel
theorem dX4_bid_56 : decode cX4_bid 56 = .ok (.iload_n 2, 1) := by decide +kernel
theorem dX4_bid_57 : decode cX4_bid 57 = .ok (.iload_n 3, 1) := by decide +kernel
theorem dX4_bid_58 : decode cX4_bid 58 = .ok (.invokevirtual 73, 3) := by decide +kernel
theorem dX4_bid_61 : decode cX4_bid 61 = .ok (.ireturn, 1) := by decide +kernel
set_option maxRecDepth 20000 in
theorem ggX4_withdraw_X4_needPlace : GoodIn wsX4_withdraw wsX4_needPlace := goodIn_ca (goodIn_r _ [6, 7, 8] (by decide +kernel) (by decide +kernel)) (goodIn_sub (fun _ h => List.mem_cons_of_mem _ (List.mem_append_left _ (List.mem_append_right _ h))) (by decide +kernel))
set_option maxRecDepth 20000 in
theorem gX4_withdraw_X4_needPlace : GoodIn wsX4_withdraw (va_wsS RX4 37 yX4_needPlace wsX4_needPlace) := goodIn_app (goodIn_of _ (by decide +kernel)) ggX4_withdraw_X4_needPlace
set_option maxRecDepth 20000 in
theorem ggX4_withdraw_X2_whyNotWithdrawn : GoodIn wsX4_withdraw wsX2_whyNotWithdrawn := goodIn_r _ [13, 14, 15, 16, 12, 17, 18, 19, 20, 21, 22, 23, 24, 25, 26, 27, 28, 29, 30, 31, 32, 33, 34, 35, 36, 37, 38, 39, 40, 41, 82] (by decide +kernel) (by decide +kernel)
set_option maxRecDepth 20000 in
theorem gX4_withdraw_X2_whyNotWithdrawn : GoodIn wsX4_withdraw (wsV RX4 76 RX2 yX2_whyNotWithdrawn wsX2_whyNotWithdrawn) := goodIn_app (goodIn_of _ (by decide +kernel)) ggX4_withdraw_X2_whyNotWithdrawn
set_option maxRecDepth 20000 in
theorem ggX4_withdraw_X4_needState : GoodIn wsX4_withdraw wsX4_needState := goodIn_ca (goodIn_r _ [44, 45, 46] (by decide +kernel) (by decide +kernel)) (goodIn_sub (fun _ h => List.mem_cons_of_mem _ (List.mem_append_right _ h)) (by decide +kernel))
set_option maxRecDepth 20000 in
theorem gX4_withdraw_X4_needState : GoodIn wsX4_withdraw (va_wsS RX4 59 yX4_needState wsX4_needState) := goodIn_app (goodIn_of _ (by decide +kernel)) ggX4_withdraw_X4_needState
set_option maxRecDepth 20000 in
theorem ggX4_withdraw_X0_save : GoodIn wsX4_withdraw wsX0_save := goodIn_r _ [51, 52, 53, 54, 55, 56, 50, 57, 58, 59, 60, 12, 61, 18, 19, 20, 21, 22, 23, 24, 25, 26, 83, 84, 85, 86, 82] (by decide +kernel) (by decide +kernel)
set_option maxRecDepth 20000 in
theorem gX4_withdraw_X0_save : GoodIn wsX4_withdraw (wsV RX4 45 RX0 yX0_save wsX0_save) := goodIn_app (goodIn_of _ (by decide +kernel)) ggX4_withdraw_X0_save
set_option maxRecDepth 20000 in
theorem ggX4_withdraw_X2_takeBack : GoodIn wsX4_withdraw wsX2_takeBack := goodIn_r _ [65, 38, 39, 40, 12, 41, 18, 19, 20, 21, 22, 23, 24, 25, 26, 31, 32, 33, 34, 35, 36, 37, 66, 67, 68, 69, 70, 71, 72, 73, 74, 75, 76, 77, 82] (by decide +kernel) (by decide +kernel)
set_option maxRecDepth 20000 in
theorem gX4_withdraw_X2_takeBack : GoodIn wsX4_withdraw (wsV RX4 79 RX2 yX2_takeBack wsX2_takeBack) := goodIn_app (goodIn_of _ (by decide +kernel)) ggX4_withdraw_X2_takeBack
theorem dX4_withdraw_0 : decode cX4_withdraw 0 = .ok (.iload_n 1, 1) := by decide +kernel
theorem dX4_withdraw_1 : decode cX4_withdraw 1 = .ok (.bipush 6, 2) := by decide +kernel
theorem dX4_withdraw_3 : decode cX4_withdraw 3 = .ok (.invokestatic 37, 3) := by decide +kernel
theorem dX4_withdraw_6 : decode cX4_withdraw 6 = .ok (.iload_n 2, 1) := by decide +kernel
theorem dX4_withdraw_7 : decode cX4_withdraw 7 = .ok (.bipush 6, 2) := by decide +kernel
theorem dX4_withdraw_9 : decode cX4_withdraw 9 = .ok (.invokestatic 37, 3) := by decide +kernel
theorem dX4_withdraw_12 : decode cX4_withdraw 12 = .ok (.aload_n 0, 1) := by decide +kernel
theorem dX4_withdraw_13 : decode cX4_withdraw 13 = .ok (.getfield 12, 3) := by decide +kernel
theorem dX4_withdraw_16 : decode cX4_withdraw 16 = .ok (.iload_n 1, 1) := by decide +kernel
theorem dX4_withdraw_17 : decode cX4_withdraw 17 = .ok (.iload_n 2, 1) := by decide +kernel
theorem dX4_withdraw_18 : decode cX4_withdraw 18 = .ok (.invokevirtual 76, 3) := by decide +kernel
theorem dX4_withdraw_21 : decode cX4_withdraw 21 = .ok (.ifCond .ne 7, 3) := by decide +kernel
theorem dX4_withdraw_24 : decode cX4_withdraw 24 = .ok (.iconst 1, 1) := by decide +kernel
theorem dX4_withdraw_25 : decode cX4_withdraw 25 = .ok (.goto 4, 3) := by decide +kernel
theorem dX4_withdraw_28 : decode cX4_withdraw 28 = .ok (.iconst 0, 1) := by decide +kernel
theorem dX4_withdraw_29 : decode cX4_withdraw 29 = .ok (.invokestatic 59, 3) := by decide +kernel
theorem dX4_withdraw_32 : decode cX4_withdraw 32 = .ok (.aload_n 0, 1) := by decide +kernel
theorem dX4_withdraw_33 : decode cX4_withdraw 33 = .ok (.getfield 26, 3) := by decide +kernel
theorem dX4_withdraw_36 : decode cX4_withdraw 36 = .ok (.aload_n 0, 1) := by decide +kernel
theorem dX4_withdraw_37 : decode cX4_withdraw 37 = .ok (.getfield 12, 3) := by decide +kernel
theorem dX4_withdraw_40 : decode cX4_withdraw 40 = .ok (.invokevirtual 45, 3) := by decide +kernel
theorem dX4_withdraw_43 : decode cX4_withdraw 43 = .ok (.aload_n 0, 1) := by decide +kernel
theorem dX4_withdraw_44 : decode cX4_withdraw 44 = .ok (.getfield 12, 3) := by decide +kernel
theorem dX4_withdraw_47 : decode cX4_withdraw 47 = .ok (.iload_n 1, 1) := by decide +kernel
theorem dX4_withdraw_48 : decode cX4_withdraw 48 = .ok (.iload_n 2, 1) := by decide +kernel
theorem dX4_withdraw_49 : decode cX4_withdraw 49 = .ok (.invokevirtual 79, 3) := by decide +kernel
theorem dX4_withdraw_52 : decode cX4_withdraw 52 = .ok (.ireturn, 1) := by decide +kernel
set_option maxRecDepth 20000 in
theorem ggX4_pause_X4_needRange : GoodIn wsX4_pause wsX4_needRange := goodIn_ca (goodIn_r _ [6, 7, 8] (by decide +kernel) (by decide +kernel)) (goodIn_sub (fun _ h => List.mem_cons_of_mem _ (List.mem_append_right _ h)) (by decide +kernel))
set_option maxRecDepth 20000 in
theorem gX4_pause_X4_needRange : GoodIn wsX4_pause (va_wsS RX4 41 yX4_needRange wsX4_needRange) := goodIn_app (goodIn_of _ (by decide +kernel)) ggX4_pause_X4_needRange
set_option maxRecDepth 20000 in
theorem ggX4_pause_X0_save : GoodIn wsX4_pause wsX0_save := goodIn_r _ [13, 14, 15, 16, 17, 18, 12, 19, 20, 21, 22, 23, 24, 25, 26, 27, 28, 29, 30, 31, 32, 33, 50, 51, 52, 53, 54] (by decide +kernel) (by decide +kernel)
set_option maxRecDepth 20000 in
theorem gX4_pause_X0_save : GoodIn wsX4_pause (wsV RX4 45 RX0 yX0_save wsX0_save) := goodIn_app (goodIn_of _ (by decide +kernel)) ggX4_pause_X0_save
set_option maxRecDepth 20000 in
theorem ggX4_pause_X2_passHours : GoodIn wsX4_pause wsX2_passHours := goodIn_r _ [37, 38, 39, 40, 41, 25, 26, 27, 23, 28, 29, 30, 31, 32, 33, 42, 43, 44, 45, 54] (by decide +kernel) (by decide +kernel)
set_option maxRecDepth 20000 in
theorem gX4_pause_X2_passHours : GoodIn wsX4_pause (wsV RX4 82 RX2 yX2_passHours wsX2_passHours) := goodIn_app (goodIn_of _ (by decide +kernel)) ggX4_pause_X2_passHours
theorem dX4_pause_0 : decode cX4_pause 0 = .ok (.iload_n 1, 1) := by decide +kernel
theorem dX4_pause_1 : decode cX4_pause 1 = .ok (.iconst 1, 1) := by decide +kernel
theorem dX4_pause_2 : decode cX4_pause 2 = .ok (.bipush 23, 2) := by decide +kernel
theorem dX4_pause_4 : decode cX4_pause 4 = .ok (.invokestatic 41, 3) := by decide +kernel
theorem dX4_pause_7 : decode cX4_pause 7 = .ok (.aload_n 0, 1) := by decide +kernel
theorem dX4_pause_8 : decode cX4_pause 8 = .ok (.getfield 26, 3) := by decide +kernel
theorem dX4_pause_11 : decode cX4_pause 11 = .ok (.aload_n 0, 1) := by decide +kernel
theorem dX4_pause_12 : decode cX4_pause 12 = .ok (.getfield 12, 3) := by decide +kernel
theorem dX4_pause_15 : decode cX4_pause 15 = .ok (.invokevirtual 45, 3) := by decide +kernel
theorem dX4_pause_18 : decode cX4_pause 18 = .ok (.aload_n 0, 1) := by decide +kernel
theorem dX4_pause_19 : decode cX4_pause 19 = .ok (.getfield 12, 3) := by decide +kernel
theorem dX4_pause_22 : decode cX4_pause 22 = .ok (.iload_n 1, 1) := by decide +kernel
theorem dX4_pause_23 : decode cX4_pause 23 = .ok (.invokevirtual 82, 3) := by decide +kernel
theorem dX4_pause_26 : decode cX4_pause 26 = .ok (.ireturn, 1) := by decide +kernel
set_option maxRecDepth 20000 in
theorem ggX4_open_X2_isOpened : GoodIn wsX4_open wsX2_isOpened := goodIn_r _ [7, 8, 9, 10, 6, 11, 12, 13, 14, 15, 16, 142] (by decide +kernel) (by decide +kernel)
set_option maxRecDepth 20000 in
theorem gX4_open_X2_isOpened : GoodIn wsX4_open (wsV RX4 85 RX2 yX2_isOpened wsX2_isOpened) := goodIn_app (goodIn_of _ (by decide +kernel)) ggX4_open_X2_isOpened
set_option maxRecDepth 20000 in
theorem ggX4_open_X4_needState : GoodIn wsX4_open wsX4_needState := goodIn_ca (goodIn_r _ [20, 21, 22] (by decide +kernel) (by decide +kernel)) (goodIn_sub (fun _ h => List.mem_cons_of_mem _ (List.mem_append_right _ h)) (by decide +kernel))
set_option maxRecDepth 20000 in
theorem gX4_open_X4_needState : GoodIn wsX4_open (va_wsS RX4 59 yX4_needState wsX4_needState) := goodIn_app (goodIn_of _ (by decide +kernel)) ggX4_open_X4_needState
set_option maxRecDepth 20000 in
theorem ggX4_open_X0_save : GoodIn wsX4_open wsX0_save := goodIn_r _ [27, 28, 29, 30, 31, 32, 26, 33, 34, 35, 36, 6, 37, 8, 9, 10, 11, 12, 13, 14, 15, 16, 143, 144, 145, 146, 142] (by decide +kernel) (by decide +kernel)
set_option maxRecDepth 20000 in
theorem gX4_open_X0_save : GoodIn wsX4_open (wsV RX4 45 RX0 yX0_save wsX0_save) := goodIn_app (goodIn_of _ (by decide +kernel)) ggX4_open_X0_save
set_option maxRecDepth 20000 in
theorem ggX4_open_X4_shareOut : GoodIn wsX4_open wsX4_shareOut := goodIn_r _ [41, 1, 42, 43, 44, 45, 19, 46, 47, 48, 49, 50, 51, 52, 53, 54, 6, 55, 56, 57, 58, 12, 13, 14, 15, 16, 59, 60, 61, 62, 63, 64, 65, 66, 67, 68, 69, 70, 71, 72, 73, 74, 75, 76, 77, 78, 79, 80, 81, 82, 83, 84, 85, 86, 87, 88, 89, 90, 91, 92, 93, 94, 95, 96, 97, 98, 99, 100, 101, 102, 103, 104, 105, 106, 107, 108, 109, 110, 111, 112, 113, 114, 115, 116, 117, 118, 119, 120, 121, 122, 123, 124, 125, 126, 127, 128, 129, 130, 131, 132, 133, 134, 135, 136, 137, 138, 139, 140, 141, 142, 147, 148] (by decide +kernel) (by decide +kernel)
set_option maxRecDepth 20000 in
theorem gX4_open_X4_shareOut : GoodIn wsX4_open (wsV RX4 89 RX4 yX4_shareOut wsX4_shareOut) := goodIn_app (goodIn_of _ (by decide +kernel)) ggX4_open_X4_shareOut
theorem dX4_open_0 : decode cX4_open 0 = .ok (.aload_n 0, 1) := by decide +kernel
theorem dX4_open_1 : decode cX4_open 1 = .ok (.getfield 12, 3) := by decide +kernel
theorem dX4_open_4 : decode cX4_open 4 = .ok (.invokevirtual 85, 3) := by decide +kernel
theorem dX4_open_7 : decode cX4_open 7 = .ok (.ifCond .ne 7, 3) := by decide +kernel
theorem dX4_open_10 : decode cX4_open 10 = .ok (.iconst 1, 1) := by decide +kernel
theorem dX4_open_11 : decode cX4_open 11 = .ok (.goto 4, 3) := by decide +kernel
theorem dX4_open_14 : decode cX4_open 14 = .ok (.iconst 0, 1) := by decide +kernel
theorem dX4_open_15 : decode cX4_open 15 = .ok (.invokestatic 59, 3) := by decide +kernel
theorem dX4_open_18 : decode cX4_open 18 = .ok (.aload_n 0, 1) := by decide +kernel
theorem dX4_open_19 : decode cX4_open 19 = .ok (.getfield 26, 3) := by decide +kernel
theorem dX4_open_22 : decode cX4_open 22 = .ok (.aload_n 0, 1) := by decide +kernel
theorem dX4_open_23 : decode cX4_open 23 = .ok (.getfield 12, 3) := by decide +kernel
theorem dX4_open_26 : decode cX4_open 26 = .ok (.invokevirtual 45, 3) := by decide +kernel
theorem dX4_open_29 : decode cX4_open 29 = .ok (.aload_n 0, 1) := by decide +kernel
theorem dX4_open_30 : decode cX4_open 30 = .ok (.invokevirtual 89, 3) := by decide +kernel
theorem dX4_open_33 : decode cX4_open 33 = .ok (.ireturn, 1) := by decide +kernel
set_option maxRecDepth 20000 in
theorem ggX4_fish_X4_needPlace : GoodIn wsX4_fish wsX4_needPlace := goodIn_ca (goodIn_r _ [6, 7, 8] (by decide +kernel) (by decide +kernel)) (goodIn_sub (fun _ h => List.mem_cons_of_mem _ (List.mem_append_left _ (List.mem_append_right _ h))) (by decide +kernel))
set_option maxRecDepth 20000 in
theorem gX4_fish_X4_needPlace : GoodIn wsX4_fish (va_wsS RX4 37 yX4_needPlace wsX4_needPlace) := goodIn_app (goodIn_of _ (by decide +kernel)) ggX4_fish_X4_needPlace
set_option maxRecDepth 20000 in
theorem ggX4_fish_X2_canFish : GoodIn wsX4_fish wsX2_canFish := goodIn_r _ [13, 14, 15, 16, 12, 17, 18, 19, 20, 21, 22, 23, 24, 25, 26, 71] (by decide +kernel) (by decide +kernel)
set_option maxRecDepth 20000 in
theorem gX4_fish_X2_canFish : GoodIn wsX4_fish (wsV RX4 93 RX2 yX2_canFish wsX2_canFish) := goodIn_app (goodIn_of _ (by decide +kernel)) ggX4_fish_X2_canFish
set_option maxRecDepth 20000 in
theorem ggX4_fish_X4_needState : GoodIn wsX4_fish wsX4_needState := goodIn_ca (goodIn_r _ [29, 30, 31] (by decide +kernel) (by decide +kernel)) (goodIn_sub (fun _ h => List.mem_cons_of_mem _ (List.mem_append_right _ h)) (by decide +kernel))
set_option maxRecDepth 20000 in
theorem gX4_fish_X4_needState : GoodIn wsX4_fish (va_wsS RX4 59 yX4_needState wsX4_needState) := goodIn_app (goodIn_of _ (by decide +kernel)) ggX4_fish_X4_needState
set_option maxRecDepth 20000 in
theorem ggX4_fish_X0_save : GoodIn wsX4_fish wsX0_save := goodIn_r _ [36, 37, 38, 39, 40, 41, 35, 42, 43, 44, 45, 12, 46, 18, 19, 20, 21, 22, 23, 24, 25, 26, 72, 73, 74, 75, 71] (by decide +kernel) (by decide +kernel)
set_option maxRecDepth 20000 in
theorem gX4_fish_X0_save : GoodIn wsX4_fish (wsV RX4 45 RX0 yX0_save wsX0_save) := goodIn_app (goodIn_of _ (by decide +kernel)) ggX4_fish_X0_save
set_option maxRecDepth 20000 in
theorem ggX4_fish_X2_catchFish : GoodIn wsX4_fish wsX2_catchFish := goodIn_r _ [50, 51, 52, 53, 54, 22, 23, 24, 12, 25, 26, 55, 56, 57, 58, 59, 60, 61, 62, 63, 64, 65, 66, 71] (by decide +kernel) (by decide +kernel)
set_option maxRecDepth 20000 in
theorem gX4_fish_X2_catchFish : GoodIn wsX4_fish (wsV RX4 97 RX2 yX2_catchFish wsX2_catchFish) := goodIn_app (goodIn_of _ (by decide +kernel)) ggX4_fish_X2_catchFish
theorem dX4_fish_0 : decode cX4_fish 0 = .ok (.iload_n 1, 1) := by decide +kernel
theorem dX4_fish_1 : decode cX4_fish 1 = .ok (.bipush 6, 2) := by decide +kernel
theorem dX4_fish_3 : decode cX4_fish 3 = .ok (.invokestatic 37, 3) := by decide +kernel
theorem dX4_fish_6 : decode cX4_fish 6 = .ok (.aload_n 0, 1) := by decide +kernel
theorem dX4_fish_7 : decode cX4_fish 7 = .ok (.getfield 12, 3) := by decide +kernel
theorem dX4_fish_10 : decode cX4_fish 10 = .ok (.iload_n 1, 1) := by decide +kernel
theorem dX4_fish_11 : decode cX4_fish 11 = .ok (.invokevirtual 93, 3) := by decide +kernel
theorem dX4_fish_14 : decode cX4_fish 14 = .ok (.invokestatic 59, 3) := by decide +kernel
theorem dX4_fish_17 : decode cX4_fish 17 = .ok (.aload_n 0, 1) := by decide +kernel
theorem dX4_fish_18 : decode cX4_fish 18 = .ok (.getfield 26, 3) := by decide +kernel
theorem dX4_fish_21 : decode cX4_fish 21 = .ok (.aload_n 0, 1) := by decide +kernel
theorem dX4_fish_22 : decode cX4_fish 22 = .ok (.getfield 12, 3) := by decide +kernel
theorem dX4_fish_25 : decode cX4_fish 25 = .ok (.invokevirtual 45, 3) := by decide +kernel
theorem dX4_fish_28 : decode cX4_fish 28 = .ok (.aload_n 0, 1) := by decide +kernel
theorem dX4_fish_29 : decode cX4_fish 29 = .ok (.getfield 12, 3) := by decide +kernel
theorem dX4_fish_32 : decode cX4_fish 32 = .ok (.iload_n 1, 1) := by decide +kernel
theorem dX4_fish_33 : decode cX4_fish 33 = .ok (.invokevirtual 97, 3) := by decide +kernel
theorem dX4_fish_36 : decode cX4_fish 36 = .ok (.ireturn, 1) := by decide +kernel
set_option maxRecDepth 20000 in
theorem ggX4_nextDay_X0_save : GoodIn wsX4_nextDay wsX0_save := goodIn_r _ [7, 8, 9, 10, 11, 12, 6, 13, 14, 15, 16, 17, 18, 19, 20, 21, 22, 23, 24, 25, 26, 27, 52, 53, 54, 55, 56] (by decide +kernel) (by decide +kernel)
set_option maxRecDepth 20000 in
theorem gX4_nextDay_X0_save : GoodIn wsX4_nextDay (wsV RX4 45 RX0 yX0_save wsX0_save) := goodIn_app (goodIn_of _ (by decide +kernel)) ggX4_nextDay_X0_save
set_option maxRecDepth 20000 in
theorem ggX4_nextDay_X2_beginDay : GoodIn wsX4_nextDay wsX2_beginDay := goodIn_r _ [31, 32, 33, 34, 35, 23, 24, 25, 17, 26, 27, 36, 37, 38, 39, 40, 41, 42, 43, 44, 45, 46, 47, 56] (by decide +kernel) (by decide +kernel)
set_option maxRecDepth 20000 in
theorem gX4_nextDay_X2_beginDay : GoodIn wsX4_nextDay (wsV RX4 100 RX2 yX2_beginDay wsX2_beginDay) := goodIn_app (goodIn_of _ (by decide +kernel)) ggX4_nextDay_X2_beginDay
theorem dX4_nextDay_0 : decode cX4_nextDay 0 = .ok (.aload_n 0, 1) := by decide +kernel
theorem dX4_nextDay_1 : decode cX4_nextDay 1 = .ok (.getfield 26, 3) := by decide +kernel
theorem dX4_nextDay_4 : decode cX4_nextDay 4 = .ok (.aload_n 0, 1) := by decide +kernel
theorem dX4_nextDay_5 : decode cX4_nextDay 5 = .ok (.getfield 12, 3) := by decide +kernel
theorem dX4_nextDay_8 : decode cX4_nextDay 8 = .ok (.invokevirtual 45, 3) := by decide +kernel
theorem dX4_nextDay_11 : decode cX4_nextDay 11 = .ok (.aload_n 0, 1) := by decide +kernel
theorem dX4_nextDay_12 : decode cX4_nextDay 12 = .ok (.getfield 12, 3) := by decide +kernel
theorem dX4_nextDay_15 : decode cX4_nextDay 15 = .ok (.invokevirtual 100, 3) := by decide +kernel
theorem dX4_nextDay_18 : decode cX4_nextDay 18 = .ok (.ireturn, 1) := by decide +kernel
set_option maxRecDepth 20000 in
theorem ggX4_keep_X0_takeSnapshot : GoodIn wsX4_keep wsX0_takeSnapshot := goodIn_r _ [7, 8, 9, 10, 11, 12, 13, 14, 15, 16, 17, 18, 19, 20, 21, 22, 23, 29, 30, 31, 32, 33] (by decide +kernel) (by decide +kernel)
set_option maxRecDepth 20000 in
theorem gX4_keep_X0_takeSnapshot : GoodIn wsX4_keep (wsV RX4 134 RX0 yX0_takeSnapshot wsX0_takeSnapshot) := goodIn_app (goodIn_of _ (by decide +kernel)) ggX4_keep_X0_takeSnapshot
set_option maxRecDepth 20000 in
theorem ggX4_keep_X2_get_ : GoodIn wsX4_keep wsX2_get_ := goodIn_r _ [18, 19, 20, 21, 13, 22, 23, 33] (by decide +kernel) (by decide +kernel)
set_option maxRecDepth 20000 in
theorem gX4_keep_X2_get_ : GoodIn wsX4_keep (wsV RX4 56 RX2 yX2_get_ wsX2_get_) := goodIn_app (goodIn_of _ (by decide +kernel)) ggX4_keep_X2_get_
theorem dX4_keep_0 : decode cX4_keep 0 = .ok (.aload_n 0, 1) := by decide +kernel
theorem dX4_keep_1 : decode cX4_keep 1 = .ok (.getfield 26, 3) := by decide +kernel
theorem dX4_keep_4 : decode cX4_keep 4 = .ok (.aload_n 0, 1) := by decide +kernel
theorem dX4_keep_5 : decode cX4_keep 5 = .ok (.getfield 12, 3) := by decide +kernel
theorem dX4_keep_8 : decode cX4_keep 8 = .ok (.invokevirtual 134, 3) := by decide +kernel
theorem dX4_keep_11 : decode cX4_keep 11 = .ok (.aload_n 0, 1) := by decide +kernel
theorem dX4_keep_12 : decode cX4_keep 12 = .ok (.getfield 12, 3) := by decide +kernel
theorem dX4_keep_15 : decode cX4_keep 15 = .ok (.sipush 165, 3) := by decide +kernel
theorem dX4_keep_18 : decode cX4_keep 18 = .ok (.invokevirtual 56, 3) := by decide +kernel
theorem dX4_keep_21 : decode cX4_keep 21 = .ok (.ireturn, 1) := by decide +kernel
set_option maxRecDepth 20000 in
theorem ggX4_goBack_X0_hasSnapshot : GoodIn wsX4_goBack wsX0_hasSnapshot := goodIn_r _ [7, 8, 57, 58, 59, 60] (by decide +kernel) (by decide +kernel)
set_option maxRecDepth 20000 in
theorem gX4_goBack_X0_hasSnapshot : GoodIn wsX4_goBack (wsV RX4 137 RX0 yX0_hasSnapshot wsX0_hasSnapshot) := goodIn_app (goodIn_of _ (by decide +kernel)) ggX4_goBack_X0_hasSnapshot
set_option maxRecDepth 20000 in
theorem ggX4_goBack_X4_needState : GoodIn wsX4_goBack wsX4_needState := goodIn_ca (goodIn_r _ [12, 13, 14] (by decide +kernel) (by decide +kernel)) (goodIn_sub (fun _ h => List.mem_cons_of_mem _ (List.mem_append_right _ h)) (by decide +kernel))
set_option maxRecDepth 20000 in
theorem gX4_goBack_X4_needState : GoodIn wsX4_goBack (va_wsS RX4 59 yX4_needState wsX4_needState) := goodIn_app (goodIn_of _ (by decide +kernel)) ggX4_goBack_X4_needState
set_option maxRecDepth 20000 in
theorem ggX4_goBack_X0_save : GoodIn wsX4_goBack wsX0_save := goodIn_r _ [18, 19, 20, 21, 22, 23, 6, 24, 25, 26, 27, 28, 29, 30, 31, 32, 33, 34, 35, 36, 37, 38, 57, 58, 59, 60, 61] (by decide +kernel) (by decide +kernel)
set_option maxRecDepth 20000 in
theorem gX4_goBack_X0_save : GoodIn wsX4_goBack (wsV RX4 45 RX0 yX0_save wsX0_save) := goodIn_app (goodIn_of _ (by decide +kernel)) ggX4_goBack_X0_save
set_option maxRecDepth 20000 in
theorem ggX4_goBack_X0_restoreSnapshot : GoodIn wsX4_goBack wsX0_restoreSnapshot := goodIn_r _ [42, 43, 44, 45, 46, 28, 47, 48, 49, 50, 51, 38, 57, 58, 59, 60, 61] (by decide +kernel) (by decide +kernel)
set_option maxRecDepth 20000 in
theorem gX4_goBack_X0_restoreSnapshot : GoodIn wsX4_goBack (wsV RX4 140 RX0 yX0_restoreSnapshot wsX0_restoreSnapshot) := goodIn_app (goodIn_of _ (by decide +kernel)) ggX4_goBack_X0_restoreSnapshot
set_option maxRecDepth 20000 in
theorem ggX4_goBack_X2_get_ : GoodIn wsX4_goBack wsX2_get_ := goodIn_r _ [33, 34, 35, 36, 28, 37, 38, 61] (by decide +kernel) (by decide +kernel)
set_option maxRecDepth 20000 in
theorem gX4_goBack_X2_get_ : GoodIn wsX4_goBack (wsV RX4 56 RX2 yX2_get_ wsX2_get_) := goodIn_app (goodIn_of _ (by decide +kernel)) ggX4_goBack_X2_get_
theorem dX4_goBack_0 : decode cX4_goBack 0 = .ok (.aload_n 0, 1) := by decide +kernel
theorem dX4_goBack_1 : decode cX4_goBack 1 = .ok (.getfield 26, 3) := by decide +kernel
theorem dX4_goBack_4 : decode cX4_goBack 4 = .ok (.invokevirtual 137, 3) := by decide +kernel
theorem dX4_goBack_7 : decode cX4_goBack 7 = .ok (.invokestatic 59, 3) := by decide +kernel
theorem dX4_goBack_10 : decode cX4_goBack 10 = .ok (.aload_n 0, 1) := by decide +kernel
theorem dX4_goBack_11 : decode cX4_goBack 11 = .ok (.getfield 26, 3) := by decide +kernel
theorem dX4_goBack_14 : decode cX4_goBack 14 = .ok (.aload_n 0, 1) := by decide +kernel
theorem dX4_goBack_15 : decode cX4_goBack 15 = .ok (.getfield 12, 3) := by decide +kernel
theorem dX4_goBack_18 : decode cX4_goBack 18 = .ok (.invokevirtual 45, 3) := by decide +kernel
theorem dX4_goBack_21 : decode cX4_goBack 21 = .ok (.aload_n 0, 1) := by decide +kernel
theorem dX4_goBack_22 : decode cX4_goBack 22 = .ok (.getfield 26, 3) := by decide +kernel
theorem dX4_goBack_25 : decode cX4_goBack 25 = .ok (.aload_n 0, 1) := by decide +kernel
theorem dX4_goBack_26 : decode cX4_goBack 26 = .ok (.getfield 12, 3) := by decide +kernel
theorem dX4_goBack_29 : decode cX4_goBack 29 = .ok (.invokevirtual 140, 3) := by decide +kernel
theorem dX4_goBack_32 : decode cX4_goBack 32 = .ok (.aload_n 0, 1) := by decide +kernel
theorem dX4_goBack_33 : decode cX4_goBack 33 = .ok (.getfield 12, 3) := by decide +kernel
theorem dX4_goBack_36 : decode cX4_goBack 36 = .ok (.sipush 165, 3) := by decide +kernel
theorem dX4_goBack_39 : decode cX4_goBack 39 = .ok (.invokevirtual 56, 3) := by decide +kernel
theorem dX4_goBack_42 : decode cX4_goBack 42 = .ok (.ireturn, 1) := by decide +kernel
set_option maxRecDepth 20000 in
theorem ggX4_undo_X0_savedStates : GoodIn wsX4_undo wsX0_savedStates := goodIn_r _ [7, 8, 34, 35, 36, 37] (by decide +kernel) (by decide +kernel)
set_option maxRecDepth 20000 in
theorem gX4_undo_X0_savedStates : GoodIn wsX4_undo (wsV RX4 143 RX0 yX0_savedStates wsX0_savedStates) := goodIn_app (goodIn_of _ (by decide +kernel)) ggX4_undo_X0_savedStates
set_option maxRecDepth 20000 in
theorem ggX4_undo_X4_needState : GoodIn wsX4_undo wsX4_needState := goodIn_ca (goodIn_r _ [12, 13, 14] (by decide +kernel) (by decide +kernel)) (goodIn_sub (fun _ h => List.mem_cons_of_mem _ (List.mem_append_right _ h)) (by decide +kernel))
set_option maxRecDepth 20000 in
theorem gX4_undo_X4_needState : GoodIn wsX4_undo (va_wsS RX4 59 yX4_needState wsX4_needState) := goodIn_app (goodIn_of _ (by decide +kernel)) ggX4_undo_X4_needState
set_option maxRecDepth 20000 in
theorem ggX4_undo_X0_restoreLatest : GoodIn wsX4_undo wsX0_restoreLatest := goodIn_r _ [18, 8, 19, 20, 21, 22, 23, 24, 25, 26, 27, 28, 29, 34, 35, 36, 37, 38] (by decide +kernel) (by decide +kernel)
set_option maxRecDepth 20000 in
theorem gX4_undo_X0_restoreLatest : GoodIn wsX4_undo (wsV RX4 146 RX0 yX0_restoreLatest wsX0_restoreLatest) := goodIn_app (goodIn_of _ (by decide +kernel)) ggX4_undo_X0_restoreLatest
theorem dX4_undo_0 : decode cX4_undo 0 = .ok (.aload_n 0, 1) := by decide +kernel
theorem dX4_undo_1 : decode cX4_undo 1 = .ok (.getfield 26, 3) := by decide +kernel
theorem dX4_undo_4 : decode cX4_undo 4 = .ok (.invokevirtual 143, 3) := by decide +kernel
theorem dX4_undo_7 : decode cX4_undo 7 = .ok (.ifCond .le 7, 3) := by decide +kernel
theorem dX4_undo_10 : decode cX4_undo 10 = .ok (.iconst 1, 1) := by decide +kernel
theorem dX4_undo_11 : decode cX4_undo 11 = .ok (.goto 4, 3) := by decide +kernel
theorem dX4_undo_14 : decode cX4_undo 14 = .ok (.iconst 0, 1) := by decide +kernel
theorem dX4_undo_15 : decode cX4_undo 15 = .ok (.invokestatic 59, 3) := by decide +kernel
theorem dX4_undo_18 : decode cX4_undo 18 = .ok (.aload_n 0, 1) := by decide +kernel
theorem dX4_undo_19 : decode cX4_undo 19 = .ok (.getfield 26, 3) := by decide +kernel
theorem dX4_undo_22 : decode cX4_undo 22 = .ok (.aload_n 0, 1) := by decide +kernel
theorem dX4_undo_23 : decode cX4_undo 23 = .ok (.getfield 12, 3) := by decide +kernel
theorem dX4_undo_26 : decode cX4_undo 26 = .ok (.invokevirtual 146, 3) := by decide +kernel
theorem dX4_undo_29 : decode cX4_undo 29 = .ok (.aload_n 0, 1) := by decide +kernel
theorem dX4_undo_30 : decode cX4_undo 30 = .ok (.getfield 26, 3) := by decide +kernel
theorem dX4_undo_33 : decode cX4_undo 33 = .ok (.invokevirtual 143, 3) := by decide +kernel
theorem dX4_undo_36 : decode cX4_undo 36 = .ok (.ireturn, 1) := by decide +kernel
set_option maxRecDepth 20000 in
theorem ggX4_spot_X4_needPlace : GoodIn wsX4_spot wsX4_needPlace := goodIn_ca (goodIn_r _ [7, 8, 9] (by decide +kernel) (by decide +kernel)) (goodIn_sub (fun _ h => List.mem_cons_of_mem _ (List.mem_append_right _ h)) (by decide +kernel))
set_option maxRecDepth 20000 in
theorem gX4_spot_X4_needPlace : GoodIn wsX4_spot (va_wsS RX4 37 yX4_needPlace wsX4_needPlace) := goodIn_app (goodIn_of _ (by decide +kernel)) ggX4_spot_X4_needPlace
set_option maxRecDepth 20000 in
theorem ggX4_spot_X2_get : GoodIn wsX4_spot wsX2_get := goodIn_r _ [14, 15, 36] (by decide +kernel) (by decide +kernel)
set_option maxRecDepth 20000 in
theorem gX4_spot_X2_get : GoodIn wsX4_spot (wsV RX4 49 RX2 yX2_get wsX2_get) := goodIn_app (goodIn_of _ (by decide +kernel)) ggX4_spot_X2_get
set_option maxRecDepth 20000 in
theorem ggX4_spot_X2_bidsForSpot : GoodIn wsX4_spot wsX2_bidsForSpot := goodIn_r _ [19, 20, 21, 22, 13, 23, 24, 25, 26, 27, 28, 29, 30, 31, 11, 12, 14, 15, 36] (by decide +kernel) (by decide +kernel)
set_option maxRecDepth 20000 in
theorem gX4_spot_X2_bidsForSpot : GoodIn wsX4_spot (wsV RX4 149 RX2 yX2_bidsForSpot wsX2_bidsForSpot) := goodIn_app (goodIn_of _ (by decide +kernel)) ggX4_spot_X2_bidsForSpot
theorem dX4_spot_0 : decode cX4_spot 0 = .ok (.iload_n 1, 1) := by decide +kernel
theorem dX4_spot_1 : decode cX4_spot 1 = .ok (.bipush 6, 2) := by decide +kernel
theorem dX4_spot_3 : decode cX4_spot 3 = .ok (.invokestatic 37, 3) := by decide +kernel
theorem dX4_spot_6 : decode cX4_spot 6 = .ok (.iload_n 2, 1) := by decide +kernel
theorem dX4_spot_7 : decode cX4_spot 7 = .ok (.tableswitch 100 0 5 #[37, 47, 58, 69, 80, 89], 37) := by decide +kernel
theorem dX4_spot_44 : decode cX4_spot 44 = .ok (.aload_n 0, 1) := by decide +kernel
theorem dX4_spot_45 : decode cX4_spot 45 = .ok (.getfield 12, 3) := by decide +kernel
theorem dX4_spot_48 : decode cX4_spot 48 = .ok (.iconst 0, 1) := by decide +kernel
theorem dX4_spot_49 : decode cX4_spot 49 = .ok (.iload_n 1, 1) := by decide +kernel
theorem dX4_spot_50 : decode cX4_spot 50 = .ok (.invokevirtual 49, 3) := by decide +kernel
theorem dX4_spot_53 : decode cX4_spot 53 = .ok (.ireturn, 1) := by decide +kernel
theorem dX4_spot_54 : decode cX4_spot 54 = .ok (.aload_n 0, 1) := by decide +kernel
theorem dX4_spot_55 : decode cX4_spot 55 = .ok (.getfield 12, 3) := by decide +kernel
theorem dX4_spot_58 : decode cX4_spot 58 = .ok (.bipush 6, 2) := by decide +kernel
theorem dX4_spot_60 : decode cX4_spot 60 = .ok (.iload_n 1, 1) := by decide +kernel
theorem dX4_spot_61 : decode cX4_spot 61 = .ok (.invokevirtual 49, 3) := by decide +kernel
theorem dX4_spot_64 : decode cX4_spot 64 = .ok (.ireturn, 1) := by decide +kernel
theorem dX4_spot_65 : decode cX4_spot 65 = .ok (.aload_n 0, 1) := by decide +kernel
theorem dX4_spot_66 : decode cX4_spot 66 = .ok (.getfield 12, 3) := by decide +kernel
theorem dX4_spot_69 : decode cX4_spot 69 = .ok (.bipush 12, 2) := by decide +kernel
theorem dX4_spot_71 : decode cX4_spot 71 = .ok (.iload_n 1, 1) := by decide +kernel
theorem dX4_spot_72 : decode cX4_spot 72 = .ok (.invokevirtual 49, 3) := by decide +kernel
theorem dX4_spot_75 : decode cX4_spot 75 = .ok (.ireturn, 1) := by decide +kernel
theorem dX4_spot_76 : decode cX4_spot 76 = .ok (.aload_n 0, 1) := by decide +kernel
theorem dX4_spot_77 : decode cX4_spot 77 = .ok (.getfield 12, 3) := by decide +kernel
theorem dX4_spot_80 : decode cX4_spot 80 = .ok (.bipush 18, 2) := by decide +kernel
theorem dX4_spot_82 : decode cX4_spot 82 = .ok (.iload_n 1, 1) := by decide +kernel
theorem dX4_spot_83 : decode cX4_spot 83 = .ok (.invokevirtual 49, 3) := by decide +kernel
theorem dX4_spot_86 : decode cX4_spot 86 = .ok (.ireturn, 1) := by decide +kernel
theorem dX4_spot_87 : decode cX4_spot 87 = .ok (.aload_n 0, 1) := by decide +kernel
theorem dX4_spot_88 : decode cX4_spot 88 = .ok (.getfield 12, 3) := by decide +kernel
theorem dX4_spot_91 : decode cX4_spot 91 = .ok (.iload_n 1, 1) := by decide +kernel
theorem dX4_spot_92 : decode cX4_spot 92 = .ok (.invokevirtual 149, 3) := by decide +kernel
theorem dX4_spot_95 : decode cX4_spot 95 = .ok (.ireturn, 1) := by decide +kernel
theorem dX4_spot_96 : decode cX4_spot 96 = .ok (.aload_n 0, 1) := by decide +kernel
theorem dX4_spot_97 : decode cX4_spot 97 = .ok (.getfield 12, 3) := by decide +kernel
theorem dX4_spot_100 : decode cX4_spot 100 = .ok (.bipush 24, 2) := by decide +kernel
theorem dX4_spot_102 : decode cX4_spot 102 = .ok (.iload_n 1, 1) := by decide +kernel
theorem dX4_spot_103 : decode cX4_spot 103 = .ok (.invokevirtual 49, 3) := by decide +kernel
theorem dX4_spot_106 : decode cX4_spot 106 = .ok (.ireturn, 1) := by decide +kernel
theorem dX4_spot_107 : decode cX4_spot 107 = .ok (.new 117, 3) := by decide +kernel
theorem dX4_spot_110 : decode cX4_spot 110 = .ok (.dup, 1) := by decide +kernel
theorem dX4_spot_111 : decode cX4_spot 111 = .ok (.ldc 152, 2) := by decide +kernel
theorem dX4_spot_113 : decode cX4_spot 113 = .ok (.invokespecial 121, 3) := by decide +kernel
theorem dX4_spot_116 : decode cX4_spot 116 = .ok (.athrow, 1) := by decide +kernel
set_option maxRecDepth 20000 in
theorem ggX4_bidder_X4_needPlace : GoodIn wsX4_bidder wsX4_needPlace := goodIn_ca (goodIn_r _ [7, 8, 9] (by decide +kernel) (by decide +kernel)) (goodIn_sub (fun _ h => List.mem_cons_of_mem _ (List.mem_append_right _ h)) (by decide +kernel))
set_option maxRecDepth 20000 in
theorem gX4_bidder_X4_needPlace : GoodIn wsX4_bidder (va_wsS RX4 37 yX4_needPlace wsX4_needPlace) := goodIn_app (goodIn_of _ (by decide +kernel)) ggX4_bidder_X4_needPlace
set_option maxRecDepth 20000 in
theorem ggX4_bidder_X2_get : GoodIn wsX4_bidder wsX2_get := goodIn_r _ [14, 15, 40] (by decide +kernel) (by decide +kernel)
set_option maxRecDepth 20000 in
theorem gX4_bidder_X2_get : GoodIn wsX4_bidder (wsV RX4 49 RX2 yX2_get wsX2_get) := goodIn_app (goodIn_of _ (by decide +kernel)) ggX4_bidder_X2_get
set_option maxRecDepth 20000 in
theorem ggX4_bidder_X2_bidsOfBidder : GoodIn wsX4_bidder wsX2_bidsOfBidder := goodIn_r _ [19, 20, 21, 22, 13, 23, 24, 25, 26, 27, 28, 29, 30, 31, 11, 12, 14, 15, 40] (by decide +kernel) (by decide +kernel)
set_option maxRecDepth 20000 in
theorem gX4_bidder_X2_bidsOfBidder : GoodIn wsX4_bidder (wsV RX4 154 RX2 yX2_bidsOfBidder wsX2_bidsOfBidder) := goodIn_app (goodIn_of _ (by decide +kernel)) ggX4_bidder_X2_bidsOfBidder
set_option maxRecDepth 20000 in
theorem ggX4_bidder_X2_spotOfOwner : GoodIn wsX4_bidder wsX2_spotOfOwner := goodIn_r _ [35, 31, 11, 12, 13, 14, 15, 40] (by decide +kernel) (by decide +kernel)
set_option maxRecDepth 20000 in
theorem gX4_bidder_X2_spotOfOwner : GoodIn wsX4_bidder (wsV RX4 157 RX2 yX2_spotOfOwner wsX2_spotOfOwner) := goodIn_app (goodIn_of _ (by decide +kernel)) ggX4_bidder_X2_spotOfOwner
theorem dX4_bidder_0 : decode cX4_bidder 0 = .ok (.iload_n 1, 1) := by decide +kernel
theorem dX4_bidder_1 : decode cX4_bidder 1 = .ok (.bipush 6, 2) := by decide +kernel
theorem dX4_bidder_3 : decode cX4_bidder 3 = .ok (.invokestatic 37, 3) := by decide +kernel
theorem dX4_bidder_6 : decode cX4_bidder 6 = .ok (.iload_n 2, 1) := by decide +kernel
theorem dX4_bidder_7 : decode cX4_bidder 7 = .ok (.tableswitch 99 0 5 #[37, 48, 59, 68, 77, 88], 37) := by decide +kernel
theorem dX4_bidder_44 : decode cX4_bidder 44 = .ok (.aload_n 0, 1) := by decide +kernel
theorem dX4_bidder_45 : decode cX4_bidder 45 = .ok (.getfield 12, 3) := by decide +kernel
theorem dX4_bidder_48 : decode cX4_bidder 48 = .ok (.bipush 30, 2) := by decide +kernel
theorem dX4_bidder_50 : decode cX4_bidder 50 = .ok (.iload_n 1, 1) := by decide +kernel
theorem dX4_bidder_51 : decode cX4_bidder 51 = .ok (.invokevirtual 49, 3) := by decide +kernel
theorem dX4_bidder_54 : decode cX4_bidder 54 = .ok (.ireturn, 1) := by decide +kernel
theorem dX4_bidder_55 : decode cX4_bidder 55 = .ok (.aload_n 0, 1) := by decide +kernel
theorem dX4_bidder_56 : decode cX4_bidder 56 = .ok (.getfield 12, 3) := by decide +kernel
theorem dX4_bidder_59 : decode cX4_bidder 59 = .ok (.bipush 36, 2) := by decide +kernel
theorem dX4_bidder_61 : decode cX4_bidder 61 = .ok (.iload_n 1, 1) := by decide +kernel
theorem dX4_bidder_62 : decode cX4_bidder 62 = .ok (.invokevirtual 49, 3) := by decide +kernel
theorem dX4_bidder_65 : decode cX4_bidder 65 = .ok (.ireturn, 1) := by decide +kernel
theorem dX4_bidder_66 : decode cX4_bidder 66 = .ok (.aload_n 0, 1) := by decide +kernel
theorem dX4_bidder_67 : decode cX4_bidder 67 = .ok (.getfield 12, 3) := by decide +kernel
theorem dX4_bidder_70 : decode cX4_bidder 70 = .ok (.iload_n 1, 1) := by decide +kernel
theorem dX4_bidder_71 : decode cX4_bidder 71 = .ok (.invokevirtual 154, 3) := by decide +kernel
theorem dX4_bidder_74 : decode cX4_bidder 74 = .ok (.ireturn, 1) := by decide +kernel
theorem dX4_bidder_75 : decode cX4_bidder 75 = .ok (.aload_n 0, 1) := by decide +kernel
theorem dX4_bidder_76 : decode cX4_bidder 76 = .ok (.getfield 12, 3) := by decide +kernel
theorem dX4_bidder_79 : decode cX4_bidder 79 = .ok (.iload_n 1, 1) := by decide +kernel
theorem dX4_bidder_80 : decode cX4_bidder 80 = .ok (.invokevirtual 157, 3) := by decide +kernel
theorem dX4_bidder_83 : decode cX4_bidder 83 = .ok (.ireturn, 1) := by decide +kernel
theorem dX4_bidder_84 : decode cX4_bidder 84 = .ok (.aload_n 0, 1) := by decide +kernel
theorem dX4_bidder_85 : decode cX4_bidder 85 = .ok (.getfield 12, 3) := by decide +kernel
theorem dX4_bidder_88 : decode cX4_bidder 88 = .ok (.bipush 42, 2) := by decide +kernel
theorem dX4_bidder_90 : decode cX4_bidder 90 = .ok (.iload_n 1, 1) := by decide +kernel
theorem dX4_bidder_91 : decode cX4_bidder 91 = .ok (.invokevirtual 49, 3) := by decide +kernel
theorem dX4_bidder_94 : decode cX4_bidder 94 = .ok (.ireturn, 1) := by decide +kernel
theorem dX4_bidder_95 : decode cX4_bidder 95 = .ok (.aload_n 0, 1) := by decide +kernel
theorem dX4_bidder_96 : decode cX4_bidder 96 = .ok (.getfield 12, 3) := by decide +kernel
theorem dX4_bidder_99 : decode cX4_bidder 99 = .ok (.bipush 48, 2) := by decide +kernel
theorem dX4_bidder_101 : decode cX4_bidder 101 = .ok (.iload_n 1, 1) := by decide +kernel
theorem dX4_bidder_102 : decode cX4_bidder 102 = .ok (.invokevirtual 49, 3) := by decide +kernel
theorem dX4_bidder_105 : decode cX4_bidder 105 = .ok (.ireturn, 1) := by decide +kernel
theorem dX4_bidder_106 : decode cX4_bidder 106 = .ok (.new 117, 3) := by decide +kernel
theorem dX4_bidder_109 : decode cX4_bidder 109 = .ok (.dup, 1) := by decide +kernel
theorem dX4_bidder_110 : decode cX4_bidder 110 = .ok (.ldc 160, 2) := by decide +kernel
theorem dX4_bidder_112 : decode cX4_bidder 112 = .ok (.invokespecial 121, 3) := by decide +kernel
theorem dX4_bidder_115 : decode cX4_bidder 115 = .ok (.athrow, 1) := by decide +kernel
set_option maxRecDepth 20000 in
theorem ggX4_sealed_X4_needPlace : GoodIn wsX4_sealed wsX4_needPlace := goodIn_ca (goodIn_r _ [5, 6, 7] (by decide +kernel) (by decide +kernel)) (goodIn_sub (fun _ h => List.mem_cons_of_mem _ (List.mem_append_left _ (List.mem_append_right _ h))) (by decide +kernel))
set_option maxRecDepth 20000 in
theorem gX4_sealed_X4_needPlace : GoodIn wsX4_sealed (va_wsS RX4 37 yX4_needPlace wsX4_needPlace) := goodIn_app (goodIn_of _ (by decide +kernel)) ggX4_sealed_X4_needPlace
set_option maxRecDepth 20000 in
theorem ggX4_sealed_X4_needRange : GoodIn wsX4_sealed wsX4_needRange := goodIn_ca (goodIn_r _ [10, 11, 12] (by decide +kernel) (by decide +kernel)) (goodIn_sub (fun _ h => List.mem_cons_of_mem _ (List.mem_append_right _ h)) (by decide +kernel))
set_option maxRecDepth 20000 in
theorem gX4_sealed_X4_needRange : GoodIn wsX4_sealed (va_wsS RX4 41 yX4_needRange wsX4_needRange) := goodIn_app (goodIn_of _ (by decide +kernel)) ggX4_sealed_X4_needRange
set_option maxRecDepth 20000 in
theorem ggX4_sealed_X2_whyNotWithdrawn : GoodIn wsX4_sealed wsX2_whyNotWithdrawn := goodIn_r _ [17, 18, 19, 20, 16, 21, 22, 23, 24, 25, 26, 27, 28, 29, 30, 31, 32, 33, 34, 35, 36, 37, 38, 39, 40, 41, 42, 43, 44, 45, 58] (by decide +kernel) (by decide +kernel)
set_option maxRecDepth 20000 in
theorem gX4_sealed_X2_whyNotWithdrawn : GoodIn wsX4_sealed (wsV RX4 76 RX2 yX2_whyNotWithdrawn wsX2_whyNotWithdrawn) := goodIn_app (goodIn_of _ (by decide +kernel)) ggX4_sealed_X2_whyNotWithdrawn
set_option maxRecDepth 20000 in
theorem ggX4_sealed_X2_hasBid : GoodIn wsX4_sealed wsX2_hasBid := goodIn_r _ [34, 35, 36, 37, 16, 38, 39, 40, 41, 26, 27, 28, 29, 30, 58] (by decide +kernel) (by decide +kernel)
set_option maxRecDepth 20000 in
theorem gX4_sealed_X2_hasBid : GoodIn wsX4_sealed (wsV RX4 162 RX2 yX2_hasBid wsX2_hasBid) := goodIn_app (goodIn_of _ (by decide +kernel)) ggX4_sealed_X2_hasBid
set_option maxRecDepth 20000 in
theorem ggX4_sealed_X4_numberOfBid : GoodIn wsX4_sealed wsX4_numberOfBid := goodIn_r _ [50, 1, 51, 36, 37, 16, 38, 39, 40, 41, 26, 27, 28, 29, 30, 52, 19, 20, 21, 22, 23, 24, 25, 53, 43, 44, 45, 35, 54, 55, 56, 57, 58] (by decide +kernel) (by decide +kernel)
set_option maxRecDepth 20000 in
theorem gX4_sealed_X4_numberOfBid : GoodIn wsX4_sealed (wsV RX4 165 RX4 yX4_numberOfBid wsX4_numberOfBid) := goodIn_app (goodIn_of _ (by decide +kernel)) ggX4_sealed_X4_numberOfBid
theorem dX4_sealed_0 : decode cX4_sealed 0 = .ok (.iload_n 1, 1) := by decide +kernel
theorem dX4_sealed_1 : decode cX4_sealed 1 = .ok (.bipush 6, 2) := by decide +kernel
theorem dX4_sealed_3 : decode cX4_sealed 3 = .ok (.invokestatic 37, 3) := by decide +kernel
theorem dX4_sealed_6 : decode cX4_sealed 6 = .ok (.iload_n 2, 1) := by decide +kernel
theorem dX4_sealed_7 : decode cX4_sealed 7 = .ok (.bipush 6, 2) := by decide +kernel
theorem dX4_sealed_9 : decode cX4_sealed 9 = .ok (.invokestatic 37, 3) := by decide +kernel
theorem dX4_sealed_12 : decode cX4_sealed 12 = .ok (.iload_n 3, 1) := by decide +kernel
theorem dX4_sealed_13 : decode cX4_sealed 13 = .ok (.iconst 0, 1) := by decide +kernel
theorem dX4_sealed_14 : decode cX4_sealed 14 = .ok (.iconst 4, 1) := by decide +kernel
theorem dX4_sealed_15 : decode cX4_sealed 15 = .ok (.invokestatic 41, 3) := by decide +kernel
theorem dX4_sealed_18 : decode cX4_sealed 18 = .ok (.iload_n 3, 1) := by decide +kernel
theorem dX4_sealed_19 : decode cX4_sealed 19 = .ok (.iconst 4, 1) := by decide +kernel
theorem dX4_sealed_20 : decode cX4_sealed 20 = .ok (.if_icmp .ne 13, 3) := by decide +kernel
theorem dX4_sealed_23 : decode cX4_sealed 23 = .ok (.aload_n 0, 1) := by decide +kernel
theorem dX4_sealed_24 : decode cX4_sealed 24 = .ok (.getfield 12, 3) := by decide +kernel
theorem dX4_sealed_27 : decode cX4_sealed 27 = .ok (.iload_n 1, 1) := by decide +kernel
theorem dX4_sealed_28 : decode cX4_sealed 28 = .ok (.iload_n 2, 1) := by decide +kernel
theorem dX4_sealed_29 : decode cX4_sealed 29 = .ok (.invokevirtual 76, 3) := by decide +kernel
theorem dX4_sealed_32 : decode cX4_sealed 32 = .ok (.ireturn, 1) := by decide +kernel
theorem dX4_sealed_33 : decode cX4_sealed 33 = .ok (.aload_n 0, 1) := by decide +kernel
theorem dX4_sealed_34 : decode cX4_sealed 34 = .ok (.getfield 12, 3) := by decide +kernel
theorem dX4_sealed_37 : decode cX4_sealed 37 = .ok (.iload_n 1, 1) := by decide +kernel
theorem dX4_sealed_38 : decode cX4_sealed 38 = .ok (.iload_n 2, 1) := by decide +kernel
theorem dX4_sealed_39 : decode cX4_sealed 39 = .ok (.invokevirtual 162, 3) := by decide +kernel
theorem dX4_sealed_42 : decode cX4_sealed 42 = .ok (.ifCond .eq 13, 3) := by decide +kernel
theorem dX4_sealed_45 : decode cX4_sealed 45 = .ok (.aload_n 0, 1) := by decide +kernel
theorem dX4_sealed_46 : decode cX4_sealed 46 = .ok (.iload_n 1, 1) := by decide +kernel
theorem dX4_sealed_47 : decode cX4_sealed 47 = .ok (.iload_n 2, 1) := by decide +kernel
theorem dX4_sealed_48 : decode cX4_sealed 48 = .ok (.iload_n 3, 1) := by decide +kernel
theorem dX4_sealed_49 : decode cX4_sealed 49 = .ok (.invokevirtual 165, 3) := by decide +kernel
theorem dX4_sealed_52 : decode cX4_sealed 52 = .ok (.goto 4, 3) := by decide +kernel
theorem dX4_sealed_55 : decode cX4_sealed 55 = .ok (.iconst (-1), 1) := by decide +kernel
theorem dX4_sealed_56 : decode cX4_sealed 56 = .ok (.ireturn, 1) := by decide +kernel
set_option maxRecDepth 20000 in
theorem ggX4_count_X2_get_ : GoodIn wsX4_count wsX2_get_ := goodIn_r _ [9, 10, 11, 12, 8, 13, 14, 53] (by decide +kernel) (by decide +kernel)
set_option maxRecDepth 20000 in
theorem gX4_count_X2_get_ : GoodIn wsX4_count (wsV RX4 56 RX2 yX2_get_ wsX2_get_) := goodIn_app (goodIn_of _ (by decide +kernel)) ggX4_count_X2_get_
set_option maxRecDepth 20000 in
theorem ggX4_count_X2_isOpened : GoodIn wsX4_count wsX2_isOpened := goodIn_r _ [18, 19, 6, 7, 8, 9, 10, 11, 12, 13, 14, 53] (by decide +kernel) (by decide +kernel)
set_option maxRecDepth 20000 in
theorem gX4_count_X2_isOpened : GoodIn wsX4_count (wsV RX4 85 RX2 yX2_isOpened wsX2_isOpened) := goodIn_app (goodIn_of _ (by decide +kernel)) ggX4_count_X2_isOpened
set_option maxRecDepth 20000 in
theorem ggX4_count_X2_bidsInAll : GoodIn wsX4_count wsX2_bidsInAll := goodIn_r _ [23, 24, 25, 26, 8, 27, 28, 29, 30, 31, 32, 33, 34, 35, 36, 37, 38, 10, 11, 12, 13, 14, 53] (by decide +kernel) (by decide +kernel)
set_option maxRecDepth 20000 in
theorem gX4_count_X2_bidsInAll : GoodIn wsX4_count (wsV RX4 168 RX2 yX2_bidsInAll wsX2_bidsInAll) := goodIn_app (goodIn_of _ (by decide +kernel)) ggX4_count_X2_bidsInAll
set_option maxRecDepth 20000 in
theorem ggX4_count_X2_sum : GoodIn wsX4_count wsX2_sum := goodIn_r _ [42, 10, 11, 12, 8, 13, 14, 53] (by decide +kernel) (by decide +kernel)
set_option maxRecDepth 20000 in
theorem gX4_count_X2_sum : GoodIn wsX4_count (wsV RX4 171 RX2 yX2_sum wsX2_sum) := goodIn_app (goodIn_of _ (by decide +kernel)) ggX4_count_X2_sum
set_option maxRecDepth 20000 in
theorem ggX4_count_X0_savedStates : GoodIn wsX4_count wsX0_savedStates := goodIn_r _ [47, 48, 54, 55, 56, 57] (by decide +kernel) (by decide +kernel)
set_option maxRecDepth 20000 in
theorem gX4_count_X0_savedStates : GoodIn wsX4_count (wsV RX4 143 RX0 yX0_savedStates wsX0_savedStates) := goodIn_app (goodIn_of _ (by decide +kernel)) ggX4_count_X0_savedStates
theorem dX4_count_0 : decode cX4_count 0 = .ok (.iload_n 1, 1) := by decide +kernel
theorem dX4_count_1 : decode cX4_count 1 = .ok (.tableswitch 244 0 14 #[75, 86, 97, 113, 121, 132, 144, 155, 167, 179, 190, 202, 214, 225, 236], 75) := by decide +kernel
theorem dX4_count_76 : decode cX4_count 76 = .ok (.aload_n 0, 1) := by decide +kernel
theorem dX4_count_77 : decode cX4_count 77 = .ok (.getfield 12, 3) := by decide +kernel
theorem dX4_count_80 : decode cX4_count 80 = .ok (.sipush 167, 3) := by decide +kernel
theorem dX4_count_83 : decode cX4_count 83 = .ok (.invokevirtual 56, 3) := by decide +kernel
theorem dX4_count_86 : decode cX4_count 86 = .ok (.ireturn, 1) := by decide +kernel
theorem dX4_count_87 : decode cX4_count 87 = .ok (.aload_n 0, 1) := by decide +kernel
theorem dX4_count_88 : decode cX4_count 88 = .ok (.getfield 12, 3) := by decide +kernel
theorem dX4_count_91 : decode cX4_count 91 = .ok (.sipush 168, 3) := by decide +kernel
theorem dX4_count_94 : decode cX4_count 94 = .ok (.invokevirtual 56, 3) := by decide +kernel
theorem dX4_count_97 : decode cX4_count 97 = .ok (.ireturn, 1) := by decide +kernel
theorem dX4_count_98 : decode cX4_count 98 = .ok (.aload_n 0, 1) := by decide +kernel
theorem dX4_count_99 : decode cX4_count 99 = .ok (.getfield 12, 3) := by decide +kernel
theorem dX4_count_102 : decode cX4_count 102 = .ok (.invokevirtual 85, 3) := by decide +kernel
theorem dX4_count_105 : decode cX4_count 105 = .ok (.ifCond .eq 7, 3) := by decide +kernel
theorem dX4_count_108 : decode cX4_count 108 = .ok (.iconst 1, 1) := by decide +kernel
theorem dX4_count_109 : decode cX4_count 109 = .ok (.goto 4, 3) := by decide +kernel
theorem dX4_count_112 : decode cX4_count 112 = .ok (.iconst 0, 1) := by decide +kernel
theorem dX4_count_113 : decode cX4_count 113 = .ok (.ireturn, 1) := by decide +kernel
theorem dX4_count_114 : decode cX4_count 114 = .ok (.aload_n 0, 1) := by decide +kernel
theorem dX4_count_115 : decode cX4_count 115 = .ok (.getfield 12, 3) := by decide +kernel
theorem dX4_count_118 : decode cX4_count 118 = .ok (.invokevirtual 168, 3) := by decide +kernel
theorem dX4_count_121 : decode cX4_count 121 = .ok (.ireturn, 1) := by decide +kernel
theorem dX4_count_122 : decode cX4_count 122 = .ok (.aload_n 0, 1) := by decide +kernel
theorem dX4_count_123 : decode cX4_count 123 = .ok (.getfield 12, 3) := by decide +kernel
theorem dX4_count_126 : decode cX4_count 126 = .ok (.sipush 165, 3) := by decide +kernel
theorem dX4_count_129 : decode cX4_count 129 = .ok (.invokevirtual 56, 3) := by decide +kernel
theorem dX4_count_132 : decode cX4_count 132 = .ok (.ireturn, 1) := by decide +kernel
theorem dX4_count_133 : decode cX4_count 133 = .ok (.aload_n 0, 1) := by decide +kernel
theorem dX4_count_134 : decode cX4_count 134 = .ok (.getfield 12, 3) := by decide +kernel
theorem dX4_count_137 : decode cX4_count 137 = .ok (.bipush 30, 2) := by decide +kernel
theorem dX4_count_139 : decode cX4_count 139 = .ok (.bipush 6, 2) := by decide +kernel
theorem dX4_count_141 : decode cX4_count 141 = .ok (.invokevirtual 171, 3) := by decide +kernel
theorem dX4_count_144 : decode cX4_count 144 = .ok (.ireturn, 1) := by decide +kernel
theorem dX4_count_145 : decode cX4_count 145 = .ok (.aload_n 0, 1) := by decide +kernel
theorem dX4_count_146 : decode cX4_count 146 = .ok (.getfield 12, 3) := by decide +kernel
theorem dX4_count_149 : decode cX4_count 149 = .ok (.sipush 166, 3) := by decide +kernel
theorem dX4_count_152 : decode cX4_count 152 = .ok (.invokevirtual 56, 3) := by decide +kernel
theorem dX4_count_155 : decode cX4_count 155 = .ok (.ireturn, 1) := by decide +kernel
theorem dX4_count_156 : decode cX4_count 156 = .ok (.aload_n 0, 1) := by decide +kernel
theorem dX4_count_157 : decode cX4_count 157 = .ok (.getfield 12, 3) := by decide +kernel
theorem dX4_count_160 : decode cX4_count 160 = .ok (.bipush 48, 2) := by decide +kernel
theorem dX4_count_162 : decode cX4_count 162 = .ok (.bipush 6, 2) := by decide +kernel
theorem dX4_count_164 : decode cX4_count 164 = .ok (.invokevirtual 171, 3) := by decide +kernel
theorem dX4_count_167 : decode cX4_count 167 = .ok (.ireturn, 1) := by decide +kernel
theorem dX4_count_168 : decode cX4_count 168 = .ok (.aload_n 0, 1) := by decide +kernel
theorem dX4_count_169 : decode cX4_count 169 = .ok (.getfield 12, 3) := by decide +kernel
theorem dX4_count_172 : decode cX4_count 172 = .ok (.bipush 42, 2) := by decide +kernel
theorem dX4_count_174 : decode cX4_count 174 = .ok (.bipush 6, 2) := by decide +kernel
theorem dX4_count_176 : decode cX4_count 176 = .ok (.invokevirtual 171, 3) := by decide +kernel
theorem dX4_count_179 : decode cX4_count 179 = .ok (.ireturn, 1) := by decide +kernel
theorem dX4_count_180 : decode cX4_count 180 = .ok (.aload_n 0, 1) := by decide +kernel
theorem dX4_count_181 : decode cX4_count 181 = .ok (.getfield 12, 3) := by decide +kernel
theorem dX4_count_184 : decode cX4_count 184 = .ok (.sipush 173, 3) := by decide +kernel
theorem dX4_count_187 : decode cX4_count 187 = .ok (.invokevirtual 56, 3) := by decide +kernel
theorem dX4_count_190 : decode cX4_count 190 = .ok (.ireturn, 1) := by decide +kernel
theorem dX4_count_191 : decode cX4_count 191 = .ok (.aload_n 0, 1) := by decide +kernel
theorem dX4_count_192 : decode cX4_count 192 = .ok (.getfield 12, 3) := by decide +kernel
theorem dX4_count_195 : decode cX4_count 195 = .ok (.bipush 6, 2) := by decide +kernel
theorem dX4_count_197 : decode cX4_count 197 = .ok (.bipush 6, 2) := by decide +kernel
theorem dX4_count_199 : decode cX4_count 199 = .ok (.invokevirtual 171, 3) := by decide +kernel
theorem dX4_count_202 : decode cX4_count 202 = .ok (.ireturn, 1) := by decide +kernel
theorem dX4_count_203 : decode cX4_count 203 = .ok (.aload_n 0, 1) := by decide +kernel
theorem dX4_count_204 : decode cX4_count 204 = .ok (.getfield 12, 3) := by decide +kernel
theorem dX4_count_207 : decode cX4_count 207 = .ok (.bipush 36, 2) := by decide +kernel
theorem dX4_count_209 : decode cX4_count 209 = .ok (.bipush 6, 2) := by decide +kernel
theorem dX4_count_211 : decode cX4_count 211 = .ok (.invokevirtual 171, 3) := by decide +kernel
theorem dX4_count_214 : decode cX4_count 214 = .ok (.ireturn, 1) := by decide +kernel
theorem dX4_count_215 : decode cX4_count 215 = .ok (.aload_n 0, 1) := by decide +kernel
theorem dX4_count_216 : decode cX4_count 216 = .ok (.getfield 12, 3) := by decide +kernel
theorem dX4_count_219 : decode cX4_count 219 = .ok (.sipush 171, 3) := by decide +kernel
theorem dX4_count_222 : decode cX4_count 222 = .ok (.invokevirtual 56, 3) := by decide +kernel
theorem dX4_count_225 : decode cX4_count 225 = .ok (.ireturn, 1) := by decide +kernel
theorem dX4_count_226 : decode cX4_count 226 = .ok (.aload_n 0, 1) := by decide +kernel
theorem dX4_count_227 : decode cX4_count 227 = .ok (.getfield 12, 3) := by decide +kernel
theorem dX4_count_230 : decode cX4_count 230 = .ok (.sipush 172, 3) := by decide +kernel
theorem dX4_count_233 : decode cX4_count 233 = .ok (.invokevirtual 56, 3) := by decide +kernel
theorem dX4_count_236 : decode cX4_count 236 = .ok (.ireturn, 1) := by decide +kernel
theorem dX4_count_237 : decode cX4_count 237 = .ok (.aload_n 0, 1) := by decide +kernel
theorem dX4_count_238 : decode cX4_count 238 = .ok (.getfield 26, 3) := by decide +kernel
theorem dX4_count_241 : decode cX4_count 241 = .ok (.invokevirtual 143, 3) := by decide +kernel
theorem dX4_count_244 : decode cX4_count 244 = .ok (.ireturn, 1) := by decide +kernel
theorem dX4_count_245 : decode cX4_count 245 = .ok (.new 117, 3) := by decide +kernel
theorem dX4_count_248 : decode cX4_count 248 = .ok (.dup, 1) := by decide +kernel
theorem dX4_count_249 : decode cX4_count 249 = .ok (.ldc 174, 2) := by decide +kernel
theorem dX4_count_251 : decode cX4_count 251 = .ok (.invokespecial 121, 3) := by decide +kernel
theorem dX4_count_254 : decode cX4_count 254 = .ok (.athrow, 1) := by decide +kernel
set_option maxRecDepth 20000 in
theorem ggX4_setting_X4_needPlace : GoodIn wsX4_setting wsX4_needPlace := goodIn_ca (goodIn_r _ [5, 6, 7] (by decide +kernel) (by decide +kernel)) (goodIn_sub (fun _ h => List.mem_cons_of_mem _ (List.mem_append_right _ h)) (by decide +kernel))
set_option maxRecDepth 20000 in
theorem gX4_setting_X4_needPlace : GoodIn wsX4_setting (va_wsS RX4 37 yX4_needPlace wsX4_needPlace) := goodIn_app (goodIn_of _ (by decide +kernel)) ggX4_setting_X4_needPlace
set_option maxRecDepth 20000 in
theorem ggX4_setting_X2_get : GoodIn wsX4_setting wsX2_get := goodIn_r _ [12, 13, 18] (by decide +kernel) (by decide +kernel)
set_option maxRecDepth 20000 in
theorem gX4_setting_X2_get : GoodIn wsX4_setting (wsV RX4 49 RX2 yX2_get wsX2_get) := goodIn_app (goodIn_of _ (by decide +kernel)) ggX4_setting_X2_get
theorem dX4_setting_0 : decode cX4_setting 0 = .ok (.iload_n 1, 1) := by decide +kernel
theorem dX4_setting_1 : decode cX4_setting 1 = .ok (.iconst 3, 1) := by decide +kernel
theorem dX4_setting_2 : decode cX4_setting 2 = .ok (.invokestatic 37, 3) := by decide +kernel
theorem dX4_setting_5 : decode cX4_setting 5 = .ok (.aload_n 0, 1) := by decide +kernel
theorem dX4_setting_6 : decode cX4_setting 6 = .ok (.getfield 12, 3) := by decide +kernel
theorem dX4_setting_9 : decode cX4_setting 9 = .ok (.sipush 162, 3) := by decide +kernel
theorem dX4_setting_12 : decode cX4_setting 12 = .ok (.iload_n 1, 1) := by decide +kernel
theorem dX4_setting_13 : decode cX4_setting 13 = .ok (.invokevirtual 49, 3) := by decide +kernel
theorem dX4_setting_16 : decode cX4_setting 16 = .ok (.ireturn, 1) := by decide +kernel
set_option maxRecDepth 20000 in
theorem ggX4_why_X4_needPlace : GoodIn wsX4_why wsX4_needPlace := goodIn_ca (goodIn_r _ [5, 6, 7] (by decide +kernel) (by decide +kernel)) (goodIn_sub (fun _ h => List.mem_cons_of_mem _ (List.mem_append_left _ (List.mem_append_right _ h))) (by decide +kernel))
set_option maxRecDepth 20000 in
theorem gX4_why_X4_needPlace : GoodIn wsX4_why (va_wsS RX4 37 yX4_needPlace wsX4_needPlace) := goodIn_app (goodIn_of _ (by decide +kernel)) ggX4_why_X4_needPlace
set_option maxRecDepth 20000 in
theorem ggX4_why_X4_needRange : GoodIn wsX4_why wsX4_needRange := goodIn_ca (goodIn_r _ [10, 11, 12] (by decide +kernel) (by decide +kernel)) (goodIn_sub (fun _ h => List.mem_cons_of_mem _ (List.mem_append_right _ h)) (by decide +kernel))
set_option maxRecDepth 20000 in
theorem gX4_why_X4_needRange : GoodIn wsX4_why (va_wsS RX4 41 yX4_needRange wsX4_needRange) := goodIn_app (goodIn_of _ (by decide +kernel)) ggX4_why_X4_needRange
set_option maxRecDepth 20000 in
theorem ggX4_why_X2_whyNotSealed : GoodIn wsX4_why wsX2_whyNotSealed := goodIn_r _ [17, 18, 19, 20, 16, 21, 22, 23, 24, 25, 26, 27, 28, 29, 30, 31, 32, 33, 34, 35, 36, 37, 38, 39, 40, 41, 46] (by decide +kernel) (by decide +kernel)
set_option maxRecDepth 20000 in
theorem gX4_why_X2_whyNotSealed : GoodIn wsX4_why (wsV RX4 69 RX2 yX2_whyNotSealed wsX2_whyNotSealed) := goodIn_app (goodIn_of _ (by decide +kernel)) ggX4_why_X2_whyNotSealed
theorem dX4_why_0 : decode cX4_why 0 = .ok (.iload_n 1, 1) := by decide +kernel
theorem dX4_why_1 : decode cX4_why 1 = .ok (.bipush 6, 2) := by decide +kernel
theorem dX4_why_3 : decode cX4_why 3 = .ok (.invokestatic 37, 3) := by decide +kernel
theorem dX4_why_6 : decode cX4_why 6 = .ok (.iload_n 2, 1) := by decide +kernel
theorem dX4_why_7 : decode cX4_why 7 = .ok (.bipush 6, 2) := by decide +kernel
theorem dX4_why_9 : decode cX4_why 9 = .ok (.invokestatic 37, 3) := by decide +kernel
theorem dX4_why_12 : decode cX4_why 12 = .ok (.iload_n 3, 1) := by decide +kernel
theorem dX4_why_13 : decode cX4_why 13 = .ok (.iconst 1, 1) := by decide +kernel
theorem dX4_why_14 : decode cX4_why 14 = .ok (.bipush 99, 2) := by decide +kernel
theorem dX4_why_16 : decode cX4_why 16 = .ok (.invokestatic 41, 3) := by decide +kernel
theorem dX4_why_19 : decode cX4_why 19 = .ok (.aload_n 0, 1) := by decide +kernel
theorem dX4_why_20 : decode cX4_why 20 = .ok (.getfield 12, 3) := by decide +kernel
theorem dX4_why_23 : decode cX4_why 23 = .ok (.iload_n 1, 1) := by decide +kernel
theorem dX4_why_24 : decode cX4_why 24 = .ok (.iload_n 2, 1) := by decide +kernel
theorem dX4_why_25 : decode cX4_why 25 = .ok (.iload_n 3, 1) := by decide +kernel
theorem dX4_why_26 : decode cX4_why 26 = .ok (.invokevirtual 69, 3) := by decide +kernel
theorem dX4_why_29 : decode cX4_why 29 = .ok (.ireturn, 1) := by decide +kernel
set_option maxRecDepth 20000 in
theorem ggX4_worth_X4_needRange : GoodIn wsX4_worth wsX4_needRange := goodIn_ca (goodIn_r _ [5, 6, 7] (by decide +kernel) (by decide +kernel)) (goodIn_sub (fun _ h => List.mem_cons_of_mem _ (List.mem_append_right _ h)) (by decide +kernel))
set_option maxRecDepth 20000 in
theorem gX4_worth_X4_needRange : GoodIn wsX4_worth (va_wsS RX4 41 yX4_needRange wsX4_needRange) := goodIn_app (goodIn_of _ (by decide +kernel)) ggX4_worth_X4_needRange
set_option maxRecDepth 20000 in
theorem ggX4_worth_X4_findSharing : GoodIn wsX4_worth wsX4_findSharing := goodIn_r _ [11, 1, 12, 13, 14, 15, 16, 17, 18, 19, 20, 21, 22, 23, 24, 25, 26, 27, 28, 29, 30, 31, 32, 33, 34, 35, 36, 37, 38, 39, 40, 41, 42, 43, 44, 45, 46, 47, 48, 49, 50, 51, 52, 53, 54, 55, 56, 57, 58, 59, 60, 61, 62, 63, 64, 65, 66, 67, 68, 69, 91, 92, 93, 94, 95, 96, 97] (by decide +kernel) (by decide +kernel)
set_option maxRecDepth 20000 in
theorem gX4_worth_X4_findSharing : GoodIn wsX4_worth (wsV RX4 176 RX4 yX4_findSharing wsX4_findSharing) := goodIn_app (goodIn_of _ (by decide +kernel)) ggX4_worth_X4_findSharing
set_option maxRecDepth 20000 in
theorem ggX4_worth_X1_worthByTrying : GoodIn wsX4_worth wsX1_worthByTrying := goodIn_r _ [73, 43, 63, 64, 16, 65, 74, 75, 76, 77, 78, 55, 79, 57, 58, 59, 60, 61, 62, 80, 81, 82, 96, 97] (by decide +kernel) (by decide +kernel)
set_option maxRecDepth 20000 in
theorem gX4_worth_X1_worthByTrying : GoodIn wsX4_worth (wsV RX4 179 RX1 yX1_worthByTrying wsX1_worthByTrying) := goodIn_app (goodIn_of _ (by decide +kernel)) ggX4_worth_X1_worthByTrying
set_option maxRecDepth 20000 in
theorem ggX4_worth_X1_worthWithout : GoodIn wsX4_worth wsX1_worthWithout := goodIn_r _ [86, 87, 88, 89, 16, 90, 63, 64, 65, 66, 67, 68, 69, 48, 80, 81, 82, 96, 97] (by decide +kernel) (by decide +kernel)
set_option maxRecDepth 20000 in
theorem gX4_worth_X1_worthWithout : GoodIn wsX4_worth (wsV RX4 182 RX1 yX1_worthWithout wsX1_worthWithout) := goodIn_app (goodIn_of _ (by decide +kernel)) ggX4_worth_X1_worthWithout
theorem dX4_worth_0 : decode cX4_worth 0 = .ok (.iload_n 1, 1) := by decide +kernel
theorem dX4_worth_1 : decode cX4_worth 1 = .ok (.iconst 0, 1) := by decide +kernel
theorem dX4_worth_2 : decode cX4_worth 2 = .ok (.bipush 6, 2) := by decide +kernel
theorem dX4_worth_4 : decode cX4_worth 4 = .ok (.invokestatic 41, 3) := by decide +kernel
theorem dX4_worth_7 : decode cX4_worth 7 = .ok (.iload_n 2, 1) := by decide +kernel
theorem dX4_worth_8 : decode cX4_worth 8 = .ok (.iconst 0, 1) := by decide +kernel
theorem dX4_worth_9 : decode cX4_worth 9 = .ok (.iconst 1, 1) := by decide +kernel
theorem dX4_worth_10 : decode cX4_worth 10 = .ok (.invokestatic 41, 3) := by decide +kernel
theorem dX4_worth_13 : decode cX4_worth 13 = .ok (.aload_n 0, 1) := by decide +kernel
theorem dX4_worth_14 : decode cX4_worth 14 = .ok (.invokevirtual 176, 3) := by decide +kernel
theorem dX4_worth_17 : decode cX4_worth 17 = .ok (.iload_n 2, 1) := by decide +kernel
theorem dX4_worth_18 : decode cX4_worth 18 = .ok (.ifCond .ne 14, 3) := by decide +kernel
theorem dX4_worth_21 : decode cX4_worth 21 = .ok (.aload_n 0, 1) := by decide +kernel
theorem dX4_worth_22 : decode cX4_worth 22 = .ok (.getfield 19, 3) := by decide +kernel
theorem dX4_worth_25 : decode cX4_worth 25 = .ok (.iload_n 1, 1) := by decide +kernel
theorem dX4_worth_26 : decode cX4_worth 26 = .ok (.invokevirtual 179, 3) := by decide +kernel
theorem dX4_worth_29 : decode cX4_worth 29 = .ok (.goto 11, 3) := by decide +kernel
theorem dX4_worth_32 : decode cX4_worth 32 = .ok (.aload_n 0, 1) := by decide +kernel
theorem dX4_worth_33 : decode cX4_worth 33 = .ok (.getfield 19, 3) := by decide +kernel
theorem dX4_worth_36 : decode cX4_worth 36 = .ok (.iload_n 1, 1) := by decide +kernel
theorem dX4_worth_37 : decode cX4_worth 37 = .ok (.invokevirtual 182, 3) := by decide +kernel
theorem dX4_worth_40 : decode cX4_worth 40 = .ok (.ireturn, 1) := by decide +kernel
set_option maxRecDepth 20000 in
theorem ggX4_ifOpened_X4_needPlace : GoodIn wsX4_ifOpened wsX4_needPlace := goodIn_ca (goodIn_r _ [6, 7, 8] (by decide +kernel) (by decide +kernel)) (goodIn_sub (fun _ h => List.mem_cons_of_mem _ (List.mem_append_left _ (List.mem_append_right _ h))) (by decide +kernel))
set_option maxRecDepth 20000 in
theorem gX4_ifOpened_X4_needPlace : GoodIn wsX4_ifOpened (va_wsS RX4 37 yX4_needPlace wsX4_needPlace) := goodIn_app (goodIn_of _ (by decide +kernel)) ggX4_ifOpened_X4_needPlace
set_option maxRecDepth 20000 in
theorem ggX4_ifOpened_X4_needRange : GoodIn wsX4_ifOpened wsX4_needRange := goodIn_ca (goodIn_r _ [11, 12, 13] (by decide +kernel) (by decide +kernel)) (goodIn_sub (fun _ h => List.mem_cons_of_mem _ (List.mem_append_right _ h)) (by decide +kernel))
set_option maxRecDepth 20000 in
theorem gX4_ifOpened_X4_needRange : GoodIn wsX4_ifOpened (va_wsS RX4 41 yX4_needRange wsX4_needRange) := goodIn_app (goodIn_of _ (by decide +kernel)) ggX4_ifOpened_X4_needRange
set_option maxRecDepth 20000 in
theorem ggX4_ifOpened_X4_findSharing : GoodIn wsX4_ifOpened wsX4_findSharing := goodIn_r _ [17, 1, 2, 18, 19, 20, 21, 22, 23, 24, 25, 26, 27, 28, 29, 30, 31, 32, 33, 34, 35, 36, 37, 38, 39, 40, 41, 42, 43, 44, 45, 46, 47, 48, 49, 50, 51, 52, 53, 54, 55, 56, 57, 58, 59, 60, 61, 62, 63, 64, 65, 66, 67, 68, 69, 70, 71, 72, 73, 74, 95, 96, 97, 98, 99, 100, 101] (by decide +kernel) (by decide +kernel)
set_option maxRecDepth 20000 in
theorem gX4_ifOpened_X4_findSharing : GoodIn wsX4_ifOpened (wsV RX4 176 RX4 yX4_findSharing wsX4_findSharing) := goodIn_app (goodIn_of _ (by decide +kernel)) ggX4_ifOpened_X4_findSharing
set_option maxRecDepth 20000 in
theorem ggX4_ifOpened_X1_ownerOf : GoodIn wsX4_ifOpened wsX1_ownerOf := goodIn_r _ [78, 79, 80, 81, 21, 82, 68, 69, 70, 71, 72, 73, 74, 53, 41, 42, 43, 100, 101] (by decide +kernel) (by decide +kernel)
set_option maxRecDepth 20000 in
theorem gX4_ifOpened_X1_ownerOf : GoodIn wsX4_ifOpened (wsV RX4 185 RX1 yX1_ownerOf wsX1_ownerOf) := goodIn_app (goodIn_of _ (by decide +kernel)) ggX4_ifOpened_X1_ownerOf
set_option maxRecDepth 20000 in
theorem ggX4_ifOpened_X1_priceOf : GoodIn wsX4_ifOpened wsX1_priceOf := goodIn_r _ [86, 48, 87, 76, 77, 21, 78, 79, 80, 81, 82, 68, 69, 70, 71, 72, 73, 74, 53, 41, 42, 43, 88, 89, 90, 91, 92, 93, 94, 65, 66, 67, 40, 32, 33, 26, 34, 35, 100, 101, 99] (by decide +kernel) (by decide +kernel)
set_option maxRecDepth 20000 in
theorem gX4_ifOpened_X1_priceOf : GoodIn wsX4_ifOpened (wsV RX4 188 RX1 yX1_priceOf wsX1_priceOf) := goodIn_app (goodIn_of _ (by decide +kernel)) ggX4_ifOpened_X1_priceOf
theorem dX4_ifOpened_0 : decode cX4_ifOpened 0 = .ok (.iload_n 1, 1) := by decide +kernel
theorem dX4_ifOpened_1 : decode cX4_ifOpened 1 = .ok (.bipush 6, 2) := by decide +kernel
theorem dX4_ifOpened_3 : decode cX4_ifOpened 3 = .ok (.invokestatic 37, 3) := by decide +kernel
theorem dX4_ifOpened_6 : decode cX4_ifOpened 6 = .ok (.iload_n 2, 1) := by decide +kernel
theorem dX4_ifOpened_7 : decode cX4_ifOpened 7 = .ok (.iconst 0, 1) := by decide +kernel
theorem dX4_ifOpened_8 : decode cX4_ifOpened 8 = .ok (.iconst 1, 1) := by decide +kernel
theorem dX4_ifOpened_9 : decode cX4_ifOpened 9 = .ok (.invokestatic 41, 3) := by decide +kernel
theorem dX4_ifOpened_12 : decode cX4_ifOpened 12 = .ok (.aload_n 0, 1) := by decide +kernel
theorem dX4_ifOpened_13 : decode cX4_ifOpened 13 = .ok (.invokevirtual 176, 3) := by decide +kernel
theorem dX4_ifOpened_16 : decode cX4_ifOpened 16 = .ok (.iload_n 2, 1) := by decide +kernel
theorem dX4_ifOpened_17 : decode cX4_ifOpened 17 = .ok (.ifCond .ne 14, 3) := by decide +kernel
theorem dX4_ifOpened_20 : decode cX4_ifOpened 20 = .ok (.aload_n 0, 1) := by decide +kernel
theorem dX4_ifOpened_21 : decode cX4_ifOpened 21 = .ok (.getfield 19, 3) := by decide +kernel
theorem dX4_ifOpened_24 : decode cX4_ifOpened 24 = .ok (.iload_n 1, 1) := by decide +kernel
theorem dX4_ifOpened_25 : decode cX4_ifOpened 25 = .ok (.invokevirtual 185, 3) := by decide +kernel
theorem dX4_ifOpened_28 : decode cX4_ifOpened 28 = .ok (.goto 15, 3) := by decide +kernel
theorem dX4_ifOpened_31 : decode cX4_ifOpened 31 = .ok (.aload_n 0, 1) := by decide +kernel
theorem dX4_ifOpened_32 : decode cX4_ifOpened 32 = .ok (.getfield 19, 3) := by decide +kernel
theorem dX4_ifOpened_35 : decode cX4_ifOpened 35 = .ok (.iload_n 1, 1) := by decide +kernel
theorem dX4_ifOpened_36 : decode cX4_ifOpened 36 = .ok (.aload_n 0, 1) := by decide +kernel
theorem dX4_ifOpened_37 : decode cX4_ifOpened 37 = .ok (.getfield 12, 3) := by decide +kernel
theorem dX4_ifOpened_40 : decode cX4_ifOpened 40 = .ok (.invokevirtual 188, 3) := by decide +kernel
theorem dX4_ifOpened_43 : decode cX4_ifOpened 43 = .ok (.ireturn, 1) := by decide +kernel
set_option maxRecDepth 20000 in
theorem ggX4_ifBid_X4_needPlace : GoodIn wsX4_ifBid wsX4_needPlace := goodIn_ca (goodIn_r _ [6, 7, 8] (by decide +kernel) (by decide +kernel)) (goodIn_sub (fun _ h => List.mem_cons_of_mem _ (List.mem_append_left _ (List.mem_append_right _ h))) (by decide +kernel))
set_option maxRecDepth 20000 in
theorem gX4_ifBid_X4_needPlace : GoodIn wsX4_ifBid (va_wsS RX4 37 yX4_needPlace wsX4_needPlace) := goodIn_app (goodIn_of _ (by decide +kernel)) ggX4_ifBid_X4_needPlace
set_option maxRecDepth 20000 in
theorem ggX4_ifBid_X4_needRange : GoodIn wsX4_ifBid wsX4_needRange := goodIn_ca (goodIn_r _ [11, 12, 13] (by decide +kernel) (by decide +kernel)) (goodIn_sub (fun _ h => List.mem_cons_of_mem _ (List.mem_append_right _ h)) (by decide +kernel))
set_option maxRecDepth 20000 in
theorem gX4_ifBid_X4_needRange : GoodIn wsX4_ifBid (va_wsS RX4 41 yX4_needRange wsX4_needRange) := goodIn_app (goodIn_of _ (by decide +kernel)) ggX4_ifBid_X4_needRange
set_option maxRecDepth 20000 in
theorem ggX4_ifBid_X1_readBids : GoodIn wsX4_ifBid wsX1_readBids := goodIn_r _ [18, 19, 20, 21, 22, 23, 24, 25, 26, 27, 28, 29, 30, 31, 32, 33, 17, 34, 35, 36, 37, 38, 39, 40, 41, 42, 43, 44, 100, 101, 102] (by decide +kernel) (by decide +kernel)
set_option maxRecDepth 20000 in
theorem gX4_ifBid_X1_readBids : GoodIn wsX4_ifBid (wsV RX4 192 RX1 yX1_readBids wsX1_readBids) := goodIn_app (goodIn_of _ (by decide +kernel)) ggX4_ifBid_X1_readBids
set_option maxRecDepth 20000 in
theorem ggX4_ifBid_X1_keyOf : GoodIn wsX4_ifBid wsX1_keyOf := goodIn_r _ [34, 35, 36, 28, 29, 22, 30, 31, 37, 38, 17, 39, 100] (by decide +kernel) (by decide +kernel)
set_option maxRecDepth 20000 in
theorem gX4_ifBid_X1_keyOf : GoodIn wsX4_ifBid (va_wsS RX4 195 yX1_keyOf wsX1_keyOf) := goodIn_app (goodIn_of _ (by decide +kernel)) ggX4_ifBid_X1_keyOf
set_option maxRecDepth 20000 in
theorem ggX4_ifBid_X1_replaceBid : GoodIn wsX4_ifBid wsX1_replaceBid := goodIn_r _ [43, 44, 101, 102] (by decide +kernel) (by decide +kernel)
set_option maxRecDepth 20000 in
theorem gX4_ifBid_X1_replaceBid : GoodIn wsX4_ifBid (wsV RX4 199 RX1 yX1_replaceBid wsX1_replaceBid) := goodIn_app (goodIn_of _ (by decide +kernel)) ggX4_ifBid_X1_replaceBid
set_option maxRecDepth 20000 in
theorem ggX4_ifBid_X1_find : GoodIn wsX4_ifBid wsX1_find := goodIn_r _ [50, 51, 52, 53, 54, 17, 55, 44, 56, 57, 58, 59, 60, 61, 62, 63, 64, 65, 66, 67, 68, 69, 70, 71, 72, 101, 102] (by decide +kernel) (by decide +kernel)
set_option maxRecDepth 20000 in
theorem gX4_ifBid_X1_find : GoodIn wsX4_ifBid (wsV RX4 203 RX1 yX1_find wsX1_find) := goodIn_app (goodIn_of _ (by decide +kernel)) ggX4_ifBid_X1_find
set_option maxRecDepth 20000 in
theorem ggX4_ifBid_X1_spotOf : GoodIn wsX4_ifBid wsX1_spotOf := goodIn_r _ [76, 77, 78, 79, 17, 80, 81, 82, 83, 84, 66, 67, 68, 69, 70, 71, 72, 51, 37, 38, 39, 101, 102] (by decide +kernel) (by decide +kernel)
set_option maxRecDepth 20000 in
theorem gX4_ifBid_X1_spotOf : GoodIn wsX4_ifBid (wsV RX4 207 RX1 yX1_spotOf wsX1_spotOf) := goodIn_app (goodIn_of _ (by decide +kernel)) ggX4_ifBid_X1_spotOf
set_option maxRecDepth 20000 in
theorem ggX4_ifBid_X1_priceOf : GoodIn wsX4_ifBid wsX1_priceOf := goodIn_r _ [88, 44, 77, 78, 79, 17, 80, 81, 82, 83, 84, 66, 67, 68, 69, 70, 71, 72, 51, 37, 38, 39, 89, 90, 91, 92, 93, 94, 95, 63, 64, 65, 36, 28, 29, 22, 30, 31, 101, 102, 100] (by decide +kernel) (by decide +kernel)
set_option maxRecDepth 20000 in
theorem gX4_ifBid_X1_priceOf : GoodIn wsX4_ifBid (wsV RX4 188 RX1 yX1_priceOf wsX1_priceOf) := goodIn_app (goodIn_of _ (by decide +kernel)) ggX4_ifBid_X1_priceOf
theorem dX4_ifBid_0 : decode cX4_ifBid 0 = .ok (.iload_n 1, 1) := by decide +kernel
theorem dX4_ifBid_1 : decode cX4_ifBid 1 = .ok (.bipush 6, 2) := by decide +kernel
theorem dX4_ifBid_3 : decode cX4_ifBid 3 = .ok (.invokestatic 37, 3) := by decide +kernel
theorem dX4_ifBid_6 : decode cX4_ifBid 6 = .ok (.iload_n 2, 1) := by decide +kernel
theorem dX4_ifBid_7 : decode cX4_ifBid 7 = .ok (.bipush 6, 2) := by decide +kernel
theorem dX4_ifBid_9 : decode cX4_ifBid 9 = .ok (.invokestatic 37, 3) := by decide +kernel
theorem dX4_ifBid_12 : decode cX4_ifBid 12 = .ok (.iload_n 3, 1) := by decide +kernel
theorem dX4_ifBid_13 : decode cX4_ifBid 13 = .ok (.iconst 1, 1) := by decide +kernel
theorem dX4_ifBid_14 : decode cX4_ifBid 14 = .ok (.bipush 99, 2) := by decide +kernel
theorem dX4_ifBid_16 : decode cX4_ifBid 16 = .ok (.invokestatic 41, 3) := by decide +kernel
theorem dX4_ifBid_19 : decode cX4_ifBid 19 = .ok (.iload 4, 2) := by decide +kernel
theorem dX4_ifBid_21 : decode cX4_ifBid 21 = .ok (.iconst 0, 1) := by decide +kernel
theorem dX4_ifBid_22 : decode cX4_ifBid 22 = .ok (.iconst 1, 1) := by decide +kernel
theorem dX4_ifBid_23 : decode cX4_ifBid 23 = .ok (.invokestatic 41, 3) := by decide +kernel
theorem dX4_ifBid_26 : decode cX4_ifBid 26 = .ok (.aload_n 0, 1) := by decide +kernel
theorem dX4_ifBid_27 : decode cX4_ifBid 27 = .ok (.getfield 19, 3) := by decide +kernel
theorem dX4_ifBid_30 : decode cX4_ifBid 30 = .ok (.aload_n 0, 1) := by decide +kernel
theorem dX4_ifBid_31 : decode cX4_ifBid 31 = .ok (.getfield 12, 3) := by decide +kernel
theorem dX4_ifBid_34 : decode cX4_ifBid 34 = .ok (.invokevirtual 192, 3) := by decide +kernel
theorem dX4_ifBid_37 : decode cX4_ifBid 37 = .ok (.aload_n 0, 1) := by decide +kernel
theorem dX4_ifBid_38 : decode cX4_ifBid 38 = .ok (.getfield 19, 3) := by decide +kernel
theorem dX4_ifBid_41 : decode cX4_ifBid 41 = .ok (.iload_n 1, 1) := by decide +kernel
theorem dX4_ifBid_42 : decode cX4_ifBid 42 = .ok (.iload_n 2, 1) := by decide +kernel
theorem dX4_ifBid_43 : decode cX4_ifBid 43 = .ok (.aload_n 0, 1) := by decide +kernel
theorem dX4_ifBid_44 : decode cX4_ifBid 44 = .ok (.getfield 12, 3) := by decide +kernel
theorem dX4_ifBid_47 : decode cX4_ifBid 47 = .ok (.iload_n 1, 1) := by decide +kernel
theorem dX4_ifBid_48 : decode cX4_ifBid 48 = .ok (.iload_n 2, 1) := by decide +kernel
theorem dX4_ifBid_49 : decode cX4_ifBid 49 = .ok (.iload_n 3, 1) := by decide +kernel
theorem dX4_ifBid_50 : decode cX4_ifBid 50 = .ok (.invokestatic 195, 3) := by decide +kernel
theorem dX4_ifBid_53 : decode cX4_ifBid 53 = .ok (.invokevirtual 199, 3) := by decide +kernel
theorem dX4_ifBid_56 : decode cX4_ifBid 56 = .ok (.aload_n 0, 1) := by decide +kernel
theorem dX4_ifBid_57 : decode cX4_ifBid 57 = .ok (.getfield 19, 3) := by decide +kernel
theorem dX4_ifBid_60 : decode cX4_ifBid 60 = .ok (.iconst (-1), 1) := by decide +kernel
theorem dX4_ifBid_61 : decode cX4_ifBid 61 = .ok (.invokevirtual 203, 3) := by decide +kernel
theorem dX4_ifBid_64 : decode cX4_ifBid 64 = .ok (.aload_n 0, 1) := by decide +kernel
theorem dX4_ifBid_65 : decode cX4_ifBid 65 = .ok (.getfield 19, 3) := by decide +kernel
theorem dX4_ifBid_68 : decode cX4_ifBid 68 = .ok (.iload_n 1, 1) := by decide +kernel
theorem dX4_ifBid_69 : decode cX4_ifBid 69 = .ok (.invokevirtual 207, 3) := by decide +kernel
theorem dX4_ifBid_72 : decode cX4_ifBid 72 = .ok (.istore 5, 2) := by decide +kernel
theorem dX4_ifBid_74 : decode cX4_ifBid 74 = .ok (.iload 4, 2) := by decide +kernel
theorem dX4_ifBid_76 : decode cX4_ifBid 76 = .ok (.ifCond .eq 9, 3) := by decide +kernel
theorem dX4_ifBid_79 : decode cX4_ifBid 79 = .ok (.iload 5, 2) := by decide +kernel
theorem dX4_ifBid_81 : decode cX4_ifBid 81 = .ok (.iconst (-1), 1) := by decide +kernel
theorem dX4_ifBid_82 : decode cX4_ifBid 82 = .ok (.if_icmp .ne 8, 3) := by decide +kernel
theorem dX4_ifBid_85 : decode cX4_ifBid 85 = .ok (.iload 5, 2) := by decide +kernel
theorem dX4_ifBid_87 : decode cX4_ifBid 87 = .ok (.goto 16, 3) := by decide +kernel
theorem dX4_ifBid_90 : decode cX4_ifBid 90 = .ok (.aload_n 0, 1) := by decide +kernel
theorem dX4_ifBid_91 : decode cX4_ifBid 91 = .ok (.getfield 19, 3) := by decide +kernel
theorem dX4_ifBid_94 : decode cX4_ifBid 94 = .ok (.iload 5, 2) := by decide +kernel
theorem dX4_ifBid_96 : decode cX4_ifBid 96 = .ok (.aload_n 0, 1) := by decide +kernel
theorem dX4_ifBid_97 : decode cX4_ifBid 97 = .ok (.getfield 12, 3) := by decide +kernel
theorem dX4_ifBid_100 : decode cX4_ifBid 100 = .ok (.invokevirtual 188, 3) := by decide +kernel
theorem dX4_ifBid_103 : decode cX4_ifBid 103 = .ok (.ireturn, 1) := by decide +kernel
set_option maxRecDepth 20000 in
theorem ggX4_least_X4_needPlace : GoodIn wsX4_least wsX4_needPlace := goodIn_ca (goodIn_r _ [4, 5, 6] (by decide +kernel) (by decide +kernel)) (goodIn_sub (fun _ h => List.mem_cons_of_mem _ (List.mem_append_right _ h)) (by decide +kernel))
set_option maxRecDepth 20000 in
theorem gX4_least_X4_needPlace : GoodIn wsX4_least (va_wsS RX4 37 yX4_needPlace wsX4_needPlace) := goodIn_app (goodIn_of _ (by decide +kernel)) ggX4_least_X4_needPlace
set_option maxRecDepth 20000 in
theorem ggX4_least_X4_leastWinning : GoodIn wsX4_least wsX4_leastWinning := goodIn_r _ [10, 11, 12, 13, 14, 15, 16, 17, 18, 19, 20, 21, 22, 23, 24, 25, 26, 27, 28, 29, 30, 31, 32, 33, 34, 35, 36, 37, 38, 39, 40, 41, 42, 43, 44, 45, 46, 47, 48, 49, 50, 51, 52, 53, 54, 55, 56, 57, 58, 59, 60, 61, 62, 63, 64, 65, 66, 67, 68, 69, 70, 71, 72, 73, 74, 75, 76, 77, 78, 79, 80, 81, 82] (by decide +kernel) (by decide +kernel)
set_option maxRecDepth 20000 in
theorem gX4_least_X4_leastWinning : GoodIn wsX4_least (wsV RX4 210 RX4 yX4_leastWinning wsX4_leastWinning) := goodIn_app (goodIn_of _ (by decide +kernel)) ggX4_least_X4_leastWinning
theorem dX4_least_0 : decode cX4_least 0 = .ok (.iload_n 1, 1) := by decide +kernel
theorem dX4_least_1 : decode cX4_least 1 = .ok (.bipush 6, 2) := by decide +kernel
theorem dX4_least_3 : decode cX4_least 3 = .ok (.invokestatic 37, 3) := by decide +kernel
theorem dX4_least_6 : decode cX4_least 6 = .ok (.iload_n 2, 1) := by decide +kernel
theorem dX4_least_7 : decode cX4_least 7 = .ok (.bipush 6, 2) := by decide +kernel
theorem dX4_least_9 : decode cX4_least 9 = .ok (.invokestatic 37, 3) := by decide +kernel
theorem dX4_least_12 : decode cX4_least 12 = .ok (.aload_n 0, 1) := by decide +kernel
theorem dX4_least_13 : decode cX4_least 13 = .ok (.iload_n 1, 1) := by decide +kernel
theorem dX4_least_14 : decode cX4_least 14 = .ok (.iload_n 2, 1) := by decide +kernel
theorem dX4_least_15 : decode cX4_least 15 = .ok (.invokevirtual 210, 3) := by decide +kernel
theorem dX4_least_18 : decode cX4_least 18 = .ok (.ireturn, 1) := by decide +kernel
set_option maxRecDepth 20000 in
theorem ggX4_keenest_X4_findSharing : GoodIn wsX4_keenest wsX4_findSharing := goodIn_r _ [6, 1, 7, 8, 9, 10, 11, 12, 13, 14, 15, 16, 17, 18, 19, 20, 21, 22, 23, 24, 25, 26, 27, 28, 29, 30, 31, 32, 33, 34, 35, 36, 37, 38, 39, 40, 41, 42, 43, 44, 45, 46, 47, 48, 49, 50, 51, 52, 53, 54, 55, 56, 57, 58, 59, 60, 61, 62, 63, 64, 76, 77, 78, 79, 80, 81, 82] (by decide +kernel) (by decide +kernel)
set_option maxRecDepth 20000 in
theorem gX4_keenest_X4_findSharing : GoodIn wsX4_keenest (wsV RX4 176 RX4 yX4_findSharing wsX4_findSharing) := goodIn_app (goodIn_of _ (by decide +kernel)) ggX4_keenest_X4_findSharing
set_option maxRecDepth 20000 in
theorem ggX4_keenest_X1_worthWithout : GoodIn wsX4_keenest wsX1_worthWithout := goodIn_r _ [68, 69, 70, 71, 11, 72, 58, 59, 60, 61, 62, 63, 64, 43, 73, 74, 75, 81, 82] (by decide +kernel) (by decide +kernel)
set_option maxRecDepth 20000 in
theorem gX4_keenest_X1_worthWithout : GoodIn wsX4_keenest (wsV RX4 182 RX1 yX1_worthWithout wsX1_worthWithout) := goodIn_app (goodIn_of _ (by decide +kernel)) ggX4_keenest_X1_worthWithout
theorem dX4_keenest_0 : decode cX4_keenest 0 = .ok (.aload_n 0, 1) := by decide +kernel
theorem dX4_keenest_1 : decode cX4_keenest 1 = .ok (.invokevirtual 176, 3) := by decide +kernel
theorem dX4_keenest_4 : decode cX4_keenest 4 = .ok (.iconst 0, 1) := by decide +kernel
theorem dX4_keenest_5 : decode cX4_keenest 5 = .ok (.istore_n 1, 1) := by decide +kernel
theorem dX4_keenest_6 : decode cX4_keenest 6 = .ok (.iconst 1, 1) := by decide +kernel
theorem dX4_keenest_7 : decode cX4_keenest 7 = .ok (.istore_n 2, 1) := by decide +kernel
theorem dX4_keenest_8 : decode cX4_keenest 8 = .ok (.iload_n 2, 1) := by decide +kernel
theorem dX4_keenest_9 : decode cX4_keenest 9 = .ok (.bipush 6, 2) := by decide +kernel
theorem dX4_keenest_11 : decode cX4_keenest 11 = .ok (.if_icmp .ge 30, 3) := by decide +kernel
theorem dX4_keenest_14 : decode cX4_keenest 14 = .ok (.aload_n 0, 1) := by decide +kernel
theorem dX4_keenest_15 : decode cX4_keenest 15 = .ok (.getfield 19, 3) := by decide +kernel
theorem dX4_keenest_18 : decode cX4_keenest 18 = .ok (.iload_n 2, 1) := by decide +kernel
theorem dX4_keenest_19 : decode cX4_keenest 19 = .ok (.invokevirtual 182, 3) := by decide +kernel
theorem dX4_keenest_22 : decode cX4_keenest 22 = .ok (.aload_n 0, 1) := by decide +kernel
theorem dX4_keenest_23 : decode cX4_keenest 23 = .ok (.getfield 19, 3) := by decide +kernel
theorem dX4_keenest_26 : decode cX4_keenest 26 = .ok (.iload_n 1, 1) := by decide +kernel
theorem dX4_keenest_27 : decode cX4_keenest 27 = .ok (.invokevirtual 182, 3) := by decide +kernel
theorem dX4_keenest_30 : decode cX4_keenest 30 = .ok (.if_icmp .ge 5, 3) := by decide +kernel
theorem dX4_keenest_33 : decode cX4_keenest 33 = .ok (.iload_n 2, 1) := by decide +kernel
theorem dX4_keenest_34 : decode cX4_keenest 34 = .ok (.istore_n 1, 1) := by decide +kernel
theorem dX4_keenest_35 : decode cX4_keenest 35 = .ok (.iinc 2 1, 3) := by decide +kernel
theorem dX4_keenest_38 : decode cX4_keenest 38 = .ok (.goto (-30), 3) := by decide +kernel
theorem dX4_keenest_41 : decode cX4_keenest 41 = .ok (.iload_n 1, 1) := by decide +kernel
theorem dX4_keenest_42 : decode cX4_keenest 42 = .ok (.ireturn, 1) := by decide +kernel
set_option maxRecDepth 20000 in
theorem ggX4_chestShare_X4_count : GoodIn wsX4_chestShare wsX4_count := goodIn_ca (goodIn_r _ [5, 6, 7, 8, 9, 10, 11, 12, 13, 14, 15, 16, 17, 18, 19, 20, 21, 22, 23, 24, 25, 26, 27, 28, 29, 30, 31, 32, 33, 34, 35, 36, 37, 38, 39, 40, 41, 42, 43, 44, 45, 46, 47, 48, 49, 50, 51, 52, 53, 54, 55, 56, 57, 58, 59, 60, 61, 62] (by decide +kernel) (by decide +kernel)) (goodIn_sub (fun _ h => List.mem_cons_of_mem _ (List.mem_append_right _ h)) (by decide +kernel))
set_option maxRecDepth 20000 in
theorem gX4_chestShare_X4_count : GoodIn wsX4_chestShare (wsV RX4 213 RX4 yX4_count wsX4_count) := goodIn_app (goodIn_of _ (by decide +kernel)) ggX4_chestShare_X4_count
theorem dX4_chestShare_0 : decode cX4_chestShare 0 = .ok (.aload_n 0, 1) := by decide +kernel
theorem dX4_chestShare_1 : decode cX4_chestShare 1 = .ok (.bipush 6, 2) := by decide +kernel
theorem dX4_chestShare_3 : decode cX4_chestShare 3 = .ok (.invokevirtual 213, 3) := by decide +kernel
theorem dX4_chestShare_6 : decode cX4_chestShare 6 = .ok (.istore_n 1, 1) := by decide +kernel
theorem dX4_chestShare_7 : decode cX4_chestShare 7 = .ok (.iload_n 1, 1) := by decide +kernel
theorem dX4_chestShare_8 : decode cX4_chestShare 8 = .ok (.ifCond .ne 7, 3) := by decide +kernel
theorem dX4_chestShare_11 : decode cX4_chestShare 11 = .ok (.dconst 0, 1) := by decide +kernel
theorem dX4_chestShare_12 : decode cX4_chestShare 12 = .ok (.goto 12, 3) := by decide +kernel
theorem dX4_chestShare_15 : decode cX4_chestShare 15 = .ok (.aload_n 0, 1) := by decide +kernel
theorem dX4_chestShare_16 : decode cX4_chestShare 16 = .ok (.iconst 4, 1) := by decide +kernel
theorem dX4_chestShare_17 : decode cX4_chestShare 17 = .ok (.invokevirtual 213, 3) := by decide +kernel
theorem dX4_chestShare_20 : decode cX4_chestShare 20 = .ok (.i2d, 1) := by decide +kernel
theorem dX4_chestShare_21 : decode cX4_chestShare 21 = .ok (.iload_n 1, 1) := by decide +kernel
theorem dX4_chestShare_22 : decode cX4_chestShare 22 = .ok (.i2d, 1) := by decide +kernel
theorem dX4_chestShare_23 : decode cX4_chestShare 23 = .ok (.ddiv, 1) := by decide +kernel
theorem dX4_chestShare_24 : decode cX4_chestShare 24 = .ok (.dreturn, 1) := by decide +kernel
set_option maxRecDepth 20000 in
theorem ggX4_meanPrice_X4_count : GoodIn wsX4_meanPrice wsX4_count := goodIn_ca (goodIn_r _ [5, 6, 7, 8, 9, 10, 11, 12, 13, 14, 15, 16, 17, 18, 19, 20, 21, 22, 23, 24, 25, 26, 27, 28, 29, 30, 31, 32, 33, 34, 35, 36, 37, 38, 39, 40, 41, 42, 43, 44, 45, 46, 47, 48, 49, 50, 51, 52, 53, 54, 55, 56, 57, 58, 59, 60, 61, 62] (by decide +kernel) (by decide +kernel)) (goodIn_sub (fun _ h => List.mem_cons_of_mem _ (List.mem_append_right _ h)) (by decide +kernel))
set_option maxRecDepth 20000 in
theorem gX4_meanPrice_X4_count : GoodIn wsX4_meanPrice (wsV RX4 213 RX4 yX4_count wsX4_count) := goodIn_app (goodIn_of _ (by decide +kernel)) ggX4_meanPrice_X4_count
theorem dX4_meanPrice_0 : decode cX4_meanPrice 0 = .ok (.aload_n 0, 1) := by decide +kernel
theorem dX4_meanPrice_1 : decode cX4_meanPrice 1 = .ok (.bipush 9, 2) := by decide +kernel
theorem dX4_meanPrice_3 : decode cX4_meanPrice 3 = .ok (.invokevirtual 213, 3) := by decide +kernel
theorem dX4_meanPrice_6 : decode cX4_meanPrice 6 = .ok (.istore_n 1, 1) := by decide +kernel
theorem dX4_meanPrice_7 : decode cX4_meanPrice 7 = .ok (.iload_n 1, 1) := by decide +kernel
theorem dX4_meanPrice_8 : decode cX4_meanPrice 8 = .ok (.ifCond .ne 7, 3) := by decide +kernel
theorem dX4_meanPrice_11 : decode cX4_meanPrice 11 = .ok (.fconst 0, 1) := by decide +kernel
theorem dX4_meanPrice_12 : decode cX4_meanPrice 12 = .ok (.goto 13, 3) := by decide +kernel
theorem dX4_meanPrice_15 : decode cX4_meanPrice 15 = .ok (.aload_n 0, 1) := by decide +kernel
theorem dX4_meanPrice_16 : decode cX4_meanPrice 16 = .ok (.bipush 8, 2) := by decide +kernel
theorem dX4_meanPrice_18 : decode cX4_meanPrice 18 = .ok (.invokevirtual 213, 3) := by decide +kernel
theorem dX4_meanPrice_21 : decode cX4_meanPrice 21 = .ok (.i2f, 1) := by decide +kernel
theorem dX4_meanPrice_22 : decode cX4_meanPrice 22 = .ok (.iload_n 1, 1) := by decide +kernel
theorem dX4_meanPrice_23 : decode cX4_meanPrice 23 = .ok (.i2f, 1) := by decide +kernel
theorem dX4_meanPrice_24 : decode cX4_meanPrice 24 = .ok (.fdiv, 1) := by decide +kernel
theorem dX4_meanPrice_25 : decode cX4_meanPrice 25 = .ok (.freturn, 1) := by decide +kernel
theorem dX4_needPlace_0 : decode cX4_needPlace 0 = .ok (.iload_n 0, 1) := by decide +kernel
theorem dX4_needPlace_1 : decode cX4_needPlace 1 = .ok (.ifCond .lt 8, 3) := by decide +kernel
theorem dX4_needPlace_4 : decode cX4_needPlace 4 = .ok (.iload_n 0, 1) := by decide +kernel
theorem dX4_needPlace_5 : decode cX4_needPlace 5 = .ok (.iload_n 1, 1) := by decide +kernel
theorem dX4_needPlace_6 : decode cX4_needPlace 6 = .ok (.if_icmp .lt 14, 3) := by decide +kernel
theorem dX4_needPlace_9 : decode cX4_needPlace 9 = .ok (.new 263, 3) := by decide +kernel
theorem dX4_needPlace_12 : decode cX4_needPlace 12 = .ok (.dup, 1) := by decide +kernel
theorem dX4_needPlace_13 : decode cX4_needPlace 13 = .ok (.ldc_w 265, 3) := by decide +kernel
theorem dX4_needPlace_16 : decode cX4_needPlace 16 = .ok (.invokespecial 267, 3) := by decide +kernel
theorem dX4_needPlace_19 : decode cX4_needPlace 19 = .ok (.athrow, 1) := by decide +kernel
theorem dX4_needPlace_20 : decode cX4_needPlace 20 = .ok (.return_, 1) := by decide +kernel
theorem dX4_needRange_0 : decode cX4_needRange 0 = .ok (.iload_n 0, 1) := by decide +kernel
theorem dX4_needRange_1 : decode cX4_needRange 1 = .ok (.iload_n 1, 1) := by decide +kernel
theorem dX4_needRange_2 : decode cX4_needRange 2 = .ok (.if_icmp .lt 8, 3) := by decide +kernel
theorem dX4_needRange_5 : decode cX4_needRange 5 = .ok (.iload_n 0, 1) := by decide +kernel
theorem dX4_needRange_6 : decode cX4_needRange 6 = .ok (.iload_n 2, 1) := by decide +kernel
theorem dX4_needRange_7 : decode cX4_needRange 7 = .ok (.if_icmp .le 14, 3) := by decide +kernel
theorem dX4_needRange_10 : decode cX4_needRange 10 = .ok (.new 117, 3) := by decide +kernel
theorem dX4_needRange_13 : decode cX4_needRange 13 = .ok (.dup, 1) := by decide +kernel
theorem dX4_needRange_14 : decode cX4_needRange 14 = .ok (.ldc_w 268, 3) := by decide +kernel
theorem dX4_needRange_17 : decode cX4_needRange 17 = .ok (.invokespecial 121, 3) := by decide +kernel
theorem dX4_needRange_20 : decode cX4_needRange 20 = .ok (.athrow, 1) := by decide +kernel
theorem dX4_needRange_21 : decode cX4_needRange 21 = .ok (.return_, 1) := by decide +kernel
theorem dX4_needState_0 : decode cX4_needState 0 = .ok (.iload_n 0, 1) := by decide +kernel
theorem dX4_needState_1 : decode cX4_needState 1 = .ok (.ifCond .ne 14, 3) := by decide +kernel
theorem dX4_needState_4 : decode cX4_needState 4 = .ok (.new 270, 3) := by decide +kernel
theorem dX4_needState_7 : decode cX4_needState 7 = .ok (.dup, 1) := by decide +kernel
theorem dX4_needState_8 : decode cX4_needState 8 = .ok (.ldc_w 272, 3) := by decide +kernel
theorem dX4_needState_11 : decode cX4_needState 11 = .ok (.invokespecial 274, 3) := by decide +kernel
theorem dX4_needState_14 : decode cX4_needState 14 = .ok (.athrow, 1) := by decide +kernel
theorem dX4_needState_15 : decode cX4_needState 15 = .ok (.return_, 1) := by decide +kernel
set_option maxRecDepth 20000 in
theorem ggX4_numberOfBid_X2_ofBid : GoodIn wsX4_numberOfBid wsX2_ofBid := goodIn_r _ [6, 7, 8, 5, 9, 10, 11, 12, 13, 14, 32] (by decide +kernel) (by decide +kernel)
set_option maxRecDepth 20000 in
theorem gX4_numberOfBid_X2_ofBid : GoodIn wsX4_numberOfBid (wsV RX4 275 RX2 yX2_ofBid wsX2_ofBid) := goodIn_app (goodIn_of _ (by decide +kernel)) ggX4_numberOfBid_X2_ofBid
set_option maxRecDepth 20000 in
theorem ggX4_numberOfBid_X2_isOpened : GoodIn wsX4_numberOfBid wsX2_isOpened := goodIn_r _ [18, 19, 20, 21, 5, 22, 10, 11, 12, 13, 14, 32] (by decide +kernel) (by decide +kernel)
set_option maxRecDepth 20000 in
theorem gX4_numberOfBid_X2_isOpened : GoodIn wsX4_numberOfBid (wsV RX4 85 RX2 yX2_isOpened wsX2_isOpened) := goodIn_app (goodIn_of _ (by decide +kernel)) ggX4_numberOfBid_X2_isOpened
set_option maxRecDepth 20000 in
theorem ggX4_numberOfBid_X2_feeFor : GoodIn wsX4_numberOfBid wsX2_feeFor := goodIn_r _ [26, 19, 20, 21, 5, 22, 10, 11, 12, 13, 14, 27, 3, 4, 6, 7, 8, 9, 32] (by decide +kernel) (by decide +kernel)
set_option maxRecDepth 20000 in
theorem gX4_numberOfBid_X2_feeFor : GoodIn wsX4_numberOfBid (wsV RX4 278 RX2 yX2_feeFor wsX2_feeFor) := goodIn_app (goodIn_of _ (by decide +kernel)) ggX4_numberOfBid_X2_feeFor
theorem dX4_numberOfBid_0 : decode cX4_numberOfBid 0 = .ok (.iload_n 3, 1) := by decide +kernel
theorem dX4_numberOfBid_1 : decode cX4_numberOfBid 1 = .ok (.tableswitch 77 0 2 #[27, 39, 51], 27) := by decide +kernel
theorem dX4_numberOfBid_28 : decode cX4_numberOfBid 28 = .ok (.aload_n 0, 1) := by decide +kernel
theorem dX4_numberOfBid_29 : decode cX4_numberOfBid 29 = .ok (.getfield 12, 3) := by decide +kernel
theorem dX4_numberOfBid_32 : decode cX4_numberOfBid 32 = .ok (.bipush 90, 2) := by decide +kernel
theorem dX4_numberOfBid_34 : decode cX4_numberOfBid 34 = .ok (.iload_n 1, 1) := by decide +kernel
theorem dX4_numberOfBid_35 : decode cX4_numberOfBid 35 = .ok (.iload_n 2, 1) := by decide +kernel
theorem dX4_numberOfBid_36 : decode cX4_numberOfBid 36 = .ok (.invokevirtual 275, 3) := by decide +kernel
theorem dX4_numberOfBid_39 : decode cX4_numberOfBid 39 = .ok (.ireturn, 1) := by decide +kernel
theorem dX4_numberOfBid_40 : decode cX4_numberOfBid 40 = .ok (.aload_n 0, 1) := by decide +kernel
theorem dX4_numberOfBid_41 : decode cX4_numberOfBid 41 = .ok (.getfield 12, 3) := by decide +kernel
theorem dX4_numberOfBid_44 : decode cX4_numberOfBid 44 = .ok (.bipush 126, 2) := by decide +kernel
theorem dX4_numberOfBid_46 : decode cX4_numberOfBid 46 = .ok (.iload_n 1, 1) := by decide +kernel
theorem dX4_numberOfBid_47 : decode cX4_numberOfBid 47 = .ok (.iload_n 2, 1) := by decide +kernel
theorem dX4_numberOfBid_48 : decode cX4_numberOfBid 48 = .ok (.invokevirtual 275, 3) := by decide +kernel
theorem dX4_numberOfBid_51 : decode cX4_numberOfBid 51 = .ok (.ireturn, 1) := by decide +kernel
theorem dX4_numberOfBid_52 : decode cX4_numberOfBid 52 = .ok (.aload_n 0, 1) := by decide +kernel
theorem dX4_numberOfBid_53 : decode cX4_numberOfBid 53 = .ok (.getfield 12, 3) := by decide +kernel
theorem dX4_numberOfBid_56 : decode cX4_numberOfBid 56 = .ok (.invokevirtual 85, 3) := by decide +kernel
theorem dX4_numberOfBid_59 : decode cX4_numberOfBid 59 = .ok (.ifCond .eq 17, 3) := by decide +kernel
theorem dX4_numberOfBid_62 : decode cX4_numberOfBid 62 = .ok (.aload_n 0, 1) := by decide +kernel
theorem dX4_numberOfBid_63 : decode cX4_numberOfBid 63 = .ok (.getfield 12, 3) := by decide +kernel
theorem dX4_numberOfBid_66 : decode cX4_numberOfBid 66 = .ok (.bipush 54, 2) := by decide +kernel
theorem dX4_numberOfBid_68 : decode cX4_numberOfBid 68 = .ok (.iload_n 1, 1) := by decide +kernel
theorem dX4_numberOfBid_69 : decode cX4_numberOfBid 69 = .ok (.iload_n 2, 1) := by decide +kernel
theorem dX4_numberOfBid_70 : decode cX4_numberOfBid 70 = .ok (.invokevirtual 275, 3) := by decide +kernel
theorem dX4_numberOfBid_73 : decode cX4_numberOfBid 73 = .ok (.goto 4, 3) := by decide +kernel
theorem dX4_numberOfBid_76 : decode cX4_numberOfBid 76 = .ok (.iconst (-1), 1) := by decide +kernel
theorem dX4_numberOfBid_77 : decode cX4_numberOfBid 77 = .ok (.ireturn, 1) := by decide +kernel
theorem dX4_numberOfBid_78 : decode cX4_numberOfBid 78 = .ok (.aload_n 0, 1) := by decide +kernel
theorem dX4_numberOfBid_79 : decode cX4_numberOfBid 79 = .ok (.getfield 12, 3) := by decide +kernel
theorem dX4_numberOfBid_82 : decode cX4_numberOfBid 82 = .ok (.iload_n 1, 1) := by decide +kernel
theorem dX4_numberOfBid_83 : decode cX4_numberOfBid 83 = .ok (.iload_n 2, 1) := by decide +kernel
theorem dX4_numberOfBid_84 : decode cX4_numberOfBid 84 = .ok (.invokevirtual 278, 3) := by decide +kernel
theorem dX4_numberOfBid_87 : decode cX4_numberOfBid 87 = .ok (.ireturn, 1) := by decide +kernel
set_option maxRecDepth 20000 in
theorem ggX4_findSharing_X1_readBids : GoodIn wsX4_findSharing wsX1_readBids := goodIn_r _ [7, 8, 9, 10, 11, 12, 13, 14, 15, 16, 17, 18, 19, 20, 21, 22, 6, 23, 24, 25, 26, 27, 28, 29, 30, 31, 32, 33, 64, 65, 66] (by decide +kernel) (by decide +kernel)
set_option maxRecDepth 20000 in
theorem gX4_findSharing_X1_readBids : GoodIn wsX4_findSharing (wsV RX4 192 RX1 yX1_readBids wsX1_readBids) := goodIn_app (goodIn_of _ (by decide +kernel)) ggX4_findSharing_X1_readBids
set_option maxRecDepth 20000 in
theorem ggX4_findSharing_X1_find : GoodIn wsX4_findSharing wsX1_find := goodIn_r _ [37, 38, 39, 40, 41, 6, 42, 33, 43, 44, 45, 46, 47, 48, 49, 50, 51, 52, 53, 54, 55, 56, 57, 58, 59, 65, 66] (by decide +kernel) (by decide +kernel)
set_option maxRecDepth 20000 in
theorem gX4_findSharing_X1_find : GoodIn wsX4_findSharing (wsV RX4 203 RX1 yX1_find wsX1_find) := goodIn_app (goodIn_of _ (by decide +kernel)) ggX4_findSharing_X1_find
theorem dX4_findSharing_0 : decode cX4_findSharing 0 = .ok (.aload_n 0, 1) := by decide +kernel
theorem dX4_findSharing_1 : decode cX4_findSharing 1 = .ok (.getfield 19, 3) := by decide +kernel
theorem dX4_findSharing_4 : decode cX4_findSharing 4 = .ok (.aload_n 0, 1) := by decide +kernel
theorem dX4_findSharing_5 : decode cX4_findSharing 5 = .ok (.getfield 12, 3) := by decide +kernel
theorem dX4_findSharing_8 : decode cX4_findSharing 8 = .ok (.invokevirtual 192, 3) := by decide +kernel
theorem dX4_findSharing_11 : decode cX4_findSharing 11 = .ok (.aload_n 0, 1) := by decide +kernel
theorem dX4_findSharing_12 : decode cX4_findSharing 12 = .ok (.getfield 19, 3) := by decide +kernel
theorem dX4_findSharing_15 : decode cX4_findSharing 15 = .ok (.iconst (-1), 1) := by decide +kernel
theorem dX4_findSharing_16 : decode cX4_findSharing 16 = .ok (.invokevirtual 203, 3) := by decide +kernel
theorem dX4_findSharing_19 : decode cX4_findSharing 19 = .ok (.return_, 1) := by decide +kernel
set_option maxRecDepth 20000 in
theorem ggX4_shareOut_X4_findSharing : GoodIn wsX4_shareOut wsX4_findSharing := goodIn_r _ [7, 2, 1, 8, 9, 10, 11, 12, 13, 14, 15, 16, 17, 18, 19, 20, 21, 22, 23, 24, 25, 26, 27, 28, 29, 30, 31, 32, 33, 34, 35, 36, 37, 38, 39, 40, 41, 42, 43, 44, 45, 46, 47, 48, 49, 50, 51, 52, 53, 54, 55, 56, 57, 58, 59, 60, 61, 62, 63, 64, 105, 106, 107, 108, 109, 110, 111] (by decide +kernel) (by decide +kernel)
set_option maxRecDepth 20000 in
theorem gX4_shareOut_X4_findSharing : GoodIn wsX4_shareOut (wsV RX4 176 RX4 yX4_findSharing wsX4_findSharing) := goodIn_app (goodIn_of _ (by decide +kernel)) ggX4_shareOut_X4_findSharing
set_option maxRecDepth 20000 in
theorem ggX4_shareOut_X2_openBids : GoodIn wsX4_shareOut wsX2_openBids := goodIn_r _ [68, 69, 70, 71, 16, 72, 25, 109] (by decide +kernel) (by decide +kernel)
set_option maxRecDepth 20000 in
theorem gX4_shareOut_X2_openBids : GoodIn wsX4_shareOut (wsV RX4 281 RX2 yX2_openBids wsX2_openBids) := goodIn_app (goodIn_of _ (by decide +kernel)) ggX4_shareOut_X2_openBids
set_option maxRecDepth 20000 in
theorem ggX4_shareOut_X1_ownerOf : GoodIn wsX4_shareOut wsX1_ownerOf := goodIn_r _ [76, 77, 78, 79, 11, 80, 58, 59, 60, 61, 62, 63, 64, 43, 31, 32, 33, 110, 111] (by decide +kernel) (by decide +kernel)
set_option maxRecDepth 20000 in
theorem gX4_shareOut_X1_ownerOf : GoodIn wsX4_shareOut (wsV RX4 185 RX1 yX1_ownerOf wsX1_ownerOf) := goodIn_app (goodIn_of _ (by decide +kernel)) ggX4_shareOut_X1_ownerOf
set_option maxRecDepth 20000 in
theorem ggX4_shareOut_X1_priceOf : GoodIn wsX4_shareOut wsX1_priceOf := goodIn_r _ [84, 38, 85, 74, 75, 11, 76, 77, 78, 79, 80, 58, 59, 60, 61, 62, 63, 64, 43, 31, 32, 33, 86, 87, 88, 89, 90, 91, 92, 55, 56, 57, 30, 22, 23, 16, 24, 25, 110, 111, 109] (by decide +kernel) (by decide +kernel)
set_option maxRecDepth 20000 in
theorem gX4_shareOut_X1_priceOf : GoodIn wsX4_shareOut (wsV RX4 188 RX1 yX1_priceOf wsX1_priceOf) := goodIn_app (goodIn_of _ (by decide +kernel)) ggX4_shareOut_X1_priceOf
set_option maxRecDepth 20000 in
theorem ggX4_shareOut_X2_giveSpot : GoodIn wsX4_shareOut wsX2_giveSpot := goodIn_r _ [96, 69, 70, 71, 16, 72, 25, 97, 98, 99, 100, 101, 102, 103, 104, 21, 22, 23, 24, 109] (by decide +kernel) (by decide +kernel)
set_option maxRecDepth 20000 in
theorem gX4_shareOut_X2_giveSpot : GoodIn wsX4_shareOut (wsV RX4 284 RX2 yX2_giveSpot wsX2_giveSpot) := goodIn_app (goodIn_of _ (by decide +kernel)) ggX4_shareOut_X2_giveSpot
theorem dX4_shareOut_0 : decode cX4_shareOut 0 = .ok (.aload_n 0, 1) := by decide +kernel
theorem dX4_shareOut_1 : decode cX4_shareOut 1 = .ok (.invokevirtual 176, 3) := by decide +kernel
theorem dX4_shareOut_4 : decode cX4_shareOut 4 = .ok (.aload_n 0, 1) := by decide +kernel
theorem dX4_shareOut_5 : decode cX4_shareOut 5 = .ok (.getfield 12, 3) := by decide +kernel
theorem dX4_shareOut_8 : decode cX4_shareOut 8 = .ok (.invokevirtual 281, 3) := by decide +kernel
theorem dX4_shareOut_11 : decode cX4_shareOut 11 = .ok (.iconst 0, 1) := by decide +kernel
theorem dX4_shareOut_12 : decode cX4_shareOut 12 = .ok (.istore_n 1, 1) := by decide +kernel
theorem dX4_shareOut_13 : decode cX4_shareOut 13 = .ok (.iconst 0, 1) := by decide +kernel
theorem dX4_shareOut_14 : decode cX4_shareOut 14 = .ok (.istore_n 2, 1) := by decide +kernel
theorem dX4_shareOut_15 : decode cX4_shareOut 15 = .ok (.iload_n 2, 1) := by decide +kernel
theorem dX4_shareOut_16 : decode cX4_shareOut 16 = .ok (.bipush 6, 2) := by decide +kernel
theorem dX4_shareOut_18 : decode cX4_shareOut 18 = .ok (.if_icmp .ge 47, 3) := by decide +kernel
theorem dX4_shareOut_21 : decode cX4_shareOut 21 = .ok (.aload_n 0, 1) := by decide +kernel
theorem dX4_shareOut_22 : decode cX4_shareOut 22 = .ok (.getfield 19, 3) := by decide +kernel
theorem dX4_shareOut_25 : decode cX4_shareOut 25 = .ok (.iload_n 2, 1) := by decide +kernel
theorem dX4_shareOut_26 : decode cX4_shareOut 26 = .ok (.invokevirtual 185, 3) := by decide +kernel
theorem dX4_shareOut_29 : decode cX4_shareOut 29 = .ok (.istore_n 3, 1) := by decide +kernel
theorem dX4_shareOut_30 : decode cX4_shareOut 30 = .ok (.iload_n 3, 1) := by decide +kernel
theorem dX4_shareOut_31 : decode cX4_shareOut 31 = .ok (.iconst (-1), 1) := by decide +kernel
theorem dX4_shareOut_32 : decode cX4_shareOut 32 = .ok (.if_icmp .eq 27, 3) := by decide +kernel
theorem dX4_shareOut_35 : decode cX4_shareOut 35 = .ok (.aload_n 0, 1) := by decide +kernel
theorem dX4_shareOut_36 : decode cX4_shareOut 36 = .ok (.getfield 12, 3) := by decide +kernel
theorem dX4_shareOut_39 : decode cX4_shareOut 39 = .ok (.iload_n 2, 1) := by decide +kernel
theorem dX4_shareOut_40 : decode cX4_shareOut 40 = .ok (.iload_n 3, 1) := by decide +kernel
theorem dX4_shareOut_41 : decode cX4_shareOut 41 = .ok (.aload_n 0, 1) := by decide +kernel
theorem dX4_shareOut_42 : decode cX4_shareOut 42 = .ok (.getfield 19, 3) := by decide +kernel
theorem dX4_shareOut_45 : decode cX4_shareOut 45 = .ok (.iload_n 2, 1) := by decide +kernel
theorem dX4_shareOut_46 : decode cX4_shareOut 46 = .ok (.aload_n 0, 1) := by decide +kernel
theorem dX4_shareOut_47 : decode cX4_shareOut 47 = .ok (.getfield 12, 3) := by decide +kernel
theorem dX4_shareOut_50 : decode cX4_shareOut 50 = .ok (.invokevirtual 188, 3) := by decide +kernel
theorem dX4_shareOut_53 : decode cX4_shareOut 53 = .ok (.invokevirtual 284, 3) := by decide +kernel
theorem dX4_shareOut_56 : decode cX4_shareOut 56 = .ok (.iinc 1 1, 3) := by decide +kernel
theorem dX4_shareOut_59 : decode cX4_shareOut 59 = .ok (.iinc 2 1, 3) := by decide +kernel
theorem dX4_shareOut_62 : decode cX4_shareOut 62 = .ok (.goto (-47), 3) := by decide +kernel
theorem dX4_shareOut_65 : decode cX4_shareOut 65 = .ok (.iload_n 1, 1) := by decide +kernel
theorem dX4_shareOut_66 : decode cX4_shareOut 66 = .ok (.ireturn, 1) := by decide +kernel
set_option maxRecDepth 20000 in
theorem ggX4_leastWinning_X1_readBids : GoodIn wsX4_leastWinning wsX1_readBids := goodIn_r _ [7, 8, 9, 10, 11, 12, 13, 14, 15, 16, 17, 18, 19, 20, 21, 22, 6, 23, 24, 25, 26, 27, 28, 29, 30, 31, 32, 33, 70, 71, 72] (by decide +kernel) (by decide +kernel)
set_option maxRecDepth 20000 in
theorem gX4_leastWinning_X1_readBids : GoodIn wsX4_leastWinning (wsV RX4 192 RX1 yX1_readBids wsX1_readBids) := goodIn_app (goodIn_of _ (by decide +kernel)) ggX4_leastWinning_X1_readBids
set_option maxRecDepth 20000 in
theorem ggX4_leastWinning_X1_replaceBid : GoodIn wsX4_leastWinning wsX1_replaceBid := goodIn_r _ [32, 33, 71, 72] (by decide +kernel) (by decide +kernel)
set_option maxRecDepth 20000 in
theorem gX4_leastWinning_X1_replaceBid : GoodIn wsX4_leastWinning (wsV RX4 199 RX1 yX1_replaceBid wsX1_replaceBid) := goodIn_app (goodIn_of _ (by decide +kernel)) ggX4_leastWinning_X1_replaceBid
set_option maxRecDepth 20000 in
theorem ggX4_leastWinning_X1_find : GoodIn wsX4_leastWinning wsX1_find := goodIn_r _ [38, 39, 40, 41, 42, 6, 43, 33, 44, 45, 46, 47, 48, 49, 50, 51, 52, 53, 54, 55, 56, 57, 58, 59, 60, 71, 72] (by decide +kernel) (by decide +kernel)
set_option maxRecDepth 20000 in
theorem gX4_leastWinning_X1_find : GoodIn wsX4_leastWinning (wsV RX4 203 RX1 yX1_find wsX1_find) := goodIn_app (goodIn_of _ (by decide +kernel)) ggX4_leastWinning_X1_find
set_option maxRecDepth 20000 in
theorem ggX4_leastWinning_X1_keyWithout : GoodIn wsX4_leastWinning wsX1_keyWithout := goodIn_r _ [64, 54, 55, 6, 56, 57, 58, 59, 60, 39, 71, 72] (by decide +kernel) (by decide +kernel)
set_option maxRecDepth 20000 in
theorem gX4_leastWinning_X1_keyWithout : GoodIn wsX4_leastWinning (wsV RX4 287 RX1 yX1_keyWithout wsX1_keyWithout) := goodIn_app (goodIn_of _ (by decide +kernel)) ggX4_leastWinning_X1_keyWithout
set_option maxRecDepth 20000 in
theorem ggX4_leastWinning_X1_keyOf : GoodIn wsX4_leastWinning wsX1_keyOf := goodIn_r _ [23, 24, 25, 17, 18, 11, 19, 20, 26, 27, 6, 28, 70] (by decide +kernel) (by decide +kernel)
set_option maxRecDepth 20000 in
theorem gX4_leastWinning_X1_keyOf : GoodIn wsX4_leastWinning (va_wsS RX4 195 yX1_keyOf wsX1_keyOf) := goodIn_app (goodIn_of _ (by decide +kernel)) ggX4_leastWinning_X1_keyOf
theorem dX4_leastWinning_0 : decode cX4_leastWinning 0 = .ok (.aload_n 0, 1) := by decide +kernel
theorem dX4_leastWinning_1 : decode cX4_leastWinning 1 = .ok (.getfield 19, 3) := by decide +kernel
theorem dX4_leastWinning_4 : decode cX4_leastWinning 4 = .ok (.aload_n 0, 1) := by decide +kernel
theorem dX4_leastWinning_5 : decode cX4_leastWinning 5 = .ok (.getfield 12, 3) := by decide +kernel
theorem dX4_leastWinning_8 : decode cX4_leastWinning 8 = .ok (.invokevirtual 192, 3) := by decide +kernel
theorem dX4_leastWinning_11 : decode cX4_leastWinning 11 = .ok (.aload_n 0, 1) := by decide +kernel
theorem dX4_leastWinning_12 : decode cX4_leastWinning 12 = .ok (.getfield 19, 3) := by decide +kernel
theorem dX4_leastWinning_15 : decode cX4_leastWinning 15 = .ok (.iload_n 1, 1) := by decide +kernel
theorem dX4_leastWinning_16 : decode cX4_leastWinning 16 = .ok (.iload_n 2, 1) := by decide +kernel
theorem dX4_leastWinning_17 : decode cX4_leastWinning 17 = .ok (.lconst 0, 1) := by decide +kernel
theorem dX4_leastWinning_18 : decode cX4_leastWinning 18 = .ok (.invokevirtual 199, 3) := by decide +kernel
theorem dX4_leastWinning_21 : decode cX4_leastWinning 21 = .ok (.aload_n 0, 1) := by decide +kernel
theorem dX4_leastWinning_22 : decode cX4_leastWinning 22 = .ok (.getfield 19, 3) := by decide +kernel
theorem dX4_leastWinning_25 : decode cX4_leastWinning 25 = .ok (.iconst (-1), 1) := by decide +kernel
theorem dX4_leastWinning_26 : decode cX4_leastWinning 26 = .ok (.invokevirtual 203, 3) := by decide +kernel
theorem dX4_leastWinning_29 : decode cX4_leastWinning 29 = .ok (.aload_n 0, 1) := by decide +kernel
theorem dX4_leastWinning_30 : decode cX4_leastWinning 30 = .ok (.getfield 19, 3) := by decide +kernel
theorem dX4_leastWinning_33 : decode cX4_leastWinning 33 = .ok (.iconst (-1), 1) := by decide +kernel
theorem dX4_leastWinning_34 : decode cX4_leastWinning 34 = .ok (.invokevirtual 287, 3) := by decide +kernel
theorem dX4_leastWinning_37 : decode cX4_leastWinning 37 = .ok (.lstore_n 3, 1) := by decide +kernel
theorem dX4_leastWinning_38 : decode cX4_leastWinning 38 = .ok (.aload_n 0, 1) := by decide +kernel
theorem dX4_leastWinning_39 : decode cX4_leastWinning 39 = .ok (.getfield 19, 3) := by decide +kernel
theorem dX4_leastWinning_42 : decode cX4_leastWinning 42 = .ok (.iload_n 2, 1) := by decide +kernel
theorem dX4_leastWinning_43 : decode cX4_leastWinning 43 = .ok (.invokevirtual 203, 3) := by decide +kernel
theorem dX4_leastWinning_46 : decode cX4_leastWinning 46 = .ok (.aload_n 0, 1) := by decide +kernel
theorem dX4_leastWinning_47 : decode cX4_leastWinning 47 = .ok (.getfield 19, 3) := by decide +kernel
theorem dX4_leastWinning_50 : decode cX4_leastWinning 50 = .ok (.iload_n 1, 1) := by decide +kernel
theorem dX4_leastWinning_51 : decode cX4_leastWinning 51 = .ok (.invokevirtual 287, 3) := by decide +kernel
theorem dX4_leastWinning_54 : decode cX4_leastWinning 54 = .ok (.lstore 5, 2) := by decide +kernel
theorem dX4_leastWinning_56 : decode cX4_leastWinning 56 = .ok (.iconst 1, 1) := by decide +kernel
theorem dX4_leastWinning_57 : decode cX4_leastWinning 57 = .ok (.istore 7, 2) := by decide +kernel
theorem dX4_leastWinning_59 : decode cX4_leastWinning 59 = .ok (.iload 7, 2) := by decide +kernel
theorem dX4_leastWinning_61 : decode cX4_leastWinning 61 = .ok (.bipush 99, 2) := by decide +kernel
theorem dX4_leastWinning_63 : decode cX4_leastWinning 63 = .ok (.if_icmp .gt 42, 3) := by decide +kernel
theorem dX4_leastWinning_66 : decode cX4_leastWinning 66 = .ok (.aload_n 0, 1) := by decide +kernel
theorem dX4_leastWinning_67 : decode cX4_leastWinning 67 = .ok (.getfield 12, 3) := by decide +kernel
theorem dX4_leastWinning_70 : decode cX4_leastWinning 70 = .ok (.iload_n 1, 1) := by decide +kernel
theorem dX4_leastWinning_71 : decode cX4_leastWinning 71 = .ok (.iload_n 2, 1) := by decide +kernel
theorem dX4_leastWinning_72 : decode cX4_leastWinning 72 = .ok (.iload 7, 2) := by decide +kernel
theorem dX4_leastWinning_74 : decode cX4_leastWinning 74 = .ok (.invokestatic 195, 3) := by decide +kernel
theorem dX4_leastWinning_77 : decode cX4_leastWinning 77 = .ok (.lstore 8, 2) := by decide +kernel
theorem dX4_leastWinning_79 : decode cX4_leastWinning 79 = .ok (.lload 8, 2) := by decide +kernel
theorem dX4_leastWinning_81 : decode cX4_leastWinning 81 = .ok (.lconst 0, 1) := by decide +kernel
theorem dX4_leastWinning_82 : decode cX4_leastWinning 82 = .ok (.lcmp, 1) := by decide +kernel
theorem dX4_leastWinning_83 : decode cX4_leastWinning 83 = .ok (.ifCond .eq 16, 3) := by decide +kernel
theorem dX4_leastWinning_86 : decode cX4_leastWinning 86 = .ok (.lload 5, 2) := by decide +kernel
theorem dX4_leastWinning_88 : decode cX4_leastWinning 88 = .ok (.lload 8, 2) := by decide +kernel
theorem dX4_leastWinning_90 : decode cX4_leastWinning 90 = .ok (.ladd, 1) := by decide +kernel
theorem dX4_leastWinning_91 : decode cX4_leastWinning 91 = .ok (.lload_n 3, 1) := by decide +kernel
theorem dX4_leastWinning_92 : decode cX4_leastWinning 92 = .ok (.lcmp, 1) := by decide +kernel
theorem dX4_leastWinning_93 : decode cX4_leastWinning 93 = .ok (.ifCond .le 6, 3) := by decide +kernel
theorem dX4_leastWinning_96 : decode cX4_leastWinning 96 = .ok (.iload 7, 2) := by decide +kernel
theorem dX4_leastWinning_98 : decode cX4_leastWinning 98 = .ok (.ireturn, 1) := by decide +kernel
theorem dX4_leastWinning_99 : decode cX4_leastWinning 99 = .ok (.iinc 7 1, 3) := by decide +kernel
theorem dX4_leastWinning_102 : decode cX4_leastWinning 102 = .ok (.goto (-43), 3) := by decide +kernel
theorem dX4_leastWinning_105 : decode cX4_leastWinning 105 = .ok (.iconst (-1), 1) := by decide +kernel
theorem dX4_leastWinning_106 : decode cX4_leastWinning 106 = .ok (.ireturn, 1) := by decide +kernel
end
section
theorem dL_cell_0 : decode cL_cell 0 = .ok (.iload_n 1, 1) := by decide +kernel
theorem dL_cell_1 : decode cL_cell 1 = .ok (.aload_n 0, 1) := by decide +kernel
theorem dL_cell_2 : decode cL_cell 2 = .ok (.arraylength, 1) := by decide +kernel
theorem dL_cell_3 : decode cL_cell 3 = .ok (.if_icmp .ge 9, 3) := by decide +kernel
theorem dL_cell_6 : decode cL_cell 6 = .ok (.aload_n 0, 1) := by decide +kernel
theorem dL_cell_7 : decode cL_cell 7 = .ok (.iload_n 1, 1) := by decide +kernel
theorem dL_cell_8 : decode cL_cell 8 = .ok (.iaload, 1) := by decide +kernel
theorem dL_cell_9 : decode cL_cell 9 = .ok (.goto 11, 3) := by decide +kernel
theorem dL_cell_12 : decode cL_cell 12 = .ok (.ldc 7, 2) := by decide +kernel
theorem dL_cell_14 : decode cL_cell 14 = .ok (.iload_n 1, 1) := by decide +kernel
theorem dL_cell_15 : decode cL_cell 15 = .ok (.sipush 307, 3) := by decide +kernel
theorem dL_cell_18 : decode cL_cell 18 = .ok (.iadd, 1) := by decide +kernel
theorem dL_cell_19 : decode cL_cell 19 = .ok (.imul, 1) := by decide +kernel
theorem dL_cell_20 : decode cL_cell 20 = .ok (.ireturn, 1) := by decide +kernel
theorem dL_up_0 : decode cL_up 0 = .ok (.iload_n 0, 1) := by decide +kernel
theorem dL_up_1 : decode cL_up 1 = .ok (.ldc 8, 2) := by decide +kernel
theorem dL_up_3 : decode cL_up 3 = .ok (.iand, 1) := by decide +kernel
theorem dL_up_4 : decode cL_up 4 = .ok (.iload_n 1, 1) := by decide +kernel
theorem dL_up_5 : decode cL_up 5 = .ok (.irem, 1) := by decide +kernel
theorem dL_up_6 : decode cL_up 6 = .ok (.ireturn, 1) := by decide +kernel
set_option maxRecDepth 20000 in
theorem ggL_looks_X4_count : GoodIn wsL_looks wsX4_count := goodIn_ca (goodIn_r _ [9, 10, 11, 12, 13, 14, 15, 16, 17, 18, 19, 20, 21, 22, 23, 24, 25, 26, 27, 28, 29, 30, 31, 32, 33, 34, 35, 36, 37, 38, 39, 40, 41, 42, 43, 44, 45, 46, 47, 48, 49, 50, 51, 52, 53, 54, 55, 56, 57, 108, 109, 110, 111, 112, 113, 114, 115, 116] (by decide +kernel) (by decide +kernel)) (goodIn_sub (fun _ h => List.mem_cons_of_mem _ (List.mem_append_left _ (List.mem_append_right _ h))) (by decide +kernel))
set_option maxRecDepth 20000 in
theorem gL_looks_X4_count : GoodIn wsL_looks (wsV RL 13 RX4 yX4_count wsX4_count) := goodIn_app (goodIn_of _ (by decide +kernel)) ggL_looks_X4_count
set_option maxRecDepth 20000 in
theorem ggL_looks_X4_spot : GoodIn wsL_looks wsX4_spot := goodIn_ca (goodIn_ca (goodIn_r _ [61, 10, 11, 12, 62, 63, 8, 64, 65, 66, 67, 20, 21, 17, 22, 23, 68, 69, 70, 71, 37, 38, 39, 40, 41, 42, 43, 44, 45, 46, 47, 19, 108, 109, 110, 111, 112] (by decide +kernel) (by decide +kernel)) (goodIn_sub (fun _ h => List.mem_cons_of_mem _ (List.mem_append_left _ (List.mem_append_right _ h))) (by decide +kernel))) (goodIn_sub (fun _ h => List.mem_cons_of_mem _ (List.mem_append_right _ h)) (by decide +kernel))
set_option maxRecDepth 20000 in
theorem gL_looks_X4_spot : GoodIn wsL_looks (wsV RL 19 RX4 yX4_spot wsX4_spot) := goodIn_app (goodIn_of _ (by decide +kernel)) ggL_looks_X4_spot
set_option maxRecDepth 20000 in
theorem ggL_looks_X4_bidder : GoodIn wsL_looks wsX4_bidder := goodIn_ca (goodIn_ca (goodIn_r _ [75, 10, 11, 12, 62, 63, 8, 64, 65, 66, 67, 20, 21, 17, 22, 23, 76, 34, 35, 36, 37, 38, 39, 40, 41, 42, 43, 44, 45, 46, 47, 19, 77, 78, 79, 80, 108, 109, 110, 111, 112] (by decide +kernel) (by decide +kernel)) (goodIn_sub (fun _ h => List.mem_cons_of_mem _ (List.mem_append_left _ (List.mem_append_right _ h))) (by decide +kernel))) (goodIn_sub (fun _ h => List.mem_cons_of_mem _ (List.mem_append_right _ h)) (by decide +kernel))
set_option maxRecDepth 20000 in
theorem gL_looks_X4_bidder : GoodIn wsL_looks (wsV RL 23 RX4 yX4_bidder wsX4_bidder) := goodIn_app (goodIn_of _ (by decide +kernel)) ggL_looks_X4_bidder
set_option maxRecDepth 20000 in
theorem ggL_looks_X4_sealed : GoodIn wsL_looks wsX4_sealed := goodIn_ca (goodIn_ca (goodIn_r _ [84, 12, 62, 63, 8, 64, 65, 66, 85, 86, 87, 10, 11, 88, 89, 90, 17, 91, 92, 25, 26, 27, 28, 15, 16, 18, 19, 20, 21, 22, 23, 37, 38, 39, 40, 41, 42, 43, 44, 45, 46, 47, 93, 94, 95, 96, 97, 98, 99, 100, 101, 102, 24, 103, 108, 109, 110, 111, 112] (by decide +kernel) (by decide +kernel)) (goodIn_sub (fun _ h => List.mem_cons_of_mem _ (List.mem_append_right _ h)) (by decide +kernel))) (goodIn_sub (fun _ h => List.mem_cons_of_mem _ (List.mem_append_left _ (List.mem_append_right _ h))) (by decide +kernel))
set_option maxRecDepth 20000 in
theorem gL_looks_X4_sealed : GoodIn wsL_looks (wsV RL 26 RX4 yX4_sealed wsX4_sealed) := goodIn_app (goodIn_of _ (by decide +kernel)) ggL_looks_X4_sealed
set_option maxRecDepth 20000 in
theorem ggL_looks_X4_setting : GoodIn wsL_looks wsX4_setting := goodIn_ca (goodIn_r _ [107, 12, 62, 63, 8, 64, 65, 66, 67, 20, 21, 17, 22, 23, 108, 109, 110, 111, 112] (by decide +kernel) (by decide +kernel)) (goodIn_sub (fun _ h => List.mem_cons_of_mem _ (List.mem_append_right _ h)) (by decide +kernel))
set_option maxRecDepth 20000 in
theorem gL_looks_X4_setting : GoodIn wsL_looks (wsV RL 30 RX4 yX4_setting wsX4_setting) := goodIn_app (goodIn_of _ (by decide +kernel)) ggL_looks_X4_setting
theorem dL_looks_0 : decode cL_looks 0 = .ok (.ldc2_w 9, 3) := by decide +kernel
theorem dL_looks_3 : decode cL_looks 3 = .ok (.lstore_n 1, 1) := by decide +kernel
theorem dL_looks_4 : decode cL_looks 4 = .ok (.iconst 0, 1) := by decide +kernel
theorem dL_looks_5 : decode cL_looks 5 = .ok (.istore_n 3, 1) := by decide +kernel
theorem dL_looks_6 : decode cL_looks 6 = .ok (.iload_n 3, 1) := by decide +kernel
theorem dL_looks_7 : decode cL_looks 7 = .ok (.bipush 14, 2) := by decide +kernel
theorem dL_looks_9 : decode cL_looks 9 = .ok (.if_icmp .ge 22, 3) := by decide +kernel
theorem dL_looks_12 : decode cL_looks 12 = .ok (.ldc2_w 11, 3) := by decide +kernel
theorem dL_looks_15 : decode cL_looks 15 = .ok (.lload_n 1, 1) := by decide +kernel
theorem dL_looks_16 : decode cL_looks 16 = .ok (.lmul, 1) := by decide +kernel
theorem dL_looks_17 : decode cL_looks 17 = .ok (.aload_n 0, 1) := by decide +kernel
theorem dL_looks_18 : decode cL_looks 18 = .ok (.iload_n 3, 1) := by decide +kernel
theorem dL_looks_19 : decode cL_looks 19 = .ok (.invokevirtual 13, 3) := by decide +kernel
theorem dL_looks_22 : decode cL_looks 22 = .ok (.i2l, 1) := by decide +kernel
theorem dL_looks_23 : decode cL_looks 23 = .ok (.ladd, 1) := by decide +kernel
theorem dL_looks_24 : decode cL_looks 24 = .ok (.lstore_n 1, 1) := by decide +kernel
theorem dL_looks_25 : decode cL_looks 25 = .ok (.iinc 3 1, 3) := by decide +kernel
theorem dL_looks_28 : decode cL_looks 28 = .ok (.goto (-22), 3) := by decide +kernel
theorem dL_looks_31 : decode cL_looks 31 = .ok (.iconst 0, 1) := by decide +kernel
theorem dL_looks_32 : decode cL_looks 32 = .ok (.istore_n 3, 1) := by decide +kernel
theorem dL_looks_33 : decode cL_looks 33 = .ok (.iload_n 3, 1) := by decide +kernel
theorem dL_looks_34 : decode cL_looks 34 = .ok (.bipush 36, 2) := by decide +kernel
theorem dL_looks_36 : decode cL_looks 36 = .ok (.if_icmp .ge 47, 3) := by decide +kernel
theorem dL_looks_39 : decode cL_looks 39 = .ok (.ldc2_w 11, 3) := by decide +kernel
theorem dL_looks_42 : decode cL_looks 42 = .ok (.ldc2_w 11, 3) := by decide +kernel
theorem dL_looks_45 : decode cL_looks 45 = .ok (.lload_n 1, 1) := by decide +kernel
theorem dL_looks_46 : decode cL_looks 46 = .ok (.lmul, 1) := by decide +kernel
theorem dL_looks_47 : decode cL_looks 47 = .ok (.aload_n 0, 1) := by decide +kernel
theorem dL_looks_48 : decode cL_looks 48 = .ok (.iload_n 3, 1) := by decide +kernel
theorem dL_looks_49 : decode cL_looks 49 = .ok (.bipush 6, 2) := by decide +kernel
theorem dL_looks_51 : decode cL_looks 51 = .ok (.idiv, 1) := by decide +kernel
theorem dL_looks_52 : decode cL_looks 52 = .ok (.iload_n 3, 1) := by decide +kernel
theorem dL_looks_53 : decode cL_looks 53 = .ok (.bipush 6, 2) := by decide +kernel
theorem dL_looks_55 : decode cL_looks 55 = .ok (.irem, 1) := by decide +kernel
theorem dL_looks_56 : decode cL_looks 56 = .ok (.invokevirtual 19, 3) := by decide +kernel
theorem dL_looks_59 : decode cL_looks 59 = .ok (.i2l, 1) := by decide +kernel
theorem dL_looks_60 : decode cL_looks 60 = .ok (.ladd, 1) := by decide +kernel
theorem dL_looks_61 : decode cL_looks 61 = .ok (.lmul, 1) := by decide +kernel
theorem dL_looks_62 : decode cL_looks 62 = .ok (.aload_n 0, 1) := by decide +kernel
theorem dL_looks_63 : decode cL_looks 63 = .ok (.iload_n 3, 1) := by decide +kernel
theorem dL_looks_64 : decode cL_looks 64 = .ok (.bipush 6, 2) := by decide +kernel
theorem dL_looks_66 : decode cL_looks 66 = .ok (.idiv, 1) := by decide +kernel
theorem dL_looks_67 : decode cL_looks 67 = .ok (.iload_n 3, 1) := by decide +kernel
theorem dL_looks_68 : decode cL_looks 68 = .ok (.bipush 6, 2) := by decide +kernel
theorem dL_looks_70 : decode cL_looks 70 = .ok (.irem, 1) := by decide +kernel
theorem dL_looks_71 : decode cL_looks 71 = .ok (.invokevirtual 23, 3) := by decide +kernel
theorem dL_looks_74 : decode cL_looks 74 = .ok (.i2l, 1) := by decide +kernel
theorem dL_looks_75 : decode cL_looks 75 = .ok (.ladd, 1) := by decide +kernel
theorem dL_looks_76 : decode cL_looks 76 = .ok (.lstore_n 1, 1) := by decide +kernel
theorem dL_looks_77 : decode cL_looks 77 = .ok (.iinc 3 1, 3) := by decide +kernel
theorem dL_looks_80 : decode cL_looks 80 = .ok (.goto (-47), 3) := by decide +kernel
theorem dL_looks_83 : decode cL_looks 83 = .ok (.iconst 0, 1) := by decide +kernel
theorem dL_looks_84 : decode cL_looks 84 = .ok (.istore_n 3, 1) := by decide +kernel
theorem dL_looks_85 : decode cL_looks 85 = .ok (.iload_n 3, 1) := by decide +kernel
theorem dL_looks_86 : decode cL_looks 86 = .ok (.sipush 180, 3) := by decide +kernel
theorem dL_looks_89 : decode cL_looks 89 = .ok (.if_icmp .ge 34, 3) := by decide +kernel
theorem dL_looks_92 : decode cL_looks 92 = .ok (.ldc2_w 11, 3) := by decide +kernel
theorem dL_looks_95 : decode cL_looks 95 = .ok (.lload_n 1, 1) := by decide +kernel
theorem dL_looks_96 : decode cL_looks 96 = .ok (.lmul, 1) := by decide +kernel
theorem dL_looks_97 : decode cL_looks 97 = .ok (.aload_n 0, 1) := by decide +kernel
theorem dL_looks_98 : decode cL_looks 98 = .ok (.iload_n 3, 1) := by decide +kernel
theorem dL_looks_99 : decode cL_looks 99 = .ok (.bipush 30, 2) := by decide +kernel
theorem dL_looks_101 : decode cL_looks 101 = .ok (.idiv, 1) := by decide +kernel
theorem dL_looks_102 : decode cL_looks 102 = .ok (.iload_n 3, 1) := by decide +kernel
theorem dL_looks_103 : decode cL_looks 103 = .ok (.iconst 5, 1) := by decide +kernel
theorem dL_looks_104 : decode cL_looks 104 = .ok (.idiv, 1) := by decide +kernel
theorem dL_looks_105 : decode cL_looks 105 = .ok (.bipush 6, 2) := by decide +kernel
theorem dL_looks_107 : decode cL_looks 107 = .ok (.irem, 1) := by decide +kernel
theorem dL_looks_108 : decode cL_looks 108 = .ok (.iload_n 3, 1) := by decide +kernel
theorem dL_looks_109 : decode cL_looks 109 = .ok (.iconst 5, 1) := by decide +kernel
theorem dL_looks_110 : decode cL_looks 110 = .ok (.irem, 1) := by decide +kernel
theorem dL_looks_111 : decode cL_looks 111 = .ok (.invokevirtual 26, 3) := by decide +kernel
theorem dL_looks_114 : decode cL_looks 114 = .ok (.i2l, 1) := by decide +kernel
theorem dL_looks_115 : decode cL_looks 115 = .ok (.ladd, 1) := by decide +kernel
theorem dL_looks_116 : decode cL_looks 116 = .ok (.lstore_n 1, 1) := by decide +kernel
theorem dL_looks_117 : decode cL_looks 117 = .ok (.iinc 3 1, 3) := by decide +kernel
theorem dL_looks_120 : decode cL_looks 120 = .ok (.goto (-35), 3) := by decide +kernel
theorem dL_looks_123 : decode cL_looks 123 = .ok (.lload_n 1, 1) := by decide +kernel
theorem dL_looks_124 : decode cL_looks 124 = .ok (.aload_n 0, 1) := by decide +kernel
theorem dL_looks_125 : decode cL_looks 125 = .ok (.iconst 0, 1) := by decide +kernel
theorem dL_looks_126 : decode cL_looks 126 = .ok (.invokevirtual 30, 3) := by decide +kernel
theorem dL_looks_129 : decode cL_looks 129 = .ok (.i2l, 1) := by decide +kernel
theorem dL_looks_130 : decode cL_looks 130 = .ok (.ladd, 1) := by decide +kernel
theorem dL_looks_131 : decode cL_looks 131 = .ok (.ldc2_w 33, 3) := by decide +kernel
theorem dL_looks_134 : decode cL_looks 134 = .ok (.aload_n 0, 1) := by decide +kernel
theorem dL_looks_135 : decode cL_looks 135 = .ok (.iconst 1, 1) := by decide +kernel
theorem dL_looks_136 : decode cL_looks 136 = .ok (.invokevirtual 30, 3) := by decide +kernel
theorem dL_looks_139 : decode cL_looks 139 = .ok (.i2l, 1) := by decide +kernel
theorem dL_looks_140 : decode cL_looks 140 = .ok (.lmul, 1) := by decide +kernel
theorem dL_looks_141 : decode cL_looks 141 = .ok (.ladd, 1) := by decide +kernel
theorem dL_looks_142 : decode cL_looks 142 = .ok (.ldc2_w 35, 3) := by decide +kernel
theorem dL_looks_145 : decode cL_looks 145 = .ok (.aload_n 0, 1) := by decide +kernel
theorem dL_looks_146 : decode cL_looks 146 = .ok (.iconst 2, 1) := by decide +kernel
theorem dL_looks_147 : decode cL_looks 147 = .ok (.invokevirtual 30, 3) := by decide +kernel
theorem dL_looks_150 : decode cL_looks 150 = .ok (.i2l, 1) := by decide +kernel
theorem dL_looks_151 : decode cL_looks 151 = .ok (.lmul, 1) := by decide +kernel
theorem dL_looks_152 : decode cL_looks 152 = .ok (.ladd, 1) := by decide +kernel
theorem dL_looks_153 : decode cL_looks 153 = .ok (.lreturn, 1) := by decide +kernel
set_option maxRecDepth 20000 in
theorem ggL_act_L_up : GoodIn wsL_act wsL_up := goodIn_r _ [4, 5] (by decide +kernel) (by decide +kernel)
set_option maxRecDepth 20000 in
theorem gL_act_L_up : GoodIn wsL_act (va_wsS RL 37 yL_up wsL_up) := goodIn_app (goodIn_of _ (by decide +kernel)) ggL_act_L_up
set_option maxRecDepth 20000 in
theorem ggL_act_X4_price : GoodIn wsL_act wsX4_price := goodIn_ca (goodIn_ca (goodIn_r _ [10, 11, 12, 13, 14, 9, 15, 16, 17, 18, 19, 20, 21, 22, 23, 24, 25, 26, 27, 28, 29, 30, 31, 32, 33, 34, 35, 36, 37, 38, 39, 40, 41, 42, 43, 44, 45, 46, 47, 48, 49, 50, 51, 52, 310, 311, 312, 313, 314, 315, 316, 317, 318] (by decide +kernel) (by decide +kernel)) (goodIn_sub (fun _ h => List.mem_cons_of_mem _ (List.mem_append_left _ (List.mem_append_left _ (List.mem_append_right _ h)))) (by decide +kernel))) (goodIn_sub (fun _ h => List.mem_cons_of_mem _ (List.mem_append_left _ (List.mem_append_right _ h))) (by decide +kernel))
set_option maxRecDepth 20000 in
theorem gL_act_X4_price : GoodIn wsL_act (wsV RL 42 RX4 yX4_price wsX4_price) := goodIn_app (goodIn_of _ (by decide +kernel)) ggL_act_X4_price
set_option maxRecDepth 20000 in
theorem ggL_act_X4_pay : GoodIn wsL_act wsX4_pay := goodIn_ca (goodIn_ca (goodIn_ca (goodIn_r _ [56, 12, 11, 13, 14, 9, 15, 16, 17, 18, 19, 20, 21, 22, 57, 40, 41, 37, 42, 43, 44, 45, 46, 47, 58, 59, 60, 61, 62, 23, 24, 25, 26, 27, 28, 29, 30, 31, 32, 33, 34, 35, 36, 38, 39, 63, 64, 65, 66, 67, 50, 51, 52, 48, 310, 311, 312, 313, 318, 314, 315, 316, 317] (by decide +kernel) (by decide +kernel)) (goodIn_sub (fun _ h => List.mem_cons_of_mem _ (List.mem_append_left _ (List.mem_append_left _ (List.mem_append_right _ h)))) (by decide +kernel))) (goodIn_sub (fun _ h => List.mem_cons_of_mem _ (List.mem_append_left _ (List.mem_append_right _ h))) (by decide +kernel))) (goodIn_sub (fun _ h => List.mem_cons_of_mem _ (List.mem_append_right _ h)) (by decide +kernel))
set_option maxRecDepth 20000 in
theorem gL_act_X4_pay : GoodIn wsL_act (wsV RL 45 RX4 yX4_pay wsX4_pay) := goodIn_app (goodIn_of _ (by decide +kernel)) ggL_act_X4_pay
set_option maxRecDepth 20000 in
theorem ggL_act_X4_set : GoodIn wsL_act wsX4_set := goodIn_ca (goodIn_ca (goodIn_r _ [71, 11, 12, 13, 14, 9, 15, 16, 17, 72, 73, 37, 74, 18, 19, 20, 21, 22, 23, 24, 25, 26, 27, 28, 29, 30, 31, 32, 33, 34, 35, 36, 38, 39, 40, 41, 42, 43, 44, 45, 46, 47, 48, 49, 50, 51, 52, 310, 311, 312, 313, 314, 315, 316, 317, 318] (by decide +kernel) (by decide +kernel)) (goodIn_sub (fun _ h => List.mem_cons_of_mem _ (List.mem_append_left _ (List.mem_append_left _ (List.mem_append_right _ h)))) (by decide +kernel))) (goodIn_sub (fun _ h => List.mem_cons_of_mem _ (List.mem_append_left _ (List.mem_append_right _ h))) (by decide +kernel))
set_option maxRecDepth 20000 in
theorem gL_act_X4_set : GoodIn wsL_act (wsV RL 48 RX4 yX4_set wsX4_set) := goodIn_app (goodIn_of _ (by decide +kernel)) ggL_act_X4_set
set_option maxRecDepth 20000 in
theorem ggL_act_X4_pause : GoodIn wsL_act wsX4_pause := goodIn_ca (goodIn_r _ [78, 11, 12, 18, 19, 9, 20, 21, 22, 23, 24, 25, 26, 27, 28, 29, 30, 31, 32, 33, 34, 35, 36, 37, 38, 39, 40, 41, 42, 43, 44, 45, 46, 47, 79, 80, 81, 82, 83, 84, 85, 86, 67, 50, 51, 52, 310, 311, 312, 313, 314, 315, 316, 317, 318] (by decide +kernel) (by decide +kernel)) (goodIn_sub (fun _ h => List.mem_cons_of_mem _ (List.mem_append_left _ (List.mem_append_right _ h))) (by decide +kernel))
set_option maxRecDepth 20000 in
theorem gL_act_X4_pause : GoodIn wsL_act (wsV RL 51 RX4 yX4_pause wsX4_pause) := goodIn_app (goodIn_of _ (by decide +kernel)) ggL_act_X4_pause
set_option maxRecDepth 20000 in
theorem ggL_act_X4_sealed : GoodIn wsL_act wsX4_sealed := goodIn_ca (goodIn_ca (goodIn_r _ [90, 12, 13, 14, 9, 15, 16, 17, 18, 19, 20, 21, 22, 91, 92, 93, 37, 94, 95, 96, 97, 98, 39, 40, 41, 42, 43, 44, 45, 46, 47, 99, 100, 101, 102, 103, 104, 105, 106, 107, 108, 109, 110, 111, 112, 113, 114, 115, 116, 117, 118, 119, 120, 121, 310, 311, 312, 313, 318] (by decide +kernel) (by decide +kernel)) (goodIn_sub (fun _ h => List.mem_cons_of_mem _ (List.mem_append_left _ (List.mem_append_left _ (List.mem_append_right _ h)))) (by decide +kernel))) (goodIn_sub (fun _ h => List.mem_cons_of_mem _ (List.mem_append_left _ (List.mem_append_right _ h))) (by decide +kernel))
set_option maxRecDepth 20000 in
theorem gL_act_X4_sealed : GoodIn wsL_act (wsV RL 26 RX4 yX4_sealed wsX4_sealed) := goodIn_app (goodIn_of _ (by decide +kernel)) ggL_act_X4_sealed
set_option maxRecDepth 20000 in
theorem ggL_act_X4_withdraw : GoodIn wsL_act wsX4_withdraw := goodIn_ca (goodIn_ca (goodIn_r _ [125, 12, 11, 13, 14, 9, 15, 16, 17, 91, 92, 93, 37, 94, 95, 96, 97, 98, 39, 40, 41, 42, 43, 44, 45, 46, 47, 99, 100, 101, 102, 103, 104, 105, 106, 107, 108, 109, 110, 111, 112, 113, 58, 59, 60, 61, 62, 23, 24, 25, 26, 27, 28, 29, 30, 31, 32, 33, 34, 35, 36, 38, 126, 127, 128, 129, 67, 50, 51, 52, 130, 131, 132, 133, 134, 64, 65, 66, 310, 311, 312, 313, 318, 314, 315, 316, 317] (by decide +kernel) (by decide +kernel)) (goodIn_sub (fun _ h => List.mem_cons_of_mem _ (List.mem_append_left _ (List.mem_append_left _ (List.mem_append_right _ h)))) (by decide +kernel))) (goodIn_sub (fun _ h => List.mem_cons_of_mem _ (List.mem_append_right _ h)) (by decide +kernel))
set_option maxRecDepth 20000 in
theorem gL_act_X4_withdraw : GoodIn wsL_act (wsV RL 54 RX4 yX4_withdraw wsX4_withdraw) := goodIn_app (goodIn_of _ (by decide +kernel)) ggL_act_X4_withdraw
set_option maxRecDepth 20000 in
theorem ggL_act_X4_count : GoodIn wsL_act wsX4_count := goodIn_ca (goodIn_r _ [138, 21, 22, 12, 11, 57, 40, 41, 37, 42, 43, 44, 45, 46, 47, 120, 96, 97, 98, 39, 139, 140, 141, 142, 143, 144, 145, 146, 99, 100, 101, 102, 103, 104, 105, 106, 107, 108, 109, 147, 148, 149, 150, 151, 152, 153, 26, 154, 28, 310, 311, 312, 313, 318, 314, 315, 316, 317] (by decide +kernel) (by decide +kernel)) (goodIn_sub (fun _ h => List.mem_cons_of_mem _ (List.mem_append_left _ (List.mem_append_right _ h))) (by decide +kernel))
set_option maxRecDepth 20000 in
theorem gL_act_X4_count : GoodIn wsL_act (wsV RL 13 RX4 yX4_count wsX4_count) := goodIn_app (goodIn_of _ (by decide +kernel)) ggL_act_X4_count
set_option maxRecDepth 20000 in
theorem ggL_act_X4_open : GoodIn wsL_act wsX4_open := goodIn_ca (goodIn_r _ [158, 12, 11, 120, 96, 97, 37, 98, 39, 40, 41, 42, 43, 44, 45, 46, 47, 58, 59, 9, 60, 61, 62, 23, 24, 25, 26, 27, 28, 29, 30, 31, 32, 33, 34, 35, 36, 38, 159, 160, 161, 162, 163, 164, 165, 166, 167, 168, 169, 170, 171, 172, 173, 104, 105, 106, 107, 108, 109, 174, 175, 176, 177, 178, 179, 180, 181, 182, 183, 184, 185, 186, 187, 188, 189, 190, 191, 192, 193, 194, 195, 196, 197, 85, 198, 199, 200, 201, 202, 203, 204, 205, 206, 207, 208, 209, 210, 211, 212, 213, 214, 215, 67, 50, 51, 52, 216, 217, 218, 219, 220, 221, 222, 223, 224, 225, 226, 227, 228, 229, 230, 231, 232, 233, 234, 235, 236, 237, 238, 239, 130, 131, 132, 133, 134, 64, 65, 66, 310, 311, 312, 313, 318, 314, 315, 316, 317, 319, 320] (by decide +kernel) (by decide +kernel)) (goodIn_sub (fun _ h => List.mem_cons_of_mem _ (List.mem_append_right _ h)) (by decide +kernel))
set_option maxRecDepth 20000 in
theorem gL_act_X4_open : GoodIn wsL_act (wsV RL 57 RX4 yX4_open wsX4_open) := goodIn_app (goodIn_of _ (by decide +kernel)) ggL_act_X4_open
set_option maxRecDepth 20000 in
theorem ggL_act_X4_nextDay : GoodIn wsL_act wsX4_nextDay := goodIn_r _ [243, 11, 12, 23, 24, 25, 26, 27, 28, 29, 30, 31, 32, 33, 34, 35, 36, 37, 38, 39, 40, 41, 42, 43, 44, 45, 46, 47, 244, 245, 246, 247, 83, 84, 85, 86, 134, 64, 65, 66, 67, 50, 51, 52, 248, 249, 250, 251, 310, 311, 312, 313, 314, 315, 316, 317, 318] (by decide +kernel) (by decide +kernel)
set_option maxRecDepth 20000 in
theorem gL_act_X4_nextDay : GoodIn wsL_act (wsV RL 61 RX4 yX4_nextDay wsX4_nextDay) := goodIn_app (goodIn_of _ (by decide +kernel)) ggL_act_X4_nextDay
set_option maxRecDepth 20000 in
theorem ggL_act_X4_goBack : GoodIn wsL_act wsX4_goBack := goodIn_ca (goodIn_r _ [255, 11, 12, 256, 257, 258, 26, 259, 260, 58, 59, 9, 60, 61, 62, 23, 24, 25, 27, 28, 29, 30, 31, 32, 33, 34, 35, 36, 37, 38, 39, 40, 41, 42, 43, 44, 45, 46, 47, 261, 262, 263, 264, 265, 266, 267, 268, 269, 67, 50, 51, 52, 57, 310, 311, 312, 313, 314, 315, 316, 317, 318] (by decide +kernel) (by decide +kernel)) (goodIn_sub (fun _ h => List.mem_cons_of_mem _ (List.mem_append_right _ h)) (by decide +kernel))
set_option maxRecDepth 20000 in
theorem gL_act_X4_goBack : GoodIn wsL_act (wsV RL 64 RX4 yX4_goBack wsX4_goBack) := goodIn_app (goodIn_of _ (by decide +kernel)) ggL_act_X4_goBack
set_option maxRecDepth 20000 in
theorem ggL_act_X4_spot : GoodIn wsL_act wsX4_spot := goodIn_ca (goodIn_ca (goodIn_r _ [273, 21, 22, 12, 13, 14, 9, 15, 16, 17, 48, 44, 45, 37, 46, 47, 274, 275, 276, 277, 99, 100, 101, 102, 103, 104, 105, 106, 107, 108, 109, 43, 310, 311, 312, 313, 318] (by decide +kernel) (by decide +kernel)) (goodIn_sub (fun _ h => List.mem_cons_of_mem _ (List.mem_append_left _ (List.mem_append_right _ h))) (by decide +kernel))) (goodIn_sub (fun _ h => List.mem_cons_of_mem _ (List.mem_append_left _ (List.mem_append_left _ (List.mem_append_right _ h)))) (by decide +kernel))
set_option maxRecDepth 20000 in
theorem gL_act_X4_spot : GoodIn wsL_act (wsV RL 19 RX4 yX4_spot wsX4_spot) := goodIn_app (goodIn_of _ (by decide +kernel)) ggL_act_X4_spot
set_option maxRecDepth 20000 in
theorem ggL_act_X4_fish : GoodIn wsL_act wsX4_fish := goodIn_ca (goodIn_ca (goodIn_r _ [281, 12, 11, 13, 14, 9, 15, 16, 17, 282, 283, 284, 37, 285, 95, 96, 97, 98, 39, 40, 41, 42, 43, 44, 45, 46, 47, 58, 59, 60, 61, 62, 23, 24, 25, 26, 27, 28, 29, 30, 31, 32, 33, 34, 35, 36, 38, 286, 287, 288, 289, 83, 84, 85, 86, 134, 64, 65, 66, 67, 50, 51, 52, 290, 291, 292, 293, 310, 311, 312, 313, 318, 314, 315, 316, 317] (by decide +kernel) (by decide +kernel)) (goodIn_sub (fun _ h => List.mem_cons_of_mem _ (List.mem_append_left _ (List.mem_append_left _ (List.mem_append_right _ h)))) (by decide +kernel))) (goodIn_sub (fun _ h => List.mem_cons_of_mem _ (List.mem_append_right _ h)) (by decide +kernel))
set_option maxRecDepth 20000 in
theorem gL_act_X4_fish : GoodIn wsL_act (wsV RL 67 RX4 yX4_fish wsX4_fish) := goodIn_app (goodIn_of _ (by decide +kernel)) ggL_act_X4_fish
set_option maxRecDepth 20000 in
theorem ggL_act_X4_why : GoodIn wsL_act wsX4_why := goodIn_ca (goodIn_ca (goodIn_r _ [297, 12, 13, 14, 9, 15, 16, 17, 18, 19, 20, 21, 22, 298, 299, 300, 37, 301, 95, 96, 97, 98, 39, 40, 41, 42, 43, 44, 45, 46, 47, 99, 100, 101, 102, 103, 104, 105, 106, 107, 108, 109, 310, 311, 312, 313, 318] (by decide +kernel) (by decide +kernel)) (goodIn_sub (fun _ h => List.mem_cons_of_mem _ (List.mem_append_left _ (List.mem_append_left _ (List.mem_append_right _ h)))) (by decide +kernel))) (goodIn_sub (fun _ h => List.mem_cons_of_mem _ (List.mem_append_left _ (List.mem_append_right _ h))) (by decide +kernel))
set_option maxRecDepth 20000 in
theorem gL_act_X4_why : GoodIn wsL_act (wsV RL 70 RX4 yX4_why wsX4_why) := goodIn_app (goodIn_of _ (by decide +kernel)) ggL_act_X4_why
set_option maxRecDepth 20000 in
theorem ggL_act_X4_bid : GoodIn wsL_act wsX4_bid := goodIn_ca (goodIn_ca (goodIn_ca (goodIn_r _ [305, 12, 11, 13, 14, 9, 15, 16, 17, 18, 19, 20, 21, 22, 298, 299, 300, 37, 301, 95, 96, 97, 98, 39, 40, 41, 42, 43, 44, 45, 46, 47, 99, 100, 101, 102, 103, 104, 105, 106, 107, 108, 109, 58, 59, 60, 61, 62, 23, 24, 25, 26, 27, 28, 29, 30, 31, 32, 33, 34, 35, 36, 38, 306, 307, 308, 309, 67, 50, 51, 52, 134, 64, 65, 66, 310, 311, 312, 313, 318, 314, 315, 316, 317] (by decide +kernel) (by decide +kernel)) (goodIn_sub (fun _ h => List.mem_cons_of_mem _ (List.mem_append_left _ (List.mem_append_left _ (List.mem_append_right _ h)))) (by decide +kernel))) (goodIn_sub (fun _ h => List.mem_cons_of_mem _ (List.mem_append_left _ (List.mem_append_right _ h))) (by decide +kernel))) (goodIn_sub (fun _ h => List.mem_cons_of_mem _ (List.mem_append_right _ h)) (by decide +kernel))
set_option maxRecDepth 20000 in
theorem gL_act_X4_bid : GoodIn wsL_act (wsV RL 73 RX4 yX4_bid wsX4_bid) := goodIn_app (goodIn_of _ (by decide +kernel)) ggL_act_X4_bid
theorem dL_act_0 : decode cL_act 0 = .ok (.iload_n 2, 1) := by decide +kernel
theorem dL_act_1 : decode cL_act 1 = .ok (.bipush 6, 2) := by decide +kernel
theorem dL_act_3 : decode cL_act 3 = .ok (.invokestatic 37, 3) := by decide +kernel
theorem dL_act_6 : decode cL_act 6 = .ok (.istore_n 3, 1) := by decide +kernel
theorem dL_act_7 : decode cL_act 7 = .ok (.iload_n 2, 1) := by decide +kernel
theorem dL_act_8 : decode cL_act 8 = .ok (.iconst 3, 1) := by decide +kernel
theorem dL_act_9 : decode cL_act 9 = .ok (.ishr, 1) := by decide +kernel
theorem dL_act_10 : decode cL_act 10 = .ok (.bipush 6, 2) := by decide +kernel
theorem dL_act_12 : decode cL_act 12 = .ok (.invokestatic 37, 3) := by decide +kernel
theorem dL_act_15 : decode cL_act 15 = .ok (.istore 4, 2) := by decide +kernel
theorem dL_act_17 : decode cL_act 17 = .ok (.iconst 1, 1) := by decide +kernel
theorem dL_act_18 : decode cL_act 18 = .ok (.iload_n 2, 1) := by decide +kernel
theorem dL_act_19 : decode cL_act 19 = .ok (.bipush 6, 2) := by decide +kernel
theorem dL_act_21 : decode cL_act 21 = .ok (.ishr, 1) := by decide +kernel
theorem dL_act_22 : decode cL_act 22 = .ok (.iload_n 2, 1) := by decide +kernel
theorem dL_act_23 : decode cL_act 23 = .ok (.bipush 15, 2) := by decide +kernel
theorem dL_act_25 : decode cL_act 25 = .ok (.ishr, 1) := by decide +kernel
theorem dL_act_26 : decode cL_act 26 = .ok (.iconst 1, 1) := by decide +kernel
theorem dL_act_27 : decode cL_act 27 = .ok (.iand, 1) := by decide +kernel
theorem dL_act_28 : decode cL_act 28 = .ok (.ifCond .ne 8, 3) := by decide +kernel
theorem dL_act_31 : decode cL_act 31 = .ok (.bipush 99, 2) := by decide +kernel
theorem dL_act_33 : decode cL_act 33 = .ok (.goto 5, 3) := by decide +kernel
theorem dL_act_36 : decode cL_act 36 = .ok (.bipush 40, 2) := by decide +kernel
theorem dL_act_38 : decode cL_act 38 = .ok (.invokestatic 37, 3) := by decide +kernel
theorem dL_act_41 : decode cL_act 41 = .ok (.iadd, 1) := by decide +kernel
theorem dL_act_42 : decode cL_act 42 = .ok (.istore 5, 2) := by decide +kernel
theorem dL_act_44 : decode cL_act 44 = .ok (.iload_n 1, 1) := by decide +kernel
theorem dL_act_45 : decode cL_act 45 = .ok (.bipush 20, 2) := by decide +kernel
theorem dL_act_47 : decode cL_act 47 = .ok (.invokestatic 37, 3) := by decide +kernel
theorem dL_act_50 : decode cL_act 50 = .ok (.tableswitch 279 0 11 #[62, 92, 109, 152, 165, 165, 192, 192, 212, 230, 230, 230], 62) := by decide +kernel
theorem dL_act_112 : decode cL_act 112 = .ok (.aload_n 0, 1) := by decide +kernel
theorem dL_act_113 : decode cL_act 113 = .ok (.iload 4, 2) := by decide +kernel
theorem dL_act_115 : decode cL_act 115 = .ok (.iload_n 2, 1) := by decide +kernel
theorem dL_act_116 : decode cL_act 116 = .ok (.bipush 6, 2) := by decide +kernel
theorem dL_act_118 : decode cL_act 118 = .ok (.ishr, 1) := by decide +kernel
theorem dL_act_119 : decode cL_act 119 = .ok (.iload_n 2, 1) := by decide +kernel
theorem dL_act_120 : decode cL_act 120 = .ok (.bipush 14, 2) := by decide +kernel
theorem dL_act_122 : decode cL_act 122 = .ok (.ishr, 1) := by decide +kernel
theorem dL_act_123 : decode cL_act 123 = .ok (.iconst 3, 1) := by decide +kernel
theorem dL_act_124 : decode cL_act 124 = .ok (.iand, 1) := by decide +kernel
theorem dL_act_125 : decode cL_act 125 = .ok (.ifCond .ne 8, 3) := by decide +kernel
theorem dL_act_128 : decode cL_act 128 = .ok (.bipush 100, 2) := by decide +kernel
theorem dL_act_130 : decode cL_act 130 = .ok (.goto 5, 3) := by decide +kernel
theorem dL_act_133 : decode cL_act 133 = .ok (.bipush 25, 2) := by decide +kernel
theorem dL_act_135 : decode cL_act 135 = .ok (.invokestatic 37, 3) := by decide +kernel
theorem dL_act_138 : decode cL_act 138 = .ok (.invokevirtual 42, 3) := by decide +kernel
theorem dL_act_141 : decode cL_act 141 = .ok (.ireturn, 1) := by decide +kernel
theorem dL_act_142 : decode cL_act 142 = .ok (.aload_n 0, 1) := by decide +kernel
theorem dL_act_143 : decode cL_act 143 = .ok (.iload_n 3, 1) := by decide +kernel
theorem dL_act_144 : decode cL_act 144 = .ok (.iconst 1, 1) := by decide +kernel
theorem dL_act_145 : decode cL_act 145 = .ok (.iload_n 2, 1) := by decide +kernel
theorem dL_act_146 : decode cL_act 146 = .ok (.bipush 6, 2) := by decide +kernel
theorem dL_act_148 : decode cL_act 148 = .ok (.ishr, 1) := by decide +kernel
theorem dL_act_149 : decode cL_act 149 = .ok (.bipush 60, 2) := by decide +kernel
theorem dL_act_151 : decode cL_act 151 = .ok (.invokestatic 37, 3) := by decide +kernel
theorem dL_act_154 : decode cL_act 154 = .ok (.iadd, 1) := by decide +kernel
theorem dL_act_155 : decode cL_act 155 = .ok (.invokevirtual 45, 3) := by decide +kernel
theorem dL_act_158 : decode cL_act 158 = .ok (.ireturn, 1) := by decide +kernel
theorem dL_act_159 : decode cL_act 159 = .ok (.iload_n 2, 1) := by decide +kernel
theorem dL_act_160 : decode cL_act 160 = .ok (.iconst 3, 1) := by decide +kernel
theorem dL_act_161 : decode cL_act 161 = .ok (.invokestatic 37, 3) := by decide +kernel
theorem dL_act_164 : decode cL_act 164 = .ok (.istore 6, 2) := by decide +kernel
theorem dL_act_166 : decode cL_act 166 = .ok (.aload_n 0, 1) := by decide +kernel
theorem dL_act_167 : decode cL_act 167 = .ok (.iload 6, 2) := by decide +kernel
theorem dL_act_169 : decode cL_act 169 = .ok (.iload_n 2, 1) := by decide +kernel
theorem dL_act_170 : decode cL_act 170 = .ok (.iconst 2, 1) := by decide +kernel
theorem dL_act_171 : decode cL_act 171 = .ok (.ishr, 1) := by decide +kernel
theorem dL_act_172 : decode cL_act 172 = .ok (.iload 6, 2) := by decide +kernel
theorem dL_act_174 : decode cL_act 174 = .ok (.ifCond .ne 8, 3) := by decide +kernel
theorem dL_act_177 : decode cL_act 177 = .ok (.bipush 21, 2) := by decide +kernel
theorem dL_act_179 : decode cL_act 179 = .ok (.goto 16, 3) := by decide +kernel
theorem dL_act_182 : decode cL_act 182 = .ok (.iload 6, 2) := by decide +kernel
theorem dL_act_184 : decode cL_act 184 = .ok (.iconst 1, 1) := by decide +kernel
theorem dL_act_185 : decode cL_act 185 = .ok (.if_icmp .ne 8, 3) := by decide +kernel
theorem dL_act_188 : decode cL_act 188 = .ok (.bipush 10, 2) := by decide +kernel
theorem dL_act_190 : decode cL_act 190 = .ok (.goto 5, 3) := by decide +kernel
theorem dL_act_193 : decode cL_act 193 = .ok (.bipush 51, 2) := by decide +kernel
theorem dL_act_195 : decode cL_act 195 = .ok (.invokestatic 37, 3) := by decide +kernel
theorem dL_act_198 : decode cL_act 198 = .ok (.invokevirtual 48, 3) := by decide +kernel
theorem dL_act_201 : decode cL_act 201 = .ok (.ireturn, 1) := by decide +kernel
theorem dL_act_202 : decode cL_act 202 = .ok (.aload_n 0, 1) := by decide +kernel
theorem dL_act_203 : decode cL_act 203 = .ok (.iconst 1, 1) := by decide +kernel
theorem dL_act_204 : decode cL_act 204 = .ok (.iload_n 2, 1) := by decide +kernel
theorem dL_act_205 : decode cL_act 205 = .ok (.bipush 23, 2) := by decide +kernel
theorem dL_act_207 : decode cL_act 207 = .ok (.invokestatic 37, 3) := by decide +kernel
theorem dL_act_210 : decode cL_act 210 = .ok (.iadd, 1) := by decide +kernel
theorem dL_act_211 : decode cL_act 211 = .ok (.invokevirtual 51, 3) := by decide +kernel
theorem dL_act_214 : decode cL_act 214 = .ok (.ireturn, 1) := by decide +kernel
theorem dL_act_215 : decode cL_act 215 = .ok (.aload_n 0, 1) := by decide +kernel
theorem dL_act_216 : decode cL_act 216 = .ok (.iload_n 3, 1) := by decide +kernel
theorem dL_act_217 : decode cL_act 217 = .ok (.iload 4, 2) := by decide +kernel
theorem dL_act_219 : decode cL_act 219 = .ok (.iconst 4, 1) := by decide +kernel
theorem dL_act_220 : decode cL_act 220 = .ok (.invokevirtual 26, 3) := by decide +kernel
theorem dL_act_223 : decode cL_act 223 = .ok (.ifCond .ne 13, 3) := by decide +kernel
theorem dL_act_226 : decode cL_act 226 = .ok (.aload_n 0, 1) := by decide +kernel
theorem dL_act_227 : decode cL_act 227 = .ok (.iload_n 3, 1) := by decide +kernel
theorem dL_act_228 : decode cL_act 228 = .ok (.iload 4, 2) := by decide +kernel
theorem dL_act_230 : decode cL_act 230 = .ok (.invokevirtual 54, 3) := by decide +kernel
theorem dL_act_233 : decode cL_act 233 = .ok (.goto 8, 3) := by decide +kernel
theorem dL_act_236 : decode cL_act 236 = .ok (.aload_n 0, 1) := by decide +kernel
theorem dL_act_237 : decode cL_act 237 = .ok (.iconst 1, 1) := by decide +kernel
theorem dL_act_238 : decode cL_act 238 = .ok (.invokevirtual 51, 3) := by decide +kernel
theorem dL_act_241 : decode cL_act 241 = .ok (.ireturn, 1) := by decide +kernel
theorem dL_act_242 : decode cL_act 242 = .ok (.aload_n 0, 1) := by decide +kernel
theorem dL_act_243 : decode cL_act 243 = .ok (.iconst 2, 1) := by decide +kernel
theorem dL_act_244 : decode cL_act 244 = .ok (.invokevirtual 13, 3) := by decide +kernel
theorem dL_act_247 : decode cL_act 247 = .ok (.ifCond .ne 10, 3) := by decide +kernel
theorem dL_act_250 : decode cL_act 250 = .ok (.aload_n 0, 1) := by decide +kernel
theorem dL_act_251 : decode cL_act 251 = .ok (.invokevirtual 57, 3) := by decide +kernel
theorem dL_act_254 : decode cL_act 254 = .ok (.goto 7, 3) := by decide +kernel
theorem dL_act_257 : decode cL_act 257 = .ok (.aload_n 0, 1) := by decide +kernel
theorem dL_act_258 : decode cL_act 258 = .ok (.invokevirtual 61, 3) := by decide +kernel
theorem dL_act_261 : decode cL_act 261 = .ok (.ireturn, 1) := by decide +kernel
theorem dL_act_262 : decode cL_act 262 = .ok (.iload_n 2, 1) := by decide +kernel
theorem dL_act_263 : decode cL_act 263 = .ok (.iconst 3, 1) := by decide +kernel
theorem dL_act_264 : decode cL_act 264 = .ok (.iand, 1) := by decide +kernel
theorem dL_act_265 : decode cL_act 265 = .ok (.ifCond .ne 10, 3) := by decide +kernel
theorem dL_act_268 : decode cL_act 268 = .ok (.aload_n 0, 1) := by decide +kernel
theorem dL_act_269 : decode cL_act 269 = .ok (.invokevirtual 64, 3) := by decide +kernel
theorem dL_act_272 : decode cL_act 272 = .ok (.goto 7, 3) := by decide +kernel
theorem dL_act_275 : decode cL_act 275 = .ok (.aload_n 0, 1) := by decide +kernel
theorem dL_act_276 : decode cL_act 276 = .ok (.invokevirtual 61, 3) := by decide +kernel
theorem dL_act_279 : decode cL_act 279 = .ok (.ireturn, 1) := by decide +kernel
theorem dL_act_280 : decode cL_act 280 = .ok (.aload_n 0, 1) := by decide +kernel
theorem dL_act_281 : decode cL_act 281 = .ok (.iload 4, 2) := by decide +kernel
theorem dL_act_283 : decode cL_act 283 = .ok (.iconst 2, 1) := by decide +kernel
theorem dL_act_284 : decode cL_act 284 = .ok (.invokevirtual 19, 3) := by decide +kernel
theorem dL_act_287 : decode cL_act 287 = .ok (.ifCond .lt 12, 3) := by decide +kernel
theorem dL_act_290 : decode cL_act 290 = .ok (.aload_n 0, 1) := by decide +kernel
theorem dL_act_291 : decode cL_act 291 = .ok (.iload 4, 2) := by decide +kernel
theorem dL_act_293 : decode cL_act 293 = .ok (.invokevirtual 67, 3) := by decide +kernel
theorem dL_act_296 : decode cL_act 296 = .ok (.goto 32, 3) := by decide +kernel
theorem dL_act_299 : decode cL_act 299 = .ok (.aload_n 0, 1) := by decide +kernel
theorem dL_act_300 : decode cL_act 300 = .ok (.iload_n 3, 1) := by decide +kernel
theorem dL_act_301 : decode cL_act 301 = .ok (.iload 4, 2) := by decide +kernel
theorem dL_act_303 : decode cL_act 303 = .ok (.iload 5, 2) := by decide +kernel
theorem dL_act_305 : decode cL_act 305 = .ok (.invokevirtual 70, 3) := by decide +kernel
theorem dL_act_308 : decode cL_act 308 = .ok (.ifCond .ne 15, 3) := by decide +kernel
theorem dL_act_311 : decode cL_act 311 = .ok (.aload_n 0, 1) := by decide +kernel
theorem dL_act_312 : decode cL_act 312 = .ok (.iload_n 3, 1) := by decide +kernel
theorem dL_act_313 : decode cL_act 313 = .ok (.iload 4, 2) := by decide +kernel
theorem dL_act_315 : decode cL_act 315 = .ok (.iload 5, 2) := by decide +kernel
theorem dL_act_317 : decode cL_act 317 = .ok (.invokevirtual 73, 3) := by decide +kernel
theorem dL_act_320 : decode cL_act 320 = .ok (.goto 8, 3) := by decide +kernel
theorem dL_act_323 : decode cL_act 323 = .ok (.aload_n 0, 1) := by decide +kernel
theorem dL_act_324 : decode cL_act 324 = .ok (.iconst 1, 1) := by decide +kernel
theorem dL_act_325 : decode cL_act 325 = .ok (.invokevirtual 51, 3) := by decide +kernel
theorem dL_act_328 : decode cL_act 328 = .ok (.ireturn, 1) := by decide +kernel
theorem dL_act_329 : decode cL_act 329 = .ok (.aload_n 0, 1) := by decide +kernel
theorem dL_act_330 : decode cL_act 330 = .ok (.iload_n 3, 1) := by decide +kernel
theorem dL_act_331 : decode cL_act 331 = .ok (.iload 4, 2) := by decide +kernel
theorem dL_act_333 : decode cL_act 333 = .ok (.iload 5, 2) := by decide +kernel
theorem dL_act_335 : decode cL_act 335 = .ok (.invokevirtual 70, 3) := by decide +kernel
theorem dL_act_338 : decode cL_act 338 = .ok (.ifCond .ne 15, 3) := by decide +kernel
theorem dL_act_341 : decode cL_act 341 = .ok (.aload_n 0, 1) := by decide +kernel
theorem dL_act_342 : decode cL_act 342 = .ok (.iload_n 3, 1) := by decide +kernel
theorem dL_act_343 : decode cL_act 343 = .ok (.iload 4, 2) := by decide +kernel
theorem dL_act_345 : decode cL_act 345 = .ok (.iload 5, 2) := by decide +kernel
theorem dL_act_347 : decode cL_act 347 = .ok (.invokevirtual 73, 3) := by decide +kernel
theorem dL_act_350 : decode cL_act 350 = .ok (.goto 24, 3) := by decide +kernel
theorem dL_act_353 : decode cL_act 353 = .ok (.aload_n 0, 1) := by decide +kernel
theorem dL_act_354 : decode cL_act 354 = .ok (.iconst 2, 1) := by decide +kernel
theorem dL_act_355 : decode cL_act 355 = .ok (.invokevirtual 13, 3) := by decide +kernel
theorem dL_act_358 : decode cL_act 358 = .ok (.iconst 1, 1) := by decide +kernel
theorem dL_act_359 : decode cL_act 359 = .ok (.if_icmp .ne 10, 3) := by decide +kernel
theorem dL_act_362 : decode cL_act 362 = .ok (.aload_n 0, 1) := by decide +kernel
theorem dL_act_363 : decode cL_act 363 = .ok (.invokevirtual 61, 3) := by decide +kernel
theorem dL_act_366 : decode cL_act 366 = .ok (.goto 8, 3) := by decide +kernel
theorem dL_act_369 : decode cL_act 369 = .ok (.aload_n 0, 1) := by decide +kernel
theorem dL_act_370 : decode cL_act 370 = .ok (.iconst 1, 1) := by decide +kernel
theorem dL_act_371 : decode cL_act 371 = .ok (.invokevirtual 51, 3) := by decide +kernel
theorem dL_act_374 : decode cL_act 374 = .ok (.ireturn, 1) := by decide +kernel
set_option maxRecDepth 20000 in
theorem ggL_holds_X4_count : GoodIn wsL_holds wsX4_count := goodIn_ca (goodIn_r _ [6, 7, 8, 9, 10, 11, 12, 13, 14, 15, 16, 17, 18, 19, 20, 21, 22, 23, 24, 25, 26, 27, 28, 29, 30, 31, 32, 33, 34, 35, 36, 37, 38, 39, 40, 41, 42, 43, 44, 45, 46, 47, 48, 49, 50, 51, 52, 53, 54, 110, 111, 112, 113, 114, 115, 116, 117, 118] (by decide +kernel) (by decide +kernel)) (goodIn_sub (fun _ h => List.mem_cons_of_mem _ (List.mem_append_left _ (List.mem_append_right _ h))) (by decide +kernel))
set_option maxRecDepth 20000 in
theorem gL_holds_X4_count : GoodIn wsL_holds (wsV RL 13 RX4 yX4_count wsX4_count) := goodIn_app (goodIn_of _ (by decide +kernel)) ggL_holds_X4_count
set_option maxRecDepth 20000 in
theorem ggL_holds_X4_spot : GoodIn wsL_holds wsX4_spot := goodIn_ca (goodIn_ca (goodIn_r _ [58, 7, 8, 9, 59, 60, 5, 61, 62, 63, 64, 17, 18, 14, 19, 20, 65, 66, 67, 68, 34, 35, 36, 37, 38, 39, 40, 41, 42, 43, 44, 16, 110, 111, 112, 113, 114] (by decide +kernel) (by decide +kernel)) (goodIn_sub (fun _ h => List.mem_cons_of_mem _ (List.mem_append_left _ (List.mem_append_right _ h))) (by decide +kernel))) (goodIn_sub (fun _ h => List.mem_cons_of_mem _ (List.mem_append_right _ h)) (by decide +kernel))
set_option maxRecDepth 20000 in
theorem gL_holds_X4_spot : GoodIn wsL_holds (wsV RL 19 RX4 yX4_spot wsX4_spot) := goodIn_app (goodIn_of _ (by decide +kernel)) ggL_holds_X4_spot
set_option maxRecDepth 20000 in
theorem ggL_holds_X4_bidder : GoodIn wsL_holds wsX4_bidder := goodIn_ca (goodIn_ca (goodIn_r _ [72, 7, 8, 9, 59, 60, 5, 61, 62, 63, 64, 17, 18, 14, 19, 20, 73, 31, 32, 33, 34, 35, 36, 37, 38, 39, 40, 41, 42, 43, 44, 16, 74, 75, 76, 77, 110, 111, 112, 113, 114] (by decide +kernel) (by decide +kernel)) (goodIn_sub (fun _ h => List.mem_cons_of_mem _ (List.mem_append_left _ (List.mem_append_right _ h))) (by decide +kernel))) (goodIn_sub (fun _ h => List.mem_cons_of_mem _ (List.mem_append_right _ h)) (by decide +kernel))
set_option maxRecDepth 20000 in
theorem gL_holds_X4_bidder : GoodIn wsL_holds (wsV RL 23 RX4 yX4_bidder wsX4_bidder) := goodIn_app (goodIn_of _ (by decide +kernel)) ggL_holds_X4_bidder
set_option maxRecDepth 20000 in
theorem ggL_holds_X4_sealed : GoodIn wsL_holds wsX4_sealed := goodIn_ca (goodIn_ca (goodIn_r _ [81, 9, 59, 60, 5, 61, 62, 63, 82, 83, 84, 7, 8, 85, 86, 87, 14, 88, 89, 22, 23, 24, 25, 12, 13, 15, 16, 17, 18, 19, 20, 34, 35, 36, 37, 38, 39, 40, 41, 42, 43, 44, 90, 91, 92, 93, 94, 95, 96, 97, 98, 99, 21, 100, 110, 111, 112, 113, 114] (by decide +kernel) (by decide +kernel)) (goodIn_sub (fun _ h => List.mem_cons_of_mem _ (List.mem_append_right _ h)) (by decide +kernel))) (goodIn_sub (fun _ h => List.mem_cons_of_mem _ (List.mem_append_left _ (List.mem_append_right _ h))) (by decide +kernel))
set_option maxRecDepth 20000 in
theorem gL_holds_X4_sealed : GoodIn wsL_holds (wsV RL 26 RX4 yX4_sealed wsX4_sealed) := goodIn_app (goodIn_of _ (by decide +kernel)) ggL_holds_X4_sealed
set_option maxRecDepth 20000 in
theorem ggL_holds_X4_chestShare : GoodIn wsL_holds wsX4_chestShare := goodIn_ca (goodIn_r _ [104, 105, 3, 4, 5, 6, 7, 8, 9, 10, 11, 12, 13, 14, 15, 16, 17, 18, 19, 20, 21, 22, 23, 24, 25, 26, 27, 28, 29, 30, 31, 32, 33, 34, 35, 36, 37, 38, 39, 40, 41, 42, 43, 44, 45, 46, 47, 48, 49, 50, 51, 52, 53, 54, 110, 111, 112, 113, 114, 115, 116, 117, 118] (by decide +kernel) (by decide +kernel)) (goodIn_sub (fun _ h => List.mem_cons_of_mem _ (List.mem_append_left _ (List.mem_append_right _ h))) (by decide +kernel))
set_option maxRecDepth 20000 in
theorem gL_holds_X4_chestShare : GoodIn wsL_holds (wsV RL 76 RX4 yX4_chestShare wsX4_chestShare) := goodIn_app (goodIn_of _ (by decide +kernel)) ggL_holds_X4_chestShare
set_option maxRecDepth 20000 in
theorem ggL_holds_X4_meanPrice : GoodIn wsL_holds wsX4_meanPrice := goodIn_ca (goodIn_r _ [109, 105, 3, 4, 5, 6, 7, 8, 9, 10, 11, 12, 13, 14, 15, 16, 17, 18, 19, 20, 21, 22, 23, 24, 25, 26, 27, 28, 29, 30, 31, 32, 33, 34, 35, 36, 37, 38, 39, 40, 41, 42, 43, 44, 45, 46, 47, 48, 49, 50, 51, 52, 53, 54, 110, 111, 112, 113, 114, 115, 116, 117, 118] (by decide +kernel) (by decide +kernel)) (goodIn_sub (fun _ h => List.mem_cons_of_mem _ (List.mem_append_left _ (List.mem_append_right _ h))) (by decide +kernel))
set_option maxRecDepth 20000 in
theorem gL_holds_X4_meanPrice : GoodIn wsL_holds (wsV RL 80 RX4 yX4_meanPrice wsX4_meanPrice) := goodIn_app (goodIn_of _ (by decide +kernel)) ggL_holds_X4_meanPrice
theorem dL_holds_0 : decode cL_holds 0 = .ok (.iconst 0, 1) := by decide +kernel
theorem dL_holds_1 : decode cL_holds 1 = .ok (.istore_n 1, 1) := by decide +kernel
theorem dL_holds_2 : decode cL_holds 2 = .ok (.iconst 0, 1) := by decide +kernel
theorem dL_holds_3 : decode cL_holds 3 = .ok (.istore_n 2, 1) := by decide +kernel
theorem dL_holds_4 : decode cL_holds 4 = .ok (.iconst 0, 1) := by decide +kernel
theorem dL_holds_5 : decode cL_holds 5 = .ok (.istore_n 3, 1) := by decide +kernel
theorem dL_holds_6 : decode cL_holds 6 = .ok (.iconst 0, 1) := by decide +kernel
theorem dL_holds_7 : decode cL_holds 7 = .ok (.istore 4, 2) := by decide +kernel
theorem dL_holds_9 : decode cL_holds 9 = .ok (.iconst 0, 1) := by decide +kernel
theorem dL_holds_10 : decode cL_holds 10 = .ok (.istore 5, 2) := by decide +kernel
theorem dL_holds_12 : decode cL_holds 12 = .ok (.iconst 0, 1) := by decide +kernel
theorem dL_holds_13 : decode cL_holds 13 = .ok (.istore 6, 2) := by decide +kernel
theorem dL_holds_15 : decode cL_holds 15 = .ok (.iconst 0, 1) := by decide +kernel
theorem dL_holds_16 : decode cL_holds 16 = .ok (.istore 7, 2) := by decide +kernel
theorem dL_holds_18 : decode cL_holds 18 = .ok (.iconst 0, 1) := by decide +kernel
theorem dL_holds_19 : decode cL_holds 19 = .ok (.istore 8, 2) := by decide +kernel
theorem dL_holds_21 : decode cL_holds 21 = .ok (.aload_n 0, 1) := by decide +kernel
theorem dL_holds_22 : decode cL_holds 22 = .ok (.iconst 4, 1) := by decide +kernel
theorem dL_holds_23 : decode cL_holds 23 = .ok (.invokevirtual 13, 3) := by decide +kernel
theorem dL_holds_26 : decode cL_holds 26 = .ok (.aload_n 0, 1) := by decide +kernel
theorem dL_holds_27 : decode cL_holds 27 = .ok (.iconst 5, 1) := by decide +kernel
theorem dL_holds_28 : decode cL_holds 28 = .ok (.invokevirtual 13, 3) := by decide +kernel
theorem dL_holds_31 : decode cL_holds 31 = .ok (.iadd, 1) := by decide +kernel
theorem dL_holds_32 : decode cL_holds 32 = .ok (.aload_n 0, 1) := by decide +kernel
theorem dL_holds_33 : decode cL_holds 33 = .ok (.bipush 6, 2) := by decide +kernel
theorem dL_holds_35 : decode cL_holds 35 = .ok (.invokevirtual 13, 3) := by decide +kernel
theorem dL_holds_38 : decode cL_holds 38 = .ok (.if_icmp .ne 91, 3) := by decide +kernel
theorem dL_holds_41 : decode cL_holds 41 = .ok (.aload_n 0, 1) := by decide +kernel
theorem dL_holds_42 : decode cL_holds 42 = .ok (.iconst 4, 1) := by decide +kernel
theorem dL_holds_43 : decode cL_holds 43 = .ok (.invokevirtual 13, 3) := by decide +kernel
theorem dL_holds_46 : decode cL_holds 46 = .ok (.aload_n 0, 1) := by decide +kernel
theorem dL_holds_47 : decode cL_holds 47 = .ok (.bipush 7, 2) := by decide +kernel
theorem dL_holds_49 : decode cL_holds 49 = .ok (.invokevirtual 13, 3) := by decide +kernel
theorem dL_holds_52 : decode cL_holds 52 = .ok (.aload_n 0, 1) := by decide +kernel
theorem dL_holds_53 : decode cL_holds 53 = .ok (.bipush 8, 2) := by decide +kernel
theorem dL_holds_55 : decode cL_holds 55 = .ok (.invokevirtual 13, 3) := by decide +kernel
theorem dL_holds_58 : decode cL_holds 58 = .ok (.iadd, 1) := by decide +kernel
theorem dL_holds_59 : decode cL_holds 59 = .ok (.if_icmp .ne 70, 3) := by decide +kernel
theorem dL_holds_62 : decode cL_holds 62 = .ok (.aload_n 0, 1) := by decide +kernel
theorem dL_holds_63 : decode cL_holds 63 = .ok (.bipush 6, 2) := by decide +kernel
theorem dL_holds_65 : decode cL_holds 65 = .ok (.invokevirtual 13, 3) := by decide +kernel
theorem dL_holds_68 : decode cL_holds 68 = .ok (.sipush 600, 3) := by decide +kernel
theorem dL_holds_71 : decode cL_holds 71 = .ok (.if_icmp .lt 58, 3) := by decide +kernel
theorem dL_holds_74 : decode cL_holds 74 = .ok (.aload_n 0, 1) := by decide +kernel
theorem dL_holds_75 : decode cL_holds 75 = .ok (.bipush 6, 2) := by decide +kernel
theorem dL_holds_77 : decode cL_holds 77 = .ok (.invokevirtual 13, 3) := by decide +kernel
theorem dL_holds_80 : decode cL_holds 80 = .ok (.sipush 9999, 3) := by decide +kernel
theorem dL_holds_83 : decode cL_holds 83 = .ok (.if_icmp .gt 46, 3) := by decide +kernel
theorem dL_holds_86 : decode cL_holds 86 = .ok (.aload_n 0, 1) := by decide +kernel
theorem dL_holds_87 : decode cL_holds 87 = .ok (.bipush 12, 2) := by decide +kernel
theorem dL_holds_89 : decode cL_holds 89 = .ok (.invokevirtual 13, 3) := by decide +kernel
theorem dL_holds_92 : decode cL_holds 92 = .ok (.aload_n 0, 1) := by decide +kernel
theorem dL_holds_93 : decode cL_holds 93 = .ok (.iconst 3, 1) := by decide +kernel
theorem dL_holds_94 : decode cL_holds 94 = .ok (.invokevirtual 13, 3) := by decide +kernel
theorem dL_holds_97 : decode cL_holds 97 = .ok (.aload_n 0, 1) := by decide +kernel
theorem dL_holds_98 : decode cL_holds 98 = .ok (.bipush 13, 2) := by decide +kernel
theorem dL_holds_100 : decode cL_holds 100 = .ok (.invokevirtual 13, 3) := by decide +kernel
theorem dL_holds_103 : decode cL_holds 103 = .ok (.iadd, 1) := by decide +kernel
theorem dL_holds_104 : decode cL_holds 104 = .ok (.if_icmp .lt 25, 3) := by decide +kernel
theorem dL_holds_107 : decode cL_holds 107 = .ok (.aload_n 0, 1) := by decide +kernel
theorem dL_holds_108 : decode cL_holds 108 = .ok (.iconst 1, 1) := by decide +kernel
theorem dL_holds_109 : decode cL_holds 109 = .ok (.invokevirtual 13, 3) := by decide +kernel
theorem dL_holds_112 : decode cL_holds 112 = .ok (.ifCond .lt 17, 3) := by decide +kernel
theorem dL_holds_115 : decode cL_holds 115 = .ok (.aload_n 0, 1) := by decide +kernel
theorem dL_holds_116 : decode cL_holds 116 = .ok (.iconst 1, 1) := by decide +kernel
theorem dL_holds_117 : decode cL_holds 117 = .ok (.invokevirtual 13, 3) := by decide +kernel
theorem dL_holds_120 : decode cL_holds 120 = .ok (.bipush 23, 2) := by decide +kernel
theorem dL_holds_122 : decode cL_holds 122 = .ok (.if_icmp .gt 7, 3) := by decide +kernel
theorem dL_holds_125 : decode cL_holds 125 = .ok (.iconst 1, 1) := by decide +kernel
theorem dL_holds_126 : decode cL_holds 126 = .ok (.goto 4, 3) := by decide +kernel
theorem dL_holds_129 : decode cL_holds 129 = .ok (.iconst 0, 1) := by decide +kernel
theorem dL_holds_130 : decode cL_holds 130 = .ok (.istore 9, 2) := by decide +kernel
theorem dL_holds_132 : decode cL_holds 132 = .ok (.iconst 0, 1) := by decide +kernel
theorem dL_holds_133 : decode cL_holds 133 = .ok (.istore 10, 2) := by decide +kernel
theorem dL_holds_135 : decode cL_holds 135 = .ok (.iload 10, 2) := by decide +kernel
theorem dL_holds_137 : decode cL_holds 137 = .ok (.bipush 6, 2) := by decide +kernel
theorem dL_holds_139 : decode cL_holds 139 = .ok (.if_icmp .ge 278, 3) := by decide +kernel
theorem dL_holds_142 : decode cL_holds 142 = .ok (.aload_n 0, 1) := by decide +kernel
theorem dL_holds_143 : decode cL_holds 143 = .ok (.iload 10, 2) := by decide +kernel
theorem dL_holds_145 : decode cL_holds 145 = .ok (.iconst 2, 1) := by decide +kernel
theorem dL_holds_146 : decode cL_holds 146 = .ok (.invokevirtual 19, 3) := by decide +kernel
theorem dL_holds_149 : decode cL_holds 149 = .ok (.istore 11, 2) := by decide +kernel
theorem dL_holds_151 : decode cL_holds 151 = .ok (.iload_n 1, 1) := by decide +kernel
theorem dL_holds_152 : decode cL_holds 152 = .ok (.aload_n 0, 1) := by decide +kernel
theorem dL_holds_153 : decode cL_holds 153 = .ok (.iload 10, 2) := by decide +kernel
theorem dL_holds_155 : decode cL_holds 155 = .ok (.iconst 0, 1) := by decide +kernel
theorem dL_holds_156 : decode cL_holds 156 = .ok (.invokevirtual 23, 3) := by decide +kernel
theorem dL_holds_159 : decode cL_holds 159 = .ok (.iadd, 1) := by decide +kernel
theorem dL_holds_160 : decode cL_holds 160 = .ok (.istore_n 1, 1) := by decide +kernel
theorem dL_holds_161 : decode cL_holds 161 = .ok (.iload_n 2, 1) := by decide +kernel
theorem dL_holds_162 : decode cL_holds 162 = .ok (.aload_n 0, 1) := by decide +kernel
theorem dL_holds_163 : decode cL_holds 163 = .ok (.iload 10, 2) := by decide +kernel
theorem dL_holds_165 : decode cL_holds 165 = .ok (.iconst 1, 1) := by decide +kernel
theorem dL_holds_166 : decode cL_holds 166 = .ok (.invokevirtual 19, 3) := by decide +kernel
theorem dL_holds_169 : decode cL_holds 169 = .ok (.iadd, 1) := by decide +kernel
theorem dL_holds_170 : decode cL_holds 170 = .ok (.istore_n 2, 1) := by decide +kernel
theorem dL_holds_171 : decode cL_holds 171 = .ok (.iload_n 3, 1) := by decide +kernel
theorem dL_holds_172 : decode cL_holds 172 = .ok (.aload_n 0, 1) := by decide +kernel
theorem dL_holds_173 : decode cL_holds 173 = .ok (.iload 10, 2) := by decide +kernel
theorem dL_holds_175 : decode cL_holds 175 = .ok (.iconst 4, 1) := by decide +kernel
theorem dL_holds_176 : decode cL_holds 176 = .ok (.invokevirtual 19, 3) := by decide +kernel
theorem dL_holds_179 : decode cL_holds 179 = .ok (.iadd, 1) := by decide +kernel
theorem dL_holds_180 : decode cL_holds 180 = .ok (.istore_n 3, 1) := by decide +kernel
theorem dL_holds_181 : decode cL_holds 181 = .ok (.iload 4, 2) := by decide +kernel
theorem dL_holds_183 : decode cL_holds 183 = .ok (.aload_n 0, 1) := by decide +kernel
theorem dL_holds_184 : decode cL_holds 184 = .ok (.iload 10, 2) := by decide +kernel
theorem dL_holds_186 : decode cL_holds 186 = .ok (.iconst 2, 1) := by decide +kernel
theorem dL_holds_187 : decode cL_holds 187 = .ok (.invokevirtual 23, 3) := by decide +kernel
theorem dL_holds_190 : decode cL_holds 190 = .ok (.iadd, 1) := by decide +kernel
theorem dL_holds_191 : decode cL_holds 191 = .ok (.istore 4, 2) := by decide +kernel
theorem dL_holds_193 : decode cL_holds 193 = .ok (.iload 5, 2) := by decide +kernel
theorem dL_holds_195 : decode cL_holds 195 = .ok (.aload_n 0, 1) := by decide +kernel
theorem dL_holds_196 : decode cL_holds 196 = .ok (.iload 10, 2) := by decide +kernel
theorem dL_holds_198 : decode cL_holds 198 = .ok (.iconst 5, 1) := by decide +kernel
theorem dL_holds_199 : decode cL_holds 199 = .ok (.invokevirtual 19, 3) := by decide +kernel
theorem dL_holds_202 : decode cL_holds 202 = .ok (.iadd, 1) := by decide +kernel
theorem dL_holds_203 : decode cL_holds 203 = .ok (.istore 5, 2) := by decide +kernel
theorem dL_holds_205 : decode cL_holds 205 = .ok (.iload 6, 2) := by decide +kernel
theorem dL_holds_207 : decode cL_holds 207 = .ok (.aload_n 0, 1) := by decide +kernel
theorem dL_holds_208 : decode cL_holds 208 = .ok (.iload 10, 2) := by decide +kernel
theorem dL_holds_210 : decode cL_holds 210 = .ok (.iconst 1, 1) := by decide +kernel
theorem dL_holds_211 : decode cL_holds 211 = .ok (.invokevirtual 23, 3) := by decide +kernel
theorem dL_holds_214 : decode cL_holds 214 = .ok (.iadd, 1) := by decide +kernel
theorem dL_holds_215 : decode cL_holds 215 = .ok (.istore 6, 2) := by decide +kernel
theorem dL_holds_217 : decode cL_holds 217 = .ok (.iload 7, 2) := by decide +kernel
theorem dL_holds_219 : decode cL_holds 219 = .ok (.aload_n 0, 1) := by decide +kernel
theorem dL_holds_220 : decode cL_holds 220 = .ok (.iload 10, 2) := by decide +kernel
theorem dL_holds_222 : decode cL_holds 222 = .ok (.iconst 4, 1) := by decide +kernel
theorem dL_holds_223 : decode cL_holds 223 = .ok (.invokevirtual 23, 3) := by decide +kernel
theorem dL_holds_226 : decode cL_holds 226 = .ok (.iadd, 1) := by decide +kernel
theorem dL_holds_227 : decode cL_holds 227 = .ok (.istore 7, 2) := by decide +kernel
theorem dL_holds_229 : decode cL_holds 229 = .ok (.iload 8, 2) := by decide +kernel
theorem dL_holds_231 : decode cL_holds 231 = .ok (.aload_n 0, 1) := by decide +kernel
theorem dL_holds_232 : decode cL_holds 232 = .ok (.iload 10, 2) := by decide +kernel
theorem dL_holds_234 : decode cL_holds 234 = .ok (.iconst 5, 1) := by decide +kernel
theorem dL_holds_235 : decode cL_holds 235 = .ok (.invokevirtual 23, 3) := by decide +kernel
theorem dL_holds_238 : decode cL_holds 238 = .ok (.iadd, 1) := by decide +kernel
theorem dL_holds_239 : decode cL_holds 239 = .ok (.istore 8, 2) := by decide +kernel
theorem dL_holds_241 : decode cL_holds 241 = .ok (.iload 9, 2) := by decide +kernel
theorem dL_holds_243 : decode cL_holds 243 = .ok (.ifCond .eq 125, 3) := by decide +kernel
theorem dL_holds_246 : decode cL_holds 246 = .ok (.aload_n 0, 1) := by decide +kernel
theorem dL_holds_247 : decode cL_holds 247 = .ok (.iload 10, 2) := by decide +kernel
theorem dL_holds_249 : decode cL_holds 249 = .ok (.iconst 0, 1) := by decide +kernel
theorem dL_holds_250 : decode cL_holds 250 = .ok (.invokevirtual 23, 3) := by decide +kernel
theorem dL_holds_253 : decode cL_holds 253 = .ok (.ifCond .lt 115, 3) := by decide +kernel
theorem dL_holds_256 : decode cL_holds 256 = .ok (.aload_n 0, 1) := by decide +kernel
theorem dL_holds_257 : decode cL_holds 257 = .ok (.iload 10, 2) := by decide +kernel
theorem dL_holds_259 : decode cL_holds 259 = .ok (.iconst 1, 1) := by decide +kernel
theorem dL_holds_260 : decode cL_holds 260 = .ok (.invokevirtual 19, 3) := by decide +kernel
theorem dL_holds_263 : decode cL_holds 263 = .ok (.ifCond .lt 105, 3) := by decide +kernel
theorem dL_holds_266 : decode cL_holds 266 = .ok (.aload_n 0, 1) := by decide +kernel
theorem dL_holds_267 : decode cL_holds 267 = .ok (.iload 10, 2) := by decide +kernel
theorem dL_holds_269 : decode cL_holds 269 = .ok (.iconst 1, 1) := by decide +kernel
theorem dL_holds_270 : decode cL_holds 270 = .ok (.invokevirtual 19, 3) := by decide +kernel
theorem dL_holds_273 : decode cL_holds 273 = .ok (.sipush 200, 3) := by decide +kernel
theorem dL_holds_276 : decode cL_holds 276 = .ok (.if_icmp .gt 92, 3) := by decide +kernel
theorem dL_holds_279 : decode cL_holds 279 = .ok (.iload 11, 2) := by decide +kernel
theorem dL_holds_281 : decode cL_holds 281 = .ok (.iconst (-1), 1) := by decide +kernel
theorem dL_holds_282 : decode cL_holds 282 = .ok (.if_icmp .ne 7, 3) := by decide +kernel
theorem dL_holds_285 : decode cL_holds 285 = .ok (.iconst 1, 1) := by decide +kernel
theorem dL_holds_286 : decode cL_holds 286 = .ok (.goto 4, 3) := by decide +kernel
theorem dL_holds_289 : decode cL_holds 289 = .ok (.iconst 0, 1) := by decide +kernel
theorem dL_holds_290 : decode cL_holds 290 = .ok (.aload_n 0, 1) := by decide +kernel
theorem dL_holds_291 : decode cL_holds 291 = .ok (.iload 10, 2) := by decide +kernel
theorem dL_holds_293 : decode cL_holds 293 = .ok (.iconst 3, 1) := by decide +kernel
theorem dL_holds_294 : decode cL_holds 294 = .ok (.invokevirtual 19, 3) := by decide +kernel
theorem dL_holds_297 : decode cL_holds 297 = .ok (.iconst (-1), 1) := by decide +kernel
theorem dL_holds_298 : decode cL_holds 298 = .ok (.if_icmp .ne 7, 3) := by decide +kernel
theorem dL_holds_301 : decode cL_holds 301 = .ok (.iconst 1, 1) := by decide +kernel
theorem dL_holds_302 : decode cL_holds 302 = .ok (.goto 4, 3) := by decide +kernel
theorem dL_holds_305 : decode cL_holds 305 = .ok (.iconst 0, 1) := by decide +kernel
theorem dL_holds_306 : decode cL_holds 306 = .ok (.if_icmp .ne 62, 3) := by decide +kernel
theorem dL_holds_309 : decode cL_holds 309 = .ok (.iload 11, 2) := by decide +kernel
theorem dL_holds_311 : decode cL_holds 311 = .ok (.ifCond .lt 53, 3) := by decide +kernel
theorem dL_holds_314 : decode cL_holds 314 = .ok (.aload_n 0, 1) := by decide +kernel
theorem dL_holds_315 : decode cL_holds 315 = .ok (.iconst 2, 1) := by decide +kernel
theorem dL_holds_316 : decode cL_holds 316 = .ok (.invokevirtual 13, 3) := by decide +kernel
theorem dL_holds_319 : decode cL_holds 319 = .ok (.iconst 1, 1) := by decide +kernel
theorem dL_holds_320 : decode cL_holds 320 = .ok (.if_icmp .ne 48, 3) := by decide +kernel
theorem dL_holds_323 : decode cL_holds 323 = .ok (.aload_n 0, 1) := by decide +kernel
theorem dL_holds_324 : decode cL_holds 324 = .ok (.iload 11, 2) := by decide +kernel
theorem dL_holds_326 : decode cL_holds 326 = .ok (.iconst 3, 1) := by decide +kernel
theorem dL_holds_327 : decode cL_holds 327 = .ok (.invokevirtual 23, 3) := by decide +kernel
theorem dL_holds_330 : decode cL_holds 330 = .ok (.iload 10, 2) := by decide +kernel
theorem dL_holds_332 : decode cL_holds 332 = .ok (.if_icmp .ne 36, 3) := by decide +kernel
theorem dL_holds_335 : decode cL_holds 335 = .ok (.aload_n 0, 1) := by decide +kernel
theorem dL_holds_336 : decode cL_holds 336 = .ok (.iload 11, 2) := by decide +kernel
theorem dL_holds_338 : decode cL_holds 338 = .ok (.iload 10, 2) := by decide +kernel
theorem dL_holds_340 : decode cL_holds 340 = .ok (.iconst 2, 1) := by decide +kernel
theorem dL_holds_341 : decode cL_holds 341 = .ok (.invokevirtual 26, 3) := by decide +kernel
theorem dL_holds_344 : decode cL_holds 344 = .ok (.aload_n 0, 1) := by decide +kernel
theorem dL_holds_345 : decode cL_holds 345 = .ok (.iload 10, 2) := by decide +kernel
theorem dL_holds_347 : decode cL_holds 347 = .ok (.iconst 3, 1) := by decide +kernel
theorem dL_holds_348 : decode cL_holds 348 = .ok (.invokevirtual 19, 3) := by decide +kernel
theorem dL_holds_351 : decode cL_holds 351 = .ok (.if_icmp .lt 17, 3) := by decide +kernel
theorem dL_holds_354 : decode cL_holds 354 = .ok (.aload_n 0, 1) := by decide +kernel
theorem dL_holds_355 : decode cL_holds 355 = .ok (.iload 10, 2) := by decide +kernel
theorem dL_holds_357 : decode cL_holds 357 = .ok (.iconst 3, 1) := by decide +kernel
theorem dL_holds_358 : decode cL_holds 358 = .ok (.invokevirtual 19, 3) := by decide +kernel
theorem dL_holds_361 : decode cL_holds 361 = .ok (.ifCond .lt 7, 3) := by decide +kernel
theorem dL_holds_364 : decode cL_holds 364 = .ok (.iconst 1, 1) := by decide +kernel
theorem dL_holds_365 : decode cL_holds 365 = .ok (.goto 4, 3) := by decide +kernel
theorem dL_holds_368 : decode cL_holds 368 = .ok (.iconst 0, 1) := by decide +kernel
theorem dL_holds_369 : decode cL_holds 369 = .ok (.istore 9, 2) := by decide +kernel
theorem dL_holds_371 : decode cL_holds 371 = .ok (.iload 9, 2) := by decide +kernel
theorem dL_holds_373 : decode cL_holds 373 = .ok (.ifCond .eq 35, 3) := by decide +kernel
theorem dL_holds_376 : decode cL_holds 376 = .ok (.aload_n 0, 1) := by decide +kernel
theorem dL_holds_377 : decode cL_holds 377 = .ok (.iload 10, 2) := by decide +kernel
theorem dL_holds_379 : decode cL_holds 379 = .ok (.iconst 3, 1) := by decide +kernel
theorem dL_holds_380 : decode cL_holds 380 = .ok (.invokevirtual 23, 3) := by decide +kernel
theorem dL_holds_383 : decode cL_holds 383 = .ok (.iconst (-1), 1) := by decide +kernel
theorem dL_holds_384 : decode cL_holds 384 = .ok (.if_icmp .eq 20, 3) := by decide +kernel
theorem dL_holds_387 : decode cL_holds 387 = .ok (.aload_n 0, 1) := by decide +kernel
theorem dL_holds_388 : decode cL_holds 388 = .ok (.aload_n 0, 1) := by decide +kernel
theorem dL_holds_389 : decode cL_holds 389 = .ok (.iload 10, 2) := by decide +kernel
theorem dL_holds_391 : decode cL_holds 391 = .ok (.iconst 3, 1) := by decide +kernel
theorem dL_holds_392 : decode cL_holds 392 = .ok (.invokevirtual 23, 3) := by decide +kernel
theorem dL_holds_395 : decode cL_holds 395 = .ok (.iconst 2, 1) := by decide +kernel
theorem dL_holds_396 : decode cL_holds 396 = .ok (.invokevirtual 19, 3) := by decide +kernel
theorem dL_holds_399 : decode cL_holds 399 = .ok (.iload 10, 2) := by decide +kernel
theorem dL_holds_401 : decode cL_holds 401 = .ok (.if_icmp .ne 7, 3) := by decide +kernel
theorem dL_holds_404 : decode cL_holds 404 = .ok (.iconst 1, 1) := by decide +kernel
theorem dL_holds_405 : decode cL_holds 405 = .ok (.goto 4, 3) := by decide +kernel
theorem dL_holds_408 : decode cL_holds 408 = .ok (.iconst 0, 1) := by decide +kernel
theorem dL_holds_409 : decode cL_holds 409 = .ok (.istore 9, 2) := by decide +kernel
theorem dL_holds_411 : decode cL_holds 411 = .ok (.iinc 10 1, 3) := by decide +kernel
theorem dL_holds_414 : decode cL_holds 414 = .ok (.goto (-279), 3) := by decide +kernel
theorem dL_holds_417 : decode cL_holds 417 = .ok (.iconst 0, 1) := by decide +kernel
theorem dL_holds_418 : decode cL_holds 418 = .ok (.istore 10, 2) := by decide +kernel
theorem dL_holds_420 : decode cL_holds 420 = .ok (.iload 10, 2) := by decide +kernel
theorem dL_holds_422 : decode cL_holds 422 = .ok (.bipush 36, 2) := by decide +kernel
theorem dL_holds_424 : decode cL_holds 424 = .ok (.if_icmp .ge 154, 3) := by decide +kernel
theorem dL_holds_427 : decode cL_holds 427 = .ok (.aload_n 0, 1) := by decide +kernel
theorem dL_holds_428 : decode cL_holds 428 = .ok (.iload 10, 2) := by decide +kernel
theorem dL_holds_430 : decode cL_holds 430 = .ok (.bipush 6, 2) := by decide +kernel
theorem dL_holds_432 : decode cL_holds 432 = .ok (.idiv, 1) := by decide +kernel
theorem dL_holds_433 : decode cL_holds 433 = .ok (.iload 10, 2) := by decide +kernel
theorem dL_holds_435 : decode cL_holds 435 = .ok (.bipush 6, 2) := by decide +kernel
theorem dL_holds_437 : decode cL_holds 437 = .ok (.irem, 1) := by decide +kernel
theorem dL_holds_438 : decode cL_holds 438 = .ok (.iconst 0, 1) := by decide +kernel
theorem dL_holds_439 : decode cL_holds 439 = .ok (.invokevirtual 26, 3) := by decide +kernel
theorem dL_holds_442 : decode cL_holds 442 = .ok (.istore 11, 2) := by decide +kernel
theorem dL_holds_444 : decode cL_holds 444 = .ok (.iload 9, 2) := by decide +kernel
theorem dL_holds_446 : decode cL_holds 446 = .ok (.ifCond .eq 123, 3) := by decide +kernel
theorem dL_holds_449 : decode cL_holds 449 = .ok (.iload 11, 2) := by decide +kernel
theorem dL_holds_451 : decode cL_holds 451 = .ok (.sipush 4095, 3) := by decide +kernel
theorem dL_holds_454 : decode cL_holds 454 = .ok (.if_icmp .gt 115, 3) := by decide +kernel
theorem dL_holds_457 : decode cL_holds 457 = .ok (.iload 11, 2) := by decide +kernel
theorem dL_holds_459 : decode cL_holds 459 = .ok (.ifCond .ge 78, 3) := by decide +kernel
theorem dL_holds_462 : decode cL_holds 462 = .ok (.aload_n 0, 1) := by decide +kernel
theorem dL_holds_463 : decode cL_holds 463 = .ok (.iload 10, 2) := by decide +kernel
theorem dL_holds_465 : decode cL_holds 465 = .ok (.bipush 6, 2) := by decide +kernel
theorem dL_holds_467 : decode cL_holds 467 = .ok (.idiv, 1) := by decide +kernel
theorem dL_holds_468 : decode cL_holds 468 = .ok (.iload 10, 2) := by decide +kernel
theorem dL_holds_470 : decode cL_holds 470 = .ok (.bipush 6, 2) := by decide +kernel
theorem dL_holds_472 : decode cL_holds 472 = .ok (.irem, 1) := by decide +kernel
theorem dL_holds_473 : decode cL_holds 473 = .ok (.iconst 1, 1) := by decide +kernel
theorem dL_holds_474 : decode cL_holds 474 = .ok (.invokevirtual 26, 3) := by decide +kernel
theorem dL_holds_477 : decode cL_holds 477 = .ok (.iconst (-1), 1) := by decide +kernel
theorem dL_holds_478 : decode cL_holds 478 = .ok (.if_icmp .ne 91, 3) := by decide +kernel
theorem dL_holds_481 : decode cL_holds 481 = .ok (.aload_n 0, 1) := by decide +kernel
theorem dL_holds_482 : decode cL_holds 482 = .ok (.iload 10, 2) := by decide +kernel
theorem dL_holds_484 : decode cL_holds 484 = .ok (.bipush 6, 2) := by decide +kernel
theorem dL_holds_486 : decode cL_holds 486 = .ok (.idiv, 1) := by decide +kernel
theorem dL_holds_487 : decode cL_holds 487 = .ok (.iload 10, 2) := by decide +kernel
theorem dL_holds_489 : decode cL_holds 489 = .ok (.bipush 6, 2) := by decide +kernel
theorem dL_holds_491 : decode cL_holds 491 = .ok (.irem, 1) := by decide +kernel
theorem dL_holds_492 : decode cL_holds 492 = .ok (.iconst 2, 1) := by decide +kernel
theorem dL_holds_493 : decode cL_holds 493 = .ok (.invokevirtual 26, 3) := by decide +kernel
theorem dL_holds_496 : decode cL_holds 496 = .ok (.iconst (-1), 1) := by decide +kernel
theorem dL_holds_497 : decode cL_holds 497 = .ok (.if_icmp .ne 72, 3) := by decide +kernel
theorem dL_holds_500 : decode cL_holds 500 = .ok (.aload_n 0, 1) := by decide +kernel
theorem dL_holds_501 : decode cL_holds 501 = .ok (.iload 10, 2) := by decide +kernel
theorem dL_holds_503 : decode cL_holds 503 = .ok (.bipush 6, 2) := by decide +kernel
theorem dL_holds_505 : decode cL_holds 505 = .ok (.idiv, 1) := by decide +kernel
theorem dL_holds_506 : decode cL_holds 506 = .ok (.iload 10, 2) := by decide +kernel
theorem dL_holds_508 : decode cL_holds 508 = .ok (.bipush 6, 2) := by decide +kernel
theorem dL_holds_510 : decode cL_holds 510 = .ok (.irem, 1) := by decide +kernel
theorem dL_holds_511 : decode cL_holds 511 = .ok (.iconst 3, 1) := by decide +kernel
theorem dL_holds_512 : decode cL_holds 512 = .ok (.invokevirtual 26, 3) := by decide +kernel
theorem dL_holds_515 : decode cL_holds 515 = .ok (.iconst (-1), 1) := by decide +kernel
theorem dL_holds_516 : decode cL_holds 516 = .ok (.if_icmp .ne 53, 3) := by decide +kernel
theorem dL_holds_519 : decode cL_holds 519 = .ok (.aload_n 0, 1) := by decide +kernel
theorem dL_holds_520 : decode cL_holds 520 = .ok (.iload 10, 2) := by decide +kernel
theorem dL_holds_522 : decode cL_holds 522 = .ok (.bipush 6, 2) := by decide +kernel
theorem dL_holds_524 : decode cL_holds 524 = .ok (.idiv, 1) := by decide +kernel
theorem dL_holds_525 : decode cL_holds 525 = .ok (.iload 10, 2) := by decide +kernel
theorem dL_holds_527 : decode cL_holds 527 = .ok (.bipush 6, 2) := by decide +kernel
theorem dL_holds_529 : decode cL_holds 529 = .ok (.irem, 1) := by decide +kernel
theorem dL_holds_530 : decode cL_holds 530 = .ok (.iconst 4, 1) := by decide +kernel
theorem dL_holds_531 : decode cL_holds 531 = .ok (.invokevirtual 26, 3) := by decide +kernel
theorem dL_holds_534 : decode cL_holds 534 = .ok (.ifCond .le 35, 3) := by decide +kernel
theorem dL_holds_537 : decode cL_holds 537 = .ok (.aload_n 0, 1) := by decide +kernel
theorem dL_holds_538 : decode cL_holds 538 = .ok (.iconst 2, 1) := by decide +kernel
theorem dL_holds_539 : decode cL_holds 539 = .ok (.invokevirtual 13, 3) := by decide +kernel
theorem dL_holds_542 : decode cL_holds 542 = .ok (.iconst 1, 1) := by decide +kernel
theorem dL_holds_543 : decode cL_holds 543 = .ok (.if_icmp .eq 22, 3) := by decide +kernel
theorem dL_holds_546 : decode cL_holds 546 = .ok (.aload_n 0, 1) := by decide +kernel
theorem dL_holds_547 : decode cL_holds 547 = .ok (.iload 10, 2) := by decide +kernel
theorem dL_holds_549 : decode cL_holds 549 = .ok (.bipush 6, 2) := by decide +kernel
theorem dL_holds_551 : decode cL_holds 551 = .ok (.idiv, 1) := by decide +kernel
theorem dL_holds_552 : decode cL_holds 552 = .ok (.iload 10, 2) := by decide +kernel
theorem dL_holds_554 : decode cL_holds 554 = .ok (.bipush 6, 2) := by decide +kernel
theorem dL_holds_556 : decode cL_holds 556 = .ok (.irem, 1) := by decide +kernel
theorem dL_holds_557 : decode cL_holds 557 = .ok (.iconst 2, 1) := by decide +kernel
theorem dL_holds_558 : decode cL_holds 558 = .ok (.invokevirtual 26, 3) := by decide +kernel
theorem dL_holds_561 : decode cL_holds 561 = .ok (.iconst (-1), 1) := by decide +kernel
theorem dL_holds_562 : decode cL_holds 562 = .ok (.if_icmp .ne 7, 3) := by decide +kernel
theorem dL_holds_565 : decode cL_holds 565 = .ok (.iconst 1, 1) := by decide +kernel
theorem dL_holds_566 : decode cL_holds 566 = .ok (.goto 4, 3) := by decide +kernel
theorem dL_holds_569 : decode cL_holds 569 = .ok (.iconst 0, 1) := by decide +kernel
theorem dL_holds_570 : decode cL_holds 570 = .ok (.istore 9, 2) := by decide +kernel
theorem dL_holds_572 : decode cL_holds 572 = .ok (.iinc 10 1, 3) := by decide +kernel
theorem dL_holds_575 : decode cL_holds 575 = .ok (.goto (-155), 3) := by decide +kernel
theorem dL_holds_578 : decode cL_holds 578 = .ok (.iload 9, 2) := by decide +kernel
theorem dL_holds_580 : decode cL_holds 580 = .ok (.ifCond .eq 109, 3) := by decide +kernel
theorem dL_holds_583 : decode cL_holds 583 = .ok (.iload_n 1, 1) := by decide +kernel
theorem dL_holds_584 : decode cL_holds 584 = .ok (.aload_n 0, 1) := by decide +kernel
theorem dL_holds_585 : decode cL_holds 585 = .ok (.iconst 5, 1) := by decide +kernel
theorem dL_holds_586 : decode cL_holds 586 = .ok (.invokevirtual 13, 3) := by decide +kernel
theorem dL_holds_589 : decode cL_holds 589 = .ok (.if_icmp .ne 100, 3) := by decide +kernel
theorem dL_holds_592 : decode cL_holds 592 = .ok (.iload_n 2, 1) := by decide +kernel
theorem dL_holds_593 : decode cL_holds 593 = .ok (.aload_n 0, 1) := by decide +kernel
theorem dL_holds_594 : decode cL_holds 594 = .ok (.bipush 10, 2) := by decide +kernel
theorem dL_holds_596 : decode cL_holds 596 = .ok (.invokevirtual 13, 3) := by decide +kernel
theorem dL_holds_599 : decode cL_holds 599 = .ok (.if_icmp .ne 90, 3) := by decide +kernel
theorem dL_holds_602 : decode cL_holds 602 = .ok (.iload_n 3, 1) := by decide +kernel
theorem dL_holds_603 : decode cL_holds 603 = .ok (.aload_n 0, 1) := by decide +kernel
theorem dL_holds_604 : decode cL_holds 604 = .ok (.iconst 3, 1) := by decide +kernel
theorem dL_holds_605 : decode cL_holds 605 = .ok (.invokevirtual 13, 3) := by decide +kernel
theorem dL_holds_608 : decode cL_holds 608 = .ok (.if_icmp .ne 81, 3) := by decide +kernel
theorem dL_holds_611 : decode cL_holds 611 = .ok (.iload 4, 2) := by decide +kernel
theorem dL_holds_613 : decode cL_holds 613 = .ok (.iload_n 3, 1) := by decide +kernel
theorem dL_holds_614 : decode cL_holds 614 = .ok (.if_icmp .ne 75, 3) := by decide +kernel
theorem dL_holds_617 : decode cL_holds 617 = .ok (.iload 5, 2) := by decide +kernel
theorem dL_holds_619 : decode cL_holds 619 = .ok (.aload_n 0, 1) := by decide +kernel
theorem dL_holds_620 : decode cL_holds 620 = .ok (.bipush 11, 2) := by decide +kernel
theorem dL_holds_622 : decode cL_holds 622 = .ok (.invokevirtual 13, 3) := by decide +kernel
theorem dL_holds_625 : decode cL_holds 625 = .ok (.if_icmp .ne 64, 3) := by decide +kernel
theorem dL_holds_628 : decode cL_holds 628 = .ok (.iload 6, 2) := by decide +kernel
theorem dL_holds_630 : decode cL_holds 630 = .ok (.iload 5, 2) := by decide +kernel
theorem dL_holds_632 : decode cL_holds 632 = .ok (.if_icmp .ne 57, 3) := by decide +kernel
theorem dL_holds_635 : decode cL_holds 635 = .ok (.iload 7, 2) := by decide +kernel
theorem dL_holds_637 : decode cL_holds 637 = .ok (.aload_n 0, 1) := by decide +kernel
theorem dL_holds_638 : decode cL_holds 638 = .ok (.bipush 8, 2) := by decide +kernel
theorem dL_holds_640 : decode cL_holds 640 = .ok (.invokevirtual 13, 3) := by decide +kernel
theorem dL_holds_643 : decode cL_holds 643 = .ok (.if_icmp .ne 46, 3) := by decide +kernel
theorem dL_holds_646 : decode cL_holds 646 = .ok (.iload 8, 2) := by decide +kernel
theorem dL_holds_648 : decode cL_holds 648 = .ok (.aload_n 0, 1) := by decide +kernel
theorem dL_holds_649 : decode cL_holds 649 = .ok (.bipush 7, 2) := by decide +kernel
theorem dL_holds_651 : decode cL_holds 651 = .ok (.invokevirtual 13, 3) := by decide +kernel
theorem dL_holds_654 : decode cL_holds 654 = .ok (.if_icmp .ne 35, 3) := by decide +kernel
theorem dL_holds_657 : decode cL_holds 657 = .ok (.aload_n 0, 1) := by decide +kernel
theorem dL_holds_658 : decode cL_holds 658 = .ok (.invokevirtual 76, 3) := by decide +kernel
theorem dL_holds_661 : decode cL_holds 661 = .ok (.dconst 0, 1) := by decide +kernel
theorem dL_holds_662 : decode cL_holds 662 = .ok (.dcmp .l, 1) := by decide +kernel
theorem dL_holds_663 : decode cL_holds 663 = .ok (.ifCond .lt 26, 3) := by decide +kernel
theorem dL_holds_666 : decode cL_holds 666 = .ok (.aload_n 0, 1) := by decide +kernel
theorem dL_holds_667 : decode cL_holds 667 = .ok (.invokevirtual 76, 3) := by decide +kernel
theorem dL_holds_670 : decode cL_holds 670 = .ok (.dconst 1, 1) := by decide +kernel
theorem dL_holds_671 : decode cL_holds 671 = .ok (.dcmp .g, 1) := by decide +kernel
theorem dL_holds_672 : decode cL_holds 672 = .ok (.ifCond .gt 17, 3) := by decide +kernel
theorem dL_holds_675 : decode cL_holds 675 = .ok (.aload_n 0, 1) := by decide +kernel
theorem dL_holds_676 : decode cL_holds 676 = .ok (.invokevirtual 80, 3) := by decide +kernel
theorem dL_holds_679 : decode cL_holds 679 = .ok (.ldc 84, 2) := by decide +kernel
theorem dL_holds_681 : decode cL_holds 681 = .ok (.fcmp .g, 1) := by decide +kernel
theorem dL_holds_682 : decode cL_holds 682 = .ok (.ifCond .gt 7, 3) := by decide +kernel
theorem dL_holds_685 : decode cL_holds 685 = .ok (.iconst 1, 1) := by decide +kernel
theorem dL_holds_686 : decode cL_holds 686 = .ok (.goto 4, 3) := by decide +kernel
theorem dL_holds_689 : decode cL_holds 689 = .ok (.iconst 0, 1) := by decide +kernel
theorem dL_holds_690 : decode cL_holds 690 = .ok (.ireturn, 1) := by decide +kernel
end
section
set_option maxRecDepth 20000 in
theorem ggL_isAhead_L_looks : GoodIn wsL_isAhead wsL_looks := goodIn_ca (goodIn_ca (goodIn_r _ [4, 5, 6, 7, 8, 9, 10, 11, 12, 13, 14, 15, 16, 17, 18, 19, 20, 21, 22, 23, 24, 25, 26, 27, 28, 29, 30, 31, 32, 33, 34, 35, 36, 37, 38, 39, 40, 41, 42, 43, 44, 45, 46, 47, 48, 49, 50, 51, 52, 53, 54, 55, 56, 57, 58, 59, 60, 61, 62, 63, 64, 65, 66, 67, 68, 69, 70, 71, 72, 73, 74, 75, 76, 77, 78, 79, 80, 81, 82, 83, 84, 85, 86, 87, 88, 89, 90, 91, 92, 93, 94, 95, 96, 97, 98, 99, 100, 101, 102, 103, 104, 105, 106, 107, 108, 109, 110, 111, 325, 326, 327, 328, 329, 330, 331, 332, 333] (by decide +kernel) (by decide +kernel)) (goodIn_sub (fun _ h => List.mem_cons_of_mem _ (List.mem_append_left _ (List.mem_append_left _ (List.mem_append_right _ h)))) (by decide +kernel))) (goodIn_sub (fun _ h => List.mem_cons_of_mem _ (List.mem_append_left _ (List.mem_append_right _ h))) (by decide +kernel))
set_option maxRecDepth 20000 in
theorem gL_isAhead_L_looks : GoodIn wsL_isAhead (va_wsS RL 85 yL_looks wsL_looks) := goodIn_app (goodIn_of _ (by decide +kernel)) ggL_isAhead_L_looks
set_option maxRecDepth 20000 in
theorem ggL_isAhead_X4_why : GoodIn wsL_isAhead wsX4_why := goodIn_ca (goodIn_ca (goodIn_r _ [115, 16, 66, 67, 12, 68, 69, 70, 89, 90, 91, 14, 15, 116, 117, 118, 21, 119, 96, 29, 30, 31, 32, 19, 20, 22, 23, 24, 25, 26, 27, 41, 42, 43, 44, 45, 46, 47, 48, 49, 50, 51, 325, 326, 327, 328, 329] (by decide +kernel) (by decide +kernel)) (goodIn_sub (fun _ h => List.mem_cons_of_mem _ (List.mem_append_left _ (List.mem_append_right _ h))) (by decide +kernel))) (goodIn_sub (fun _ h => List.mem_cons_of_mem _ (List.mem_append_left _ (List.mem_append_left _ (List.mem_append_right _ h)))) (by decide +kernel))
set_option maxRecDepth 20000 in
theorem gL_isAhead_X4_why : GoodIn wsL_isAhead (wsV RL 70 RX4 yX4_why wsX4_why) := goodIn_app (goodIn_of _ (by decide +kernel)) ggL_isAhead_X4_why
set_option maxRecDepth 20000 in
theorem ggL_isAhead_X4_worth : GoodIn wsL_isAhead wsX4_worth := goodIn_ca (goodIn_r _ [123, 124, 89, 90, 12, 91, 14, 15, 125, 126, 127, 128, 16, 129, 130, 131, 132, 133, 134, 46, 47, 21, 48, 49, 50, 51, 23, 24, 25, 26, 27, 135, 136, 137, 138, 139, 140, 141, 142, 143, 144, 145, 146, 147, 148, 149, 150, 151, 152, 153, 154, 155, 156, 157, 158, 159, 160, 161, 162, 163, 164, 165, 166, 167, 168, 169, 170, 171, 172, 173, 174, 175, 176, 177, 178, 179, 180, 181, 182, 183, 184, 185, 186, 187, 188, 189, 190, 191, 192, 193, 194, 325, 326, 327, 328, 329, 334, 335] (by decide +kernel) (by decide +kernel)) (goodIn_sub (fun _ h => List.mem_cons_of_mem _ (List.mem_append_left _ (List.mem_append_left _ (List.mem_append_right _ h)))) (by decide +kernel))
set_option maxRecDepth 20000 in
theorem gL_isAhead_X4_worth : GoodIn wsL_isAhead (wsV RL 89 RX4 yX4_worth wsX4_worth) := goodIn_app (goodIn_of _ (by decide +kernel)) ggL_isAhead_X4_worth
set_option maxRecDepth 20000 in
theorem ggL_isAhead_X4_keenest : GoodIn wsL_isAhead wsX4_keenest := goodIn_r _ [198, 124, 125, 126, 127, 12, 128, 16, 129, 130, 131, 132, 133, 134, 46, 47, 21, 48, 49, 50, 51, 23, 24, 25, 26, 27, 135, 136, 137, 138, 139, 140, 141, 142, 143, 144, 145, 146, 147, 148, 149, 150, 151, 152, 153, 154, 155, 156, 157, 158, 159, 160, 161, 162, 163, 164, 165, 166, 167, 168, 169, 170, 171, 172, 173, 187, 188, 189, 190, 191, 192, 193, 194, 184, 185, 186, 325, 326, 327, 328, 329, 334, 335] (by decide +kernel) (by decide +kernel)
set_option maxRecDepth 20000 in
theorem gL_isAhead_X4_keenest : GoodIn wsL_isAhead (wsV RL 92 RX4 yX4_keenest wsX4_keenest) := goodIn_app (goodIn_of _ (by decide +kernel)) ggL_isAhead_X4_keenest
set_option maxRecDepth 20000 in
theorem ggL_isAhead_X4_count : GoodIn wsL_isAhead wsX4_count := goodIn_ca (goodIn_r _ [13, 14, 15, 16, 17, 18, 19, 20, 21, 22, 23, 24, 25, 26, 27, 28, 29, 30, 31, 32, 33, 34, 35, 36, 37, 38, 39, 40, 41, 42, 43, 44, 45, 46, 47, 48, 49, 50, 51, 52, 53, 54, 55, 56, 57, 58, 59, 60, 61, 325, 326, 327, 328, 329, 330, 331, 332, 333] (by decide +kernel) (by decide +kernel)) (goodIn_sub (fun _ h => List.mem_cons_of_mem _ (List.mem_append_left _ (List.mem_append_left _ (List.mem_append_right _ h)))) (by decide +kernel))
set_option maxRecDepth 20000 in
theorem gL_isAhead_X4_count : GoodIn wsL_isAhead (wsV RL 13 RX4 yX4_count wsX4_count) := goodIn_app (goodIn_of _ (by decide +kernel)) ggL_isAhead_X4_count
set_option maxRecDepth 20000 in
theorem ggL_isAhead_X4_bid : GoodIn wsL_isAhead wsX4_bid := goodIn_ca (goodIn_ca (goodIn_ca (goodIn_r _ [202, 16, 17, 66, 67, 12, 68, 69, 70, 89, 90, 91, 14, 15, 116, 117, 118, 21, 119, 96, 29, 30, 31, 32, 19, 20, 22, 23, 24, 25, 26, 27, 41, 42, 43, 44, 45, 46, 47, 48, 49, 50, 51, 203, 204, 205, 206, 207, 208, 209, 210, 59, 211, 61, 212, 213, 214, 215, 216, 217, 218, 219, 220, 221, 222, 223, 224, 225, 226, 227, 228, 229, 230, 231, 232, 325, 326, 327, 328, 329, 330, 331, 332, 333] (by decide +kernel) (by decide +kernel)) (goodIn_sub (fun _ h => List.mem_cons_of_mem _ (List.mem_append_left _ (List.mem_append_right _ h))) (by decide +kernel))) (goodIn_sub (fun _ h => List.mem_cons_of_mem _ (List.mem_append_left _ (List.mem_append_left _ (List.mem_append_right _ h)))) (by decide +kernel))) (goodIn_sub (fun _ h => List.mem_cons_of_mem _ (List.mem_append_right _ h)) (by decide +kernel))
set_option maxRecDepth 20000 in
theorem gL_isAhead_X4_bid : GoodIn wsL_isAhead (wsV RL 73 RX4 yX4_bid wsX4_bid) := goodIn_app (goodIn_of _ (by decide +kernel)) ggL_isAhead_X4_bid
set_option maxRecDepth 20000 in
theorem ggL_isAhead_X4_sealed : GoodIn wsL_isAhead wsX4_sealed := goodIn_ca (goodIn_ca (goodIn_r _ [88, 16, 66, 67, 12, 68, 69, 70, 89, 90, 91, 14, 15, 92, 93, 94, 21, 95, 96, 29, 30, 31, 32, 19, 20, 22, 23, 24, 25, 26, 27, 41, 42, 43, 44, 45, 46, 47, 48, 49, 50, 51, 97, 98, 99, 100, 101, 102, 103, 104, 105, 106, 28, 107, 325, 326, 327, 328, 329] (by decide +kernel) (by decide +kernel)) (goodIn_sub (fun _ h => List.mem_cons_of_mem _ (List.mem_append_left _ (List.mem_append_right _ h))) (by decide +kernel))) (goodIn_sub (fun _ h => List.mem_cons_of_mem _ (List.mem_append_left _ (List.mem_append_left _ (List.mem_append_right _ h)))) (by decide +kernel))
set_option maxRecDepth 20000 in
theorem gL_isAhead_X4_sealed : GoodIn wsL_isAhead (wsV RL 26 RX4 yX4_sealed wsX4_sealed) := goodIn_app (goodIn_of _ (by decide +kernel)) ggL_isAhead_X4_sealed
set_option maxRecDepth 20000 in
theorem ggL_isAhead_X4_setting : GoodIn wsL_isAhead wsX4_setting := goodIn_ca (goodIn_r _ [111, 16, 66, 67, 12, 68, 69, 70, 71, 24, 25, 21, 26, 27, 325, 326, 327, 328, 329] (by decide +kernel) (by decide +kernel)) (goodIn_sub (fun _ h => List.mem_cons_of_mem _ (List.mem_append_left _ (List.mem_append_right _ h))) (by decide +kernel))
set_option maxRecDepth 20000 in
theorem gL_isAhead_X4_setting : GoodIn wsL_isAhead (wsV RL 30 RX4 yX4_setting wsX4_setting) := goodIn_app (goodIn_of _ (by decide +kernel)) ggL_isAhead_X4_setting
set_option maxRecDepth 20000 in
theorem ggL_isAhead_X4_undo : GoodIn wsL_isAhead wsX4_undo := goodIn_ca (goodIn_r _ [236, 17, 16, 56, 57, 58, 59, 60, 61, 203, 204, 12, 205, 206, 207, 237, 238, 239, 240, 212, 241, 242, 243, 21, 244, 225, 226, 227, 228, 27, 325, 326, 327, 328, 330, 331, 332, 333, 329] (by decide +kernel) (by decide +kernel)) (goodIn_sub (fun _ h => List.mem_cons_of_mem _ (List.mem_append_right _ h)) (by decide +kernel))
set_option maxRecDepth 20000 in
theorem gL_isAhead_X4_undo : GoodIn wsL_isAhead (wsV RL 95 RX4 yX4_undo wsX4_undo) := goodIn_app (goodIn_of _ (by decide +kernel)) ggL_isAhead_X4_undo
set_option maxRecDepth 20000 in
theorem ggL_isAhead_X4_bidder : GoodIn wsL_isAhead wsX4_bidder := goodIn_ca (goodIn_ca (goodIn_r _ [79, 14, 15, 16, 66, 67, 12, 68, 69, 70, 71, 24, 25, 21, 26, 27, 80, 38, 39, 40, 41, 42, 43, 44, 45, 46, 47, 48, 49, 50, 51, 23, 81, 82, 83, 84, 325, 326, 327, 328, 329] (by decide +kernel) (by decide +kernel)) (goodIn_sub (fun _ h => List.mem_cons_of_mem _ (List.mem_append_left _ (List.mem_append_left _ (List.mem_append_right _ h)))) (by decide +kernel))) (goodIn_sub (fun _ h => List.mem_cons_of_mem _ (List.mem_append_left _ (List.mem_append_right _ h))) (by decide +kernel))
set_option maxRecDepth 20000 in
theorem gL_isAhead_X4_bidder : GoodIn wsL_isAhead (wsV RL 23 RX4 yX4_bidder wsX4_bidder) := goodIn_app (goodIn_of _ (by decide +kernel)) ggL_isAhead_X4_bidder
set_option maxRecDepth 20000 in
theorem ggL_isAhead_X4_withdraw : GoodIn wsL_isAhead wsX4_withdraw := goodIn_ca (goodIn_ca (goodIn_r _ [248, 16, 17, 66, 67, 12, 68, 69, 70, 92, 93, 94, 21, 95, 96, 29, 30, 31, 32, 19, 20, 22, 23, 24, 25, 26, 27, 41, 42, 43, 44, 45, 46, 47, 48, 49, 50, 51, 97, 98, 99, 100, 203, 204, 205, 206, 207, 208, 209, 210, 59, 211, 61, 212, 213, 214, 215, 216, 217, 218, 219, 220, 249, 250, 251, 252, 225, 226, 227, 228, 253, 254, 255, 256, 229, 230, 231, 232, 325, 326, 327, 328, 329, 330, 331, 332, 333] (by decide +kernel) (by decide +kernel)) (goodIn_sub (fun _ h => List.mem_cons_of_mem _ (List.mem_append_left _ (List.mem_append_right _ h))) (by decide +kernel))) (goodIn_sub (fun _ h => List.mem_cons_of_mem _ (List.mem_append_right _ h)) (by decide +kernel))
set_option maxRecDepth 20000 in
theorem gL_isAhead_X4_withdraw : GoodIn wsL_isAhead (wsV RL 54 RX4 yX4_withdraw wsX4_withdraw) := goodIn_app (goodIn_of _ (by decide +kernel)) ggL_isAhead_X4_withdraw
set_option maxRecDepth 20000 in
theorem ggL_isAhead_X4_ifOpened : GoodIn wsL_isAhead wsX4_ifOpened := goodIn_ca (goodIn_ca (goodIn_r _ [260, 124, 16, 66, 67, 12, 68, 69, 70, 89, 90, 91, 14, 15, 125, 126, 127, 128, 129, 130, 131, 132, 133, 134, 46, 47, 21, 48, 49, 50, 51, 23, 24, 25, 26, 27, 135, 136, 137, 138, 139, 140, 141, 142, 143, 144, 145, 146, 147, 148, 149, 150, 151, 152, 153, 154, 155, 156, 157, 158, 159, 160, 161, 162, 163, 164, 165, 166, 167, 168, 169, 170, 171, 172, 173, 261, 262, 263, 264, 191, 192, 193, 194, 265, 266, 267, 268, 269, 270, 188, 189, 190, 184, 185, 186, 325, 326, 327, 328, 329, 334, 335] (by decide +kernel) (by decide +kernel)) (goodIn_sub (fun _ h => List.mem_cons_of_mem _ (List.mem_append_left _ (List.mem_append_right _ h))) (by decide +kernel))) (goodIn_sub (fun _ h => List.mem_cons_of_mem _ (List.mem_append_left _ (List.mem_append_left _ (List.mem_append_right _ h)))) (by decide +kernel))
set_option maxRecDepth 20000 in
theorem gL_isAhead_X4_ifOpened : GoodIn wsL_isAhead (wsV RL 98 RX4 yX4_ifOpened wsX4_ifOpened) := goodIn_app (goodIn_of _ (by decide +kernel)) ggL_isAhead_X4_ifOpened
set_option maxRecDepth 20000 in
theorem ggL_isAhead_X4_open : GoodIn wsL_isAhead wsX4_open := goodIn_ca (goodIn_r _ [274, 16, 17, 28, 29, 30, 21, 31, 32, 19, 20, 22, 23, 24, 25, 26, 27, 203, 204, 12, 205, 206, 207, 208, 209, 210, 59, 211, 61, 212, 213, 214, 215, 216, 217, 218, 219, 220, 275, 276, 277, 278, 124, 125, 126, 127, 128, 129, 130, 131, 132, 133, 134, 46, 47, 48, 49, 50, 51, 135, 136, 137, 138, 139, 140, 141, 142, 143, 144, 145, 146, 147, 148, 149, 150, 151, 152, 153, 154, 155, 156, 157, 158, 159, 160, 161, 162, 163, 164, 165, 166, 167, 168, 169, 170, 171, 172, 173, 279, 280, 281, 282, 225, 226, 227, 228, 261, 262, 263, 264, 191, 192, 193, 194, 265, 266, 267, 268, 269, 270, 188, 189, 190, 184, 185, 186, 283, 284, 285, 286, 253, 254, 255, 256, 229, 230, 231, 232, 325, 326, 327, 328, 329, 330, 331, 332, 333, 334, 335] (by decide +kernel) (by decide +kernel)) (goodIn_sub (fun _ h => List.mem_cons_of_mem _ (List.mem_append_right _ h)) (by decide +kernel))
set_option maxRecDepth 20000 in
theorem gL_isAhead_X4_open : GoodIn wsL_isAhead (wsV RL 57 RX4 yX4_open wsX4_open) := goodIn_app (goodIn_of _ (by decide +kernel)) ggL_isAhead_X4_open
set_option maxRecDepth 20000 in
theorem ggL_isAhead_X4_spot : GoodIn wsL_isAhead wsX4_spot := goodIn_ca (goodIn_ca (goodIn_r _ [65, 14, 15, 16, 66, 67, 12, 68, 69, 70, 71, 24, 25, 21, 26, 27, 72, 73, 74, 75, 41, 42, 43, 44, 45, 46, 47, 48, 49, 50, 51, 23, 325, 326, 327, 328, 329] (by decide +kernel) (by decide +kernel)) (goodIn_sub (fun _ h => List.mem_cons_of_mem _ (List.mem_append_left _ (List.mem_append_left _ (List.mem_append_right _ h)))) (by decide +kernel))) (goodIn_sub (fun _ h => List.mem_cons_of_mem _ (List.mem_append_left _ (List.mem_append_right _ h))) (by decide +kernel))
set_option maxRecDepth 20000 in
theorem gL_isAhead_X4_spot : GoodIn wsL_isAhead (wsV RL 19 RX4 yX4_spot wsX4_spot) := goodIn_app (goodIn_of _ (by decide +kernel)) ggL_isAhead_X4_spot
set_option maxRecDepth 20000 in
theorem ggL_isAhead_X4_fish : GoodIn wsL_isAhead wsX4_fish := goodIn_ca (goodIn_ca (goodIn_r _ [290, 16, 17, 66, 67, 12, 68, 69, 70, 291, 292, 293, 21, 294, 96, 29, 30, 31, 32, 19, 20, 22, 23, 24, 25, 26, 27, 203, 204, 205, 206, 207, 208, 209, 210, 59, 211, 61, 212, 213, 214, 215, 216, 217, 218, 219, 220, 295, 296, 297, 298, 299, 300, 159, 301, 229, 230, 231, 232, 225, 226, 227, 228, 302, 303, 304, 305, 325, 326, 327, 328, 329, 330, 331, 332, 333] (by decide +kernel) (by decide +kernel)) (goodIn_sub (fun _ h => List.mem_cons_of_mem _ (List.mem_append_left _ (List.mem_append_right _ h))) (by decide +kernel))) (goodIn_sub (fun _ h => List.mem_cons_of_mem _ (List.mem_append_right _ h)) (by decide +kernel))
set_option maxRecDepth 20000 in
theorem gL_isAhead_X4_fish : GoodIn wsL_isAhead (wsV RL 67 RX4 yX4_fish wsX4_fish) := goodIn_app (goodIn_of _ (by decide +kernel)) ggL_isAhead_X4_fish
set_option maxRecDepth 20000 in
theorem ggL_isAhead_X4_least : GoodIn wsL_isAhead wsX4_least := goodIn_ca (goodIn_r _ [309, 66, 67, 12, 68, 69, 70, 310, 311, 312, 313, 124, 16, 129, 130, 131, 132, 133, 134, 46, 47, 21, 48, 49, 50, 51, 23, 24, 25, 26, 27, 135, 136, 137, 138, 139, 140, 141, 142, 143, 144, 145, 146, 147, 314, 148, 149, 150, 151, 152, 153, 154, 155, 156, 157, 158, 159, 160, 161, 162, 163, 164, 165, 166, 167, 168, 169, 170, 171, 172, 173, 315, 192, 193, 194, 316, 325, 326, 327, 328, 329, 334, 335] (by decide +kernel) (by decide +kernel)) (goodIn_sub (fun _ h => List.mem_cons_of_mem _ (List.mem_append_left _ (List.mem_append_right _ h))) (by decide +kernel))
set_option maxRecDepth 20000 in
theorem gL_isAhead_X4_least : GoodIn wsL_isAhead (wsV RL 101 RX4 yX4_least wsX4_least) := goodIn_app (goodIn_of _ (by decide +kernel)) ggL_isAhead_X4_least
set_option maxRecDepth 20000 in
theorem ggL_isAhead_X4_ifBid : GoodIn wsL_isAhead wsX4_ifBid := goodIn_ca (goodIn_ca (goodIn_r _ [320, 124, 16, 66, 67, 12, 68, 69, 70, 89, 90, 91, 14, 15, 129, 130, 131, 132, 133, 134, 46, 47, 21, 48, 49, 50, 51, 23, 24, 25, 26, 27, 135, 136, 137, 138, 139, 140, 141, 142, 143, 144, 145, 146, 147, 316, 314, 148, 149, 150, 151, 152, 153, 154, 155, 156, 157, 158, 159, 160, 161, 162, 163, 164, 165, 166, 167, 168, 169, 170, 171, 172, 173, 321, 322, 323, 324, 269, 262, 263, 264, 191, 192, 193, 194, 265, 266, 267, 268, 270, 188, 189, 190, 184, 185, 186, 325, 326, 327, 328, 329, 334, 335] (by decide +kernel) (by decide +kernel)) (goodIn_sub (fun _ h => List.mem_cons_of_mem _ (List.mem_append_left _ (List.mem_append_right _ h))) (by decide +kernel))) (goodIn_sub (fun _ h => List.mem_cons_of_mem _ (List.mem_append_left _ (List.mem_append_left _ (List.mem_append_right _ h)))) (by decide +kernel))
set_option maxRecDepth 20000 in
theorem gL_isAhead_X4_ifBid : GoodIn wsL_isAhead (wsV RL 104 RX4 yX4_ifBid wsX4_ifBid) := goodIn_app (goodIn_of _ (by decide +kernel)) ggL_isAhead_X4_ifBid
theorem dL_isAhead_0 : decode cL_isAhead 0 = .ok (.aload_n 0, 1) := by decide +kernel
theorem dL_isAhead_1 : decode cL_isAhead 1 = .ok (.invokestatic 85, 3) := by decide +kernel
theorem dL_isAhead_4 : decode cL_isAhead 4 = .ok (.lstore 4, 2) := by decide +kernel
theorem dL_isAhead_6 : decode cL_isAhead 6 = .ok (.aload_n 0, 1) := by decide +kernel
theorem dL_isAhead_7 : decode cL_isAhead 7 = .ok (.iload_n 1, 1) := by decide +kernel
theorem dL_isAhead_8 : decode cL_isAhead 8 = .ok (.iload_n 2, 1) := by decide +kernel
theorem dL_isAhead_9 : decode cL_isAhead 9 = .ok (.iload_n 3, 1) := by decide +kernel
theorem dL_isAhead_10 : decode cL_isAhead 10 = .ok (.invokevirtual 70, 3) := by decide +kernel
theorem dL_isAhead_13 : decode cL_isAhead 13 = .ok (.istore 6, 2) := by decide +kernel
theorem dL_isAhead_15 : decode cL_isAhead 15 = .ok (.aload_n 0, 1) := by decide +kernel
theorem dL_isAhead_16 : decode cL_isAhead 16 = .ok (.bipush 6, 2) := by decide +kernel
theorem dL_isAhead_18 : decode cL_isAhead 18 = .ok (.iconst 0, 1) := by decide +kernel
theorem dL_isAhead_19 : decode cL_isAhead 19 = .ok (.invokevirtual 89, 3) := by decide +kernel
theorem dL_isAhead_22 : decode cL_isAhead 22 = .ok (.aload_n 0, 1) := by decide +kernel
theorem dL_isAhead_23 : decode cL_isAhead 23 = .ok (.bipush 6, 2) := by decide +kernel
theorem dL_isAhead_25 : decode cL_isAhead 25 = .ok (.iconst 1, 1) := by decide +kernel
theorem dL_isAhead_26 : decode cL_isAhead 26 = .ok (.invokevirtual 89, 3) := by decide +kernel
theorem dL_isAhead_29 : decode cL_isAhead 29 = .ok (.if_icmp .ne 56, 3) := by decide +kernel
theorem dL_isAhead_32 : decode cL_isAhead 32 = .ok (.aload_n 0, 1) := by decide +kernel
theorem dL_isAhead_33 : decode cL_isAhead 33 = .ok (.iload_n 1, 1) := by decide +kernel
theorem dL_isAhead_34 : decode cL_isAhead 34 = .ok (.iconst 0, 1) := by decide +kernel
theorem dL_isAhead_35 : decode cL_isAhead 35 = .ok (.invokevirtual 89, 3) := by decide +kernel
theorem dL_isAhead_38 : decode cL_isAhead 38 = .ok (.aload_n 0, 1) := by decide +kernel
theorem dL_isAhead_39 : decode cL_isAhead 39 = .ok (.iload_n 1, 1) := by decide +kernel
theorem dL_isAhead_40 : decode cL_isAhead 40 = .ok (.iconst 1, 1) := by decide +kernel
theorem dL_isAhead_41 : decode cL_isAhead 41 = .ok (.invokevirtual 89, 3) := by decide +kernel
theorem dL_isAhead_44 : decode cL_isAhead 44 = .ok (.if_icmp .ne 41, 3) := by decide +kernel
theorem dL_isAhead_47 : decode cL_isAhead 47 = .ok (.aload_n 0, 1) := by decide +kernel
theorem dL_isAhead_48 : decode cL_isAhead 48 = .ok (.iload_n 1, 1) := by decide +kernel
theorem dL_isAhead_49 : decode cL_isAhead 49 = .ok (.iconst 0, 1) := by decide +kernel
theorem dL_isAhead_50 : decode cL_isAhead 50 = .ok (.invokevirtual 89, 3) := by decide +kernel
theorem dL_isAhead_53 : decode cL_isAhead 53 = .ok (.aload_n 0, 1) := by decide +kernel
theorem dL_isAhead_54 : decode cL_isAhead 54 = .ok (.bipush 6, 2) := by decide +kernel
theorem dL_isAhead_56 : decode cL_isAhead 56 = .ok (.iconst 0, 1) := by decide +kernel
theorem dL_isAhead_57 : decode cL_isAhead 57 = .ok (.invokevirtual 89, 3) := by decide +kernel
theorem dL_isAhead_60 : decode cL_isAhead 60 = .ok (.if_icmp .gt 25, 3) := by decide +kernel
theorem dL_isAhead_63 : decode cL_isAhead 63 = .ok (.aload_n 0, 1) := by decide +kernel
theorem dL_isAhead_64 : decode cL_isAhead 64 = .ok (.aload_n 0, 1) := by decide +kernel
theorem dL_isAhead_65 : decode cL_isAhead 65 = .ok (.invokevirtual 92, 3) := by decide +kernel
theorem dL_isAhead_68 : decode cL_isAhead 68 = .ok (.iconst 0, 1) := by decide +kernel
theorem dL_isAhead_69 : decode cL_isAhead 69 = .ok (.invokevirtual 89, 3) := by decide +kernel
theorem dL_isAhead_72 : decode cL_isAhead 72 = .ok (.aload_n 0, 1) := by decide +kernel
theorem dL_isAhead_73 : decode cL_isAhead 73 = .ok (.iload_n 1, 1) := by decide +kernel
theorem dL_isAhead_74 : decode cL_isAhead 74 = .ok (.iconst 0, 1) := by decide +kernel
theorem dL_isAhead_75 : decode cL_isAhead 75 = .ok (.invokevirtual 89, 3) := by decide +kernel
theorem dL_isAhead_78 : decode cL_isAhead 78 = .ok (.if_icmp .gt 7, 3) := by decide +kernel
theorem dL_isAhead_81 : decode cL_isAhead 81 = .ok (.iconst 1, 1) := by decide +kernel
theorem dL_isAhead_82 : decode cL_isAhead 82 = .ok (.goto 4, 3) := by decide +kernel
theorem dL_isAhead_85 : decode cL_isAhead 85 = .ok (.iconst 0, 1) := by decide +kernel
theorem dL_isAhead_86 : decode cL_isAhead 86 = .ok (.istore 7, 2) := by decide +kernel
theorem dL_isAhead_88 : decode cL_isAhead 88 = .ok (.aload_n 0, 1) := by decide +kernel
theorem dL_isAhead_89 : decode cL_isAhead 89 = .ok (.bipush 12, 2) := by decide +kernel
theorem dL_isAhead_91 : decode cL_isAhead 91 = .ok (.invokevirtual 13, 3) := by decide +kernel
theorem dL_isAhead_94 : decode cL_isAhead 94 = .ok (.istore 8, 2) := by decide +kernel
theorem dL_isAhead_96 : decode cL_isAhead 96 = .ok (.iload 7, 2) := by decide +kernel
theorem dL_isAhead_98 : decode cL_isAhead 98 = .ok (.ifCond .eq 99, 3) := by decide +kernel
theorem dL_isAhead_101 : decode cL_isAhead 101 = .ok (.iload 6, 2) := by decide +kernel
theorem dL_isAhead_103 : decode cL_isAhead 103 = .ok (.ifCond .ne 94, 3) := by decide +kernel
theorem dL_isAhead_106 : decode cL_isAhead 106 = .ok (.aload_n 0, 1) := by decide +kernel
theorem dL_isAhead_107 : decode cL_isAhead 107 = .ok (.iload_n 1, 1) := by decide +kernel
theorem dL_isAhead_108 : decode cL_isAhead 108 = .ok (.iload_n 2, 1) := by decide +kernel
theorem dL_isAhead_109 : decode cL_isAhead 109 = .ok (.iload_n 3, 1) := by decide +kernel
theorem dL_isAhead_110 : decode cL_isAhead 110 = .ok (.invokevirtual 73, 3) := by decide +kernel
theorem dL_isAhead_113 : decode cL_isAhead 113 = .ok (.istore 9, 2) := by decide +kernel
theorem dL_isAhead_115 : decode cL_isAhead 115 = .ok (.iload 9, 2) := by decide +kernel
theorem dL_isAhead_117 : decode cL_isAhead 117 = .ok (.ifCond .lt 77, 3) := by decide +kernel
theorem dL_isAhead_120 : decode cL_isAhead 120 = .ok (.iload 9, 2) := by decide +kernel
theorem dL_isAhead_122 : decode cL_isAhead 122 = .ok (.sipush 4096, 3) := by decide +kernel
theorem dL_isAhead_125 : decode cL_isAhead 125 = .ok (.if_icmp .ge 69, 3) := by decide +kernel
theorem dL_isAhead_128 : decode cL_isAhead 128 = .ok (.aload_n 0, 1) := by decide +kernel
theorem dL_isAhead_129 : decode cL_isAhead 129 = .ok (.iload_n 1, 1) := by decide +kernel
theorem dL_isAhead_130 : decode cL_isAhead 130 = .ok (.iload_n 2, 1) := by decide +kernel
theorem dL_isAhead_131 : decode cL_isAhead 131 = .ok (.iconst 0, 1) := by decide +kernel
theorem dL_isAhead_132 : decode cL_isAhead 132 = .ok (.invokevirtual 26, 3) := by decide +kernel
theorem dL_isAhead_135 : decode cL_isAhead 135 = .ok (.iload 9, 2) := by decide +kernel
theorem dL_isAhead_137 : decode cL_isAhead 137 = .ok (.if_icmp .ne 57, 3) := by decide +kernel
theorem dL_isAhead_140 : decode cL_isAhead 140 = .ok (.aload_n 0, 1) := by decide +kernel
theorem dL_isAhead_141 : decode cL_isAhead 141 = .ok (.iload_n 1, 1) := by decide +kernel
theorem dL_isAhead_142 : decode cL_isAhead 142 = .ok (.iload_n 2, 1) := by decide +kernel
theorem dL_isAhead_143 : decode cL_isAhead 143 = .ok (.iconst 1, 1) := by decide +kernel
theorem dL_isAhead_144 : decode cL_isAhead 144 = .ok (.invokevirtual 26, 3) := by decide +kernel
theorem dL_isAhead_147 : decode cL_isAhead 147 = .ok (.aload_n 0, 1) := by decide +kernel
theorem dL_isAhead_148 : decode cL_isAhead 148 = .ok (.iconst 1, 1) := by decide +kernel
theorem dL_isAhead_149 : decode cL_isAhead 149 = .ok (.invokevirtual 13, 3) := by decide +kernel
theorem dL_isAhead_152 : decode cL_isAhead 152 = .ok (.if_icmp .ne 42, 3) := by decide +kernel
theorem dL_isAhead_155 : decode cL_isAhead 155 = .ok (.aload_n 0, 1) := by decide +kernel
theorem dL_isAhead_156 : decode cL_isAhead 156 = .ok (.iload_n 1, 1) := by decide +kernel
theorem dL_isAhead_157 : decode cL_isAhead 157 = .ok (.iload_n 2, 1) := by decide +kernel
theorem dL_isAhead_158 : decode cL_isAhead 158 = .ok (.iconst 3, 1) := by decide +kernel
theorem dL_isAhead_159 : decode cL_isAhead 159 = .ok (.invokevirtual 26, 3) := by decide +kernel
theorem dL_isAhead_162 : decode cL_isAhead 162 = .ok (.aload_n 0, 1) := by decide +kernel
theorem dL_isAhead_163 : decode cL_isAhead 163 = .ok (.iconst 0, 1) := by decide +kernel
theorem dL_isAhead_164 : decode cL_isAhead 164 = .ok (.invokevirtual 30, 3) := by decide +kernel
theorem dL_isAhead_167 : decode cL_isAhead 167 = .ok (.if_icmp .ne 27, 3) := by decide +kernel
theorem dL_isAhead_170 : decode cL_isAhead 170 = .ok (.aload_n 0, 1) := by decide +kernel
theorem dL_isAhead_171 : decode cL_isAhead 171 = .ok (.bipush 12, 2) := by decide +kernel
theorem dL_isAhead_173 : decode cL_isAhead 173 = .ok (.invokevirtual 13, 3) := by decide +kernel
theorem dL_isAhead_176 : decode cL_isAhead 176 = .ok (.iload 8, 2) := by decide +kernel
theorem dL_isAhead_178 : decode cL_isAhead 178 = .ok (.iconst 1, 1) := by decide +kernel
theorem dL_isAhead_179 : decode cL_isAhead 179 = .ok (.iadd, 1) := by decide +kernel
theorem dL_isAhead_180 : decode cL_isAhead 180 = .ok (.if_icmp .ne 14, 3) := by decide +kernel
theorem dL_isAhead_183 : decode cL_isAhead 183 = .ok (.aload_n 0, 1) := by decide +kernel
theorem dL_isAhead_184 : decode cL_isAhead 184 = .ok (.invokevirtual 95, 3) := by decide +kernel
theorem dL_isAhead_187 : decode cL_isAhead 187 = .ok (.ifCond .lt 7, 3) := by decide +kernel
theorem dL_isAhead_190 : decode cL_isAhead 190 = .ok (.iconst 1, 1) := by decide +kernel
theorem dL_isAhead_191 : decode cL_isAhead 191 = .ok (.goto 4, 3) := by decide +kernel
theorem dL_isAhead_194 : decode cL_isAhead 194 = .ok (.iconst 0, 1) := by decide +kernel
theorem dL_isAhead_195 : decode cL_isAhead 195 = .ok (.istore 7, 2) := by decide +kernel
theorem dL_isAhead_197 : decode cL_isAhead 197 = .ok (.iload 7, 2) := by decide +kernel
theorem dL_isAhead_199 : decode cL_isAhead 199 = .ok (.ifCond .eq 102, 3) := by decide +kernel
theorem dL_isAhead_202 : decode cL_isAhead 202 = .ok (.aload_n 0, 1) := by decide +kernel
theorem dL_isAhead_203 : decode cL_isAhead 203 = .ok (.iload_n 1, 1) := by decide +kernel
theorem dL_isAhead_204 : decode cL_isAhead 204 = .ok (.iload_n 2, 1) := by decide +kernel
theorem dL_isAhead_205 : decode cL_isAhead 205 = .ok (.iconst 4, 1) := by decide +kernel
theorem dL_isAhead_206 : decode cL_isAhead 206 = .ok (.invokevirtual 26, 3) := by decide +kernel
theorem dL_isAhead_209 : decode cL_isAhead 209 = .ok (.ifCond .ne 92, 3) := by decide +kernel
theorem dL_isAhead_212 : decode cL_isAhead 212 = .ok (.aload_n 0, 1) := by decide +kernel
theorem dL_isAhead_213 : decode cL_isAhead 213 = .ok (.iload_n 1, 1) := by decide +kernel
theorem dL_isAhead_214 : decode cL_isAhead 214 = .ok (.iload_n 2, 1) := by decide +kernel
theorem dL_isAhead_215 : decode cL_isAhead 215 = .ok (.iconst 3, 1) := by decide +kernel
theorem dL_isAhead_216 : decode cL_isAhead 216 = .ok (.invokevirtual 26, 3) := by decide +kernel
theorem dL_isAhead_219 : decode cL_isAhead 219 = .ok (.istore 9, 2) := by decide +kernel
theorem dL_isAhead_221 : decode cL_isAhead 221 = .ok (.aload_n 0, 1) := by decide +kernel
theorem dL_isAhead_222 : decode cL_isAhead 222 = .ok (.iload_n 1, 1) := by decide +kernel
theorem dL_isAhead_223 : decode cL_isAhead 223 = .ok (.iconst 0, 1) := by decide +kernel
theorem dL_isAhead_224 : decode cL_isAhead 224 = .ok (.invokevirtual 23, 3) := by decide +kernel
theorem dL_isAhead_227 : decode cL_isAhead 227 = .ok (.istore 10, 2) := by decide +kernel
theorem dL_isAhead_229 : decode cL_isAhead 229 = .ok (.aload_n 0, 1) := by decide +kernel
theorem dL_isAhead_230 : decode cL_isAhead 230 = .ok (.bipush 7, 2) := by decide +kernel
theorem dL_isAhead_232 : decode cL_isAhead 232 = .ok (.invokevirtual 13, 3) := by decide +kernel
theorem dL_isAhead_235 : decode cL_isAhead 235 = .ok (.istore 11, 2) := by decide +kernel
theorem dL_isAhead_237 : decode cL_isAhead 237 = .ok (.aload_n 0, 1) := by decide +kernel
theorem dL_isAhead_238 : decode cL_isAhead 238 = .ok (.iload_n 1, 1) := by decide +kernel
theorem dL_isAhead_239 : decode cL_isAhead 239 = .ok (.iload_n 2, 1) := by decide +kernel
theorem dL_isAhead_240 : decode cL_isAhead 240 = .ok (.invokevirtual 54, 3) := by decide +kernel
theorem dL_isAhead_243 : decode cL_isAhead 243 = .ok (.iload 9, 2) := by decide +kernel
theorem dL_isAhead_245 : decode cL_isAhead 245 = .ok (.if_icmp .ne 53, 3) := by decide +kernel
theorem dL_isAhead_248 : decode cL_isAhead 248 = .ok (.aload_n 0, 1) := by decide +kernel
theorem dL_isAhead_249 : decode cL_isAhead 249 = .ok (.iload_n 1, 1) := by decide +kernel
theorem dL_isAhead_250 : decode cL_isAhead 250 = .ok (.iconst 0, 1) := by decide +kernel
theorem dL_isAhead_251 : decode cL_isAhead 251 = .ok (.invokevirtual 23, 3) := by decide +kernel
theorem dL_isAhead_254 : decode cL_isAhead 254 = .ok (.iload 10, 2) := by decide +kernel
theorem dL_isAhead_256 : decode cL_isAhead 256 = .ok (.iload 9, 2) := by decide +kernel
theorem dL_isAhead_258 : decode cL_isAhead 258 = .ok (.isub, 1) := by decide +kernel
theorem dL_isAhead_259 : decode cL_isAhead 259 = .ok (.if_icmp .ne 39, 3) := by decide +kernel
theorem dL_isAhead_262 : decode cL_isAhead 262 = .ok (.aload_n 0, 1) := by decide +kernel
theorem dL_isAhead_263 : decode cL_isAhead 263 = .ok (.bipush 7, 2) := by decide +kernel
theorem dL_isAhead_265 : decode cL_isAhead 265 = .ok (.invokevirtual 13, 3) := by decide +kernel
theorem dL_isAhead_268 : decode cL_isAhead 268 = .ok (.iload 11, 2) := by decide +kernel
theorem dL_isAhead_270 : decode cL_isAhead 270 = .ok (.iload 9, 2) := by decide +kernel
theorem dL_isAhead_272 : decode cL_isAhead 272 = .ok (.iadd, 1) := by decide +kernel
theorem dL_isAhead_273 : decode cL_isAhead 273 = .ok (.if_icmp .ne 25, 3) := by decide +kernel
theorem dL_isAhead_276 : decode cL_isAhead 276 = .ok (.aload_n 0, 1) := by decide +kernel
theorem dL_isAhead_277 : decode cL_isAhead 277 = .ok (.iload_n 1, 1) := by decide +kernel
theorem dL_isAhead_278 : decode cL_isAhead 278 = .ok (.iload_n 2, 1) := by decide +kernel
theorem dL_isAhead_279 : decode cL_isAhead 279 = .ok (.iconst 0, 1) := by decide +kernel
theorem dL_isAhead_280 : decode cL_isAhead 280 = .ok (.invokevirtual 26, 3) := by decide +kernel
theorem dL_isAhead_283 : decode cL_isAhead 283 = .ok (.iconst (-1), 1) := by decide +kernel
theorem dL_isAhead_284 : decode cL_isAhead 284 = .ok (.if_icmp .ne 14, 3) := by decide +kernel
theorem dL_isAhead_287 : decode cL_isAhead 287 = .ok (.aload_n 0, 1) := by decide +kernel
theorem dL_isAhead_288 : decode cL_isAhead 288 = .ok (.invokevirtual 95, 3) := by decide +kernel
theorem dL_isAhead_291 : decode cL_isAhead 291 = .ok (.ifCond .lt 7, 3) := by decide +kernel
theorem dL_isAhead_294 : decode cL_isAhead 294 = .ok (.iconst 1, 1) := by decide +kernel
theorem dL_isAhead_295 : decode cL_isAhead 295 = .ok (.goto 4, 3) := by decide +kernel
theorem dL_isAhead_298 : decode cL_isAhead 298 = .ok (.iconst 0, 1) := by decide +kernel
theorem dL_isAhead_299 : decode cL_isAhead 299 = .ok (.istore 7, 2) := by decide +kernel
theorem dL_isAhead_301 : decode cL_isAhead 301 = .ok (.iload 7, 2) := by decide +kernel
theorem dL_isAhead_303 : decode cL_isAhead 303 = .ok (.ifCond .eq 132, 3) := by decide +kernel
theorem dL_isAhead_306 : decode cL_isAhead 306 = .ok (.aload_n 0, 1) := by decide +kernel
theorem dL_isAhead_307 : decode cL_isAhead 307 = .ok (.iconst 2, 1) := by decide +kernel
theorem dL_isAhead_308 : decode cL_isAhead 308 = .ok (.invokevirtual 13, 3) := by decide +kernel
theorem dL_isAhead_311 : decode cL_isAhead 311 = .ok (.ifCond .ne 124, 3) := by decide +kernel
theorem dL_isAhead_314 : decode cL_isAhead 314 = .ok (.aload_n 0, 1) := by decide +kernel
theorem dL_isAhead_315 : decode cL_isAhead 315 = .ok (.iload_n 2, 1) := by decide +kernel
theorem dL_isAhead_316 : decode cL_isAhead 316 = .ok (.iconst 0, 1) := by decide +kernel
theorem dL_isAhead_317 : decode cL_isAhead 317 = .ok (.invokevirtual 98, 3) := by decide +kernel
theorem dL_isAhead_320 : decode cL_isAhead 320 = .ok (.istore 9, 2) := by decide +kernel
theorem dL_isAhead_322 : decode cL_isAhead 322 = .ok (.aload_n 0, 1) := by decide +kernel
theorem dL_isAhead_323 : decode cL_isAhead 323 = .ok (.iload_n 2, 1) := by decide +kernel
theorem dL_isAhead_324 : decode cL_isAhead 324 = .ok (.iconst 1, 1) := by decide +kernel
theorem dL_isAhead_325 : decode cL_isAhead 325 = .ok (.invokevirtual 98, 3) := by decide +kernel
theorem dL_isAhead_328 : decode cL_isAhead 328 = .ok (.istore 10, 2) := by decide +kernel
theorem dL_isAhead_330 : decode cL_isAhead 330 = .ok (.aload_n 0, 1) := by decide +kernel
theorem dL_isAhead_331 : decode cL_isAhead 331 = .ok (.invokevirtual 57, 3) := by decide +kernel
theorem dL_isAhead_334 : decode cL_isAhead 334 = .ok (.istore 11, 2) := by decide +kernel
theorem dL_isAhead_336 : decode cL_isAhead 336 = .ok (.iconst 0, 1) := by decide +kernel
theorem dL_isAhead_337 : decode cL_isAhead 337 = .ok (.istore 12, 2) := by decide +kernel
theorem dL_isAhead_339 : decode cL_isAhead 339 = .ok (.iconst 0, 1) := by decide +kernel
theorem dL_isAhead_340 : decode cL_isAhead 340 = .ok (.istore 13, 2) := by decide +kernel
theorem dL_isAhead_342 : decode cL_isAhead 342 = .ok (.iload 13, 2) := by decide +kernel
theorem dL_isAhead_344 : decode cL_isAhead 344 = .ok (.bipush 6, 2) := by decide +kernel
theorem dL_isAhead_346 : decode cL_isAhead 346 = .ok (.if_icmp .ge 29, 3) := by decide +kernel
theorem dL_isAhead_349 : decode cL_isAhead 349 = .ok (.iload 12, 2) := by decide +kernel
theorem dL_isAhead_351 : decode cL_isAhead 351 = .ok (.aload_n 0, 1) := by decide +kernel
theorem dL_isAhead_352 : decode cL_isAhead 352 = .ok (.iload 13, 2) := by decide +kernel
theorem dL_isAhead_354 : decode cL_isAhead 354 = .ok (.iconst 2, 1) := by decide +kernel
theorem dL_isAhead_355 : decode cL_isAhead 355 = .ok (.invokevirtual 19, 3) := by decide +kernel
theorem dL_isAhead_358 : decode cL_isAhead 358 = .ok (.ifCond .lt 7, 3) := by decide +kernel
theorem dL_isAhead_361 : decode cL_isAhead 361 = .ok (.iconst 1, 1) := by decide +kernel
theorem dL_isAhead_362 : decode cL_isAhead 362 = .ok (.goto 4, 3) := by decide +kernel
theorem dL_isAhead_365 : decode cL_isAhead 365 = .ok (.iconst 0, 1) := by decide +kernel
theorem dL_isAhead_366 : decode cL_isAhead 366 = .ok (.iadd, 1) := by decide +kernel
theorem dL_isAhead_367 : decode cL_isAhead 367 = .ok (.istore 12, 2) := by decide +kernel
theorem dL_isAhead_369 : decode cL_isAhead 369 = .ok (.iinc 13 1, 3) := by decide +kernel
theorem dL_isAhead_372 : decode cL_isAhead 372 = .ok (.goto (-30), 3) := by decide +kernel
theorem dL_isAhead_375 : decode cL_isAhead 375 = .ok (.iload 11, 2) := by decide +kernel
theorem dL_isAhead_377 : decode cL_isAhead 377 = .ok (.iload 12, 2) := by decide +kernel
theorem dL_isAhead_379 : decode cL_isAhead 379 = .ok (.if_icmp .ne 53, 3) := by decide +kernel
theorem dL_isAhead_382 : decode cL_isAhead 382 = .ok (.aload_n 0, 1) := by decide +kernel
theorem dL_isAhead_383 : decode cL_isAhead 383 = .ok (.iload_n 2, 1) := by decide +kernel
theorem dL_isAhead_384 : decode cL_isAhead 384 = .ok (.iconst 2, 1) := by decide +kernel
theorem dL_isAhead_385 : decode cL_isAhead 385 = .ok (.invokevirtual 19, 3) := by decide +kernel
theorem dL_isAhead_388 : decode cL_isAhead 388 = .ok (.iload 9, 2) := by decide +kernel
theorem dL_isAhead_390 : decode cL_isAhead 390 = .ok (.if_icmp .ne 42, 3) := by decide +kernel
theorem dL_isAhead_393 : decode cL_isAhead 393 = .ok (.aload_n 0, 1) := by decide +kernel
theorem dL_isAhead_394 : decode cL_isAhead 394 = .ok (.iload_n 2, 1) := by decide +kernel
theorem dL_isAhead_395 : decode cL_isAhead 395 = .ok (.iconst 3, 1) := by decide +kernel
theorem dL_isAhead_396 : decode cL_isAhead 396 = .ok (.invokevirtual 19, 3) := by decide +kernel
theorem dL_isAhead_399 : decode cL_isAhead 399 = .ok (.iload 10, 2) := by decide +kernel
theorem dL_isAhead_401 : decode cL_isAhead 401 = .ok (.if_icmp .ne 31, 3) := by decide +kernel
theorem dL_isAhead_404 : decode cL_isAhead 404 = .ok (.iload 10, 2) := by decide +kernel
theorem dL_isAhead_406 : decode cL_isAhead 406 = .ok (.iconst (-1), 1) := by decide +kernel
theorem dL_isAhead_407 : decode cL_isAhead 407 = .ok (.if_icmp .eq 14, 3) := by decide +kernel
theorem dL_isAhead_410 : decode cL_isAhead 410 = .ok (.iload 10, 2) := by decide +kernel
theorem dL_isAhead_412 : decode cL_isAhead 412 = .ok (.aload_n 0, 1) := by decide +kernel
theorem dL_isAhead_413 : decode cL_isAhead 413 = .ok (.iload_n 2, 1) := by decide +kernel
theorem dL_isAhead_414 : decode cL_isAhead 414 = .ok (.iconst 0, 1) := by decide +kernel
theorem dL_isAhead_415 : decode cL_isAhead 415 = .ok (.invokevirtual 19, 3) := by decide +kernel
theorem dL_isAhead_418 : decode cL_isAhead 418 = .ok (.if_icmp .lt 14, 3) := by decide +kernel
theorem dL_isAhead_421 : decode cL_isAhead 421 = .ok (.aload_n 0, 1) := by decide +kernel
theorem dL_isAhead_422 : decode cL_isAhead 422 = .ok (.invokevirtual 95, 3) := by decide +kernel
theorem dL_isAhead_425 : decode cL_isAhead 425 = .ok (.ifCond .lt 7, 3) := by decide +kernel
theorem dL_isAhead_428 : decode cL_isAhead 428 = .ok (.iconst 1, 1) := by decide +kernel
theorem dL_isAhead_429 : decode cL_isAhead 429 = .ok (.goto 4, 3) := by decide +kernel
theorem dL_isAhead_432 : decode cL_isAhead 432 = .ok (.iconst 0, 1) := by decide +kernel
theorem dL_isAhead_433 : decode cL_isAhead 433 = .ok (.istore 7, 2) := by decide +kernel
theorem dL_isAhead_435 : decode cL_isAhead 435 = .ok (.iload 7, 2) := by decide +kernel
theorem dL_isAhead_437 : decode cL_isAhead 437 = .ok (.ifCond .eq 93, 3) := by decide +kernel
theorem dL_isAhead_440 : decode cL_isAhead 440 = .ok (.aload_n 0, 1) := by decide +kernel
theorem dL_isAhead_441 : decode cL_isAhead 441 = .ok (.iload_n 2, 1) := by decide +kernel
theorem dL_isAhead_442 : decode cL_isAhead 442 = .ok (.iconst 2, 1) := by decide +kernel
theorem dL_isAhead_443 : decode cL_isAhead 443 = .ok (.invokevirtual 19, 3) := by decide +kernel
theorem dL_isAhead_446 : decode cL_isAhead 446 = .ok (.ifCond .lt 84, 3) := by decide +kernel
theorem dL_isAhead_449 : decode cL_isAhead 449 = .ok (.aload_n 0, 1) := by decide +kernel
theorem dL_isAhead_450 : decode cL_isAhead 450 = .ok (.iload_n 2, 1) := by decide +kernel
theorem dL_isAhead_451 : decode cL_isAhead 451 = .ok (.iconst 1, 1) := by decide +kernel
theorem dL_isAhead_452 : decode cL_isAhead 452 = .ok (.invokevirtual 19, 3) := by decide +kernel
theorem dL_isAhead_455 : decode cL_isAhead 455 = .ok (.istore 9, 2) := by decide +kernel
theorem dL_isAhead_457 : decode cL_isAhead 457 = .ok (.aload_n 0, 1) := by decide +kernel
theorem dL_isAhead_458 : decode cL_isAhead 458 = .ok (.bipush 10, 2) := by decide +kernel
theorem dL_isAhead_460 : decode cL_isAhead 460 = .ok (.invokevirtual 13, 3) := by decide +kernel
theorem dL_isAhead_463 : decode cL_isAhead 463 = .ok (.istore 10, 2) := by decide +kernel
theorem dL_isAhead_465 : decode cL_isAhead 465 = .ok (.aload_n 0, 1) := by decide +kernel
theorem dL_isAhead_466 : decode cL_isAhead 466 = .ok (.iload_n 2, 1) := by decide +kernel
theorem dL_isAhead_467 : decode cL_isAhead 467 = .ok (.invokevirtual 67, 3) := by decide +kernel
theorem dL_isAhead_470 : decode cL_isAhead 470 = .ok (.istore 11, 2) := by decide +kernel
theorem dL_isAhead_472 : decode cL_isAhead 472 = .ok (.iload 11, 2) := by decide +kernel
theorem dL_isAhead_474 : decode cL_isAhead 474 = .ok (.iload 9, 2) := by decide +kernel
theorem dL_isAhead_476 : decode cL_isAhead 476 = .ok (.if_icmp .gt 51, 3) := by decide +kernel
theorem dL_isAhead_479 : decode cL_isAhead 479 = .ok (.iload 11, 2) := by decide +kernel
theorem dL_isAhead_481 : decode cL_isAhead 481 = .ok (.ifCond .le 7, 3) := by decide +kernel
theorem dL_isAhead_484 : decode cL_isAhead 484 = .ok (.iconst 1, 1) := by decide +kernel
theorem dL_isAhead_485 : decode cL_isAhead 485 = .ok (.goto 4, 3) := by decide +kernel
theorem dL_isAhead_488 : decode cL_isAhead 488 = .ok (.iconst 0, 1) := by decide +kernel
theorem dL_isAhead_489 : decode cL_isAhead 489 = .ok (.iload 9, 2) := by decide +kernel
theorem dL_isAhead_491 : decode cL_isAhead 491 = .ok (.ifCond .le 7, 3) := by decide +kernel
theorem dL_isAhead_494 : decode cL_isAhead 494 = .ok (.iconst 1, 1) := by decide +kernel
theorem dL_isAhead_495 : decode cL_isAhead 495 = .ok (.goto 4, 3) := by decide +kernel
theorem dL_isAhead_498 : decode cL_isAhead 498 = .ok (.iconst 0, 1) := by decide +kernel
theorem dL_isAhead_499 : decode cL_isAhead 499 = .ok (.if_icmp .ne 28, 3) := by decide +kernel
theorem dL_isAhead_502 : decode cL_isAhead 502 = .ok (.aload_n 0, 1) := by decide +kernel
theorem dL_isAhead_503 : decode cL_isAhead 503 = .ok (.bipush 10, 2) := by decide +kernel
theorem dL_isAhead_505 : decode cL_isAhead 505 = .ok (.invokevirtual 13, 3) := by decide +kernel
theorem dL_isAhead_508 : decode cL_isAhead 508 = .ok (.iload 10, 2) := by decide +kernel
theorem dL_isAhead_510 : decode cL_isAhead 510 = .ok (.iload 11, 2) := by decide +kernel
theorem dL_isAhead_512 : decode cL_isAhead 512 = .ok (.isub, 1) := by decide +kernel
theorem dL_isAhead_513 : decode cL_isAhead 513 = .ok (.if_icmp .ne 14, 3) := by decide +kernel
theorem dL_isAhead_516 : decode cL_isAhead 516 = .ok (.aload_n 0, 1) := by decide +kernel
theorem dL_isAhead_517 : decode cL_isAhead 517 = .ok (.invokevirtual 95, 3) := by decide +kernel
theorem dL_isAhead_520 : decode cL_isAhead 520 = .ok (.ifCond .lt 7, 3) := by decide +kernel
theorem dL_isAhead_523 : decode cL_isAhead 523 = .ok (.iconst 1, 1) := by decide +kernel
theorem dL_isAhead_524 : decode cL_isAhead 524 = .ok (.goto 4, 3) := by decide +kernel
theorem dL_isAhead_527 : decode cL_isAhead 527 = .ok (.iconst 0, 1) := by decide +kernel
theorem dL_isAhead_528 : decode cL_isAhead 528 = .ok (.istore 7, 2) := by decide +kernel
theorem dL_isAhead_530 : decode cL_isAhead 530 = .ok (.aload_n 0, 1) := by decide +kernel
theorem dL_isAhead_531 : decode cL_isAhead 531 = .ok (.iload_n 1, 1) := by decide +kernel
theorem dL_isAhead_532 : decode cL_isAhead 532 = .ok (.iload_n 2, 1) := by decide +kernel
theorem dL_isAhead_533 : decode cL_isAhead 533 = .ok (.invokevirtual 101, 3) := by decide +kernel
theorem dL_isAhead_536 : decode cL_isAhead 536 = .ok (.istore 9, 2) := by decide +kernel
theorem dL_isAhead_538 : decode cL_isAhead 538 = .ok (.aload_n 0, 1) := by decide +kernel
theorem dL_isAhead_539 : decode cL_isAhead 539 = .ok (.iload_n 1, 1) := by decide +kernel
theorem dL_isAhead_540 : decode cL_isAhead 540 = .ok (.iload_n 2, 1) := by decide +kernel
theorem dL_isAhead_541 : decode cL_isAhead 541 = .ok (.iload_n 3, 1) := by decide +kernel
theorem dL_isAhead_542 : decode cL_isAhead 542 = .ok (.iconst 0, 1) := by decide +kernel
theorem dL_isAhead_543 : decode cL_isAhead 543 = .ok (.invokevirtual 104, 3) := by decide +kernel
theorem dL_isAhead_546 : decode cL_isAhead 546 = .ok (.istore 10, 2) := by decide +kernel
theorem dL_isAhead_548 : decode cL_isAhead 548 = .ok (.aload_n 0, 1) := by decide +kernel
theorem dL_isAhead_549 : decode cL_isAhead 549 = .ok (.iload_n 1, 1) := by decide +kernel
theorem dL_isAhead_550 : decode cL_isAhead 550 = .ok (.iload_n 2, 1) := by decide +kernel
theorem dL_isAhead_551 : decode cL_isAhead 551 = .ok (.iload_n 3, 1) := by decide +kernel
theorem dL_isAhead_552 : decode cL_isAhead 552 = .ok (.iconst 1, 1) := by decide +kernel
theorem dL_isAhead_553 : decode cL_isAhead 553 = .ok (.invokevirtual 104, 3) := by decide +kernel
theorem dL_isAhead_556 : decode cL_isAhead 556 = .ok (.istore 11, 2) := by decide +kernel
theorem dL_isAhead_558 : decode cL_isAhead 558 = .ok (.iload 7, 2) := by decide +kernel
theorem dL_isAhead_560 : decode cL_isAhead 560 = .ok (.ifCond .eq 125, 3) := by decide +kernel
theorem dL_isAhead_563 : decode cL_isAhead 563 = .ok (.iload 10, 2) := by decide +kernel
theorem dL_isAhead_565 : decode cL_isAhead 565 = .ok (.iconst (-1), 1) := by decide +kernel
theorem dL_isAhead_566 : decode cL_isAhead 566 = .ok (.if_icmp .ne 7, 3) := by decide +kernel
theorem dL_isAhead_569 : decode cL_isAhead 569 = .ok (.iconst 1, 1) := by decide +kernel
theorem dL_isAhead_570 : decode cL_isAhead 570 = .ok (.goto 4, 3) := by decide +kernel
theorem dL_isAhead_573 : decode cL_isAhead 573 = .ok (.iconst 0, 1) := by decide +kernel
theorem dL_isAhead_574 : decode cL_isAhead 574 = .ok (.iload 11, 2) := by decide +kernel
theorem dL_isAhead_576 : decode cL_isAhead 576 = .ok (.iconst (-1), 1) := by decide +kernel
theorem dL_isAhead_577 : decode cL_isAhead 577 = .ok (.if_icmp .ne 7, 3) := by decide +kernel
theorem dL_isAhead_580 : decode cL_isAhead 580 = .ok (.iconst 1, 1) := by decide +kernel
theorem dL_isAhead_581 : decode cL_isAhead 581 = .ok (.goto 4, 3) := by decide +kernel
theorem dL_isAhead_584 : decode cL_isAhead 584 = .ok (.iconst 0, 1) := by decide +kernel
theorem dL_isAhead_585 : decode cL_isAhead 585 = .ok (.if_icmp .ne 100, 3) := by decide +kernel
theorem dL_isAhead_588 : decode cL_isAhead 588 = .ok (.iload 10, 2) := by decide +kernel
theorem dL_isAhead_590 : decode cL_isAhead 590 = .ok (.ifCond .lt 15, 3) := by decide +kernel
theorem dL_isAhead_593 : decode cL_isAhead 593 = .ok (.iload 11, 2) := by decide +kernel
theorem dL_isAhead_595 : decode cL_isAhead 595 = .ok (.aload_n 0, 1) := by decide +kernel
theorem dL_isAhead_596 : decode cL_isAhead 596 = .ok (.iload 10, 2) := by decide +kernel
theorem dL_isAhead_598 : decode cL_isAhead 598 = .ok (.iconst 0, 1) := by decide +kernel
theorem dL_isAhead_599 : decode cL_isAhead 599 = .ok (.invokevirtual 19, 3) := by decide +kernel
theorem dL_isAhead_602 : decode cL_isAhead 602 = .ok (.if_icmp .lt 83, 3) := by decide +kernel
theorem dL_isAhead_605 : decode cL_isAhead 605 = .ok (.iload 10, 2) := by decide +kernel
theorem dL_isAhead_607 : decode cL_isAhead 607 = .ok (.iload_n 2, 1) := by decide +kernel
theorem dL_isAhead_608 : decode cL_isAhead 608 = .ok (.if_icmp .ne 9, 3) := by decide +kernel
theorem dL_isAhead_611 : decode cL_isAhead 611 = .ok (.iload 11, 2) := by decide +kernel
theorem dL_isAhead_613 : decode cL_isAhead 613 = .ok (.iload_n 3, 1) := by decide +kernel
theorem dL_isAhead_614 : decode cL_isAhead 614 = .ok (.if_icmp .gt 71, 3) := by decide +kernel
theorem dL_isAhead_617 : decode cL_isAhead 617 = .ok (.iload 9, 2) := by decide +kernel
theorem dL_isAhead_619 : decode cL_isAhead 619 = .ok (.ifCond .ge 12, 3) := by decide +kernel
theorem dL_isAhead_622 : decode cL_isAhead 622 = .ok (.iload 10, 2) := by decide +kernel
theorem dL_isAhead_624 : decode cL_isAhead 624 = .ok (.iload_n 2, 1) := by decide +kernel
theorem dL_isAhead_625 : decode cL_isAhead 625 = .ok (.if_icmp .eq 60, 3) := by decide +kernel
theorem dL_isAhead_628 : decode cL_isAhead 628 = .ok (.goto 53, 3) := by decide +kernel
theorem dL_isAhead_631 : decode cL_isAhead 631 = .ok (.aload_n 0, 1) := by decide +kernel
theorem dL_isAhead_632 : decode cL_isAhead 632 = .ok (.iload_n 1, 1) := by decide +kernel
theorem dL_isAhead_633 : decode cL_isAhead 633 = .ok (.iload_n 2, 1) := by decide +kernel
theorem dL_isAhead_634 : decode cL_isAhead 634 = .ok (.iload 9, 2) := by decide +kernel
theorem dL_isAhead_636 : decode cL_isAhead 636 = .ok (.iconst 0, 1) := by decide +kernel
theorem dL_isAhead_637 : decode cL_isAhead 637 = .ok (.invokevirtual 104, 3) := by decide +kernel
theorem dL_isAhead_640 : decode cL_isAhead 640 = .ok (.iload_n 2, 1) := by decide +kernel
theorem dL_isAhead_641 : decode cL_isAhead 641 = .ok (.if_icmp .ne 44, 3) := by decide +kernel
theorem dL_isAhead_644 : decode cL_isAhead 644 = .ok (.iload_n 3, 1) := by decide +kernel
theorem dL_isAhead_645 : decode cL_isAhead 645 = .ok (.iload 9, 2) := by decide +kernel
theorem dL_isAhead_647 : decode cL_isAhead 647 = .ok (.if_icmp .le 22, 3) := by decide +kernel
theorem dL_isAhead_650 : decode cL_isAhead 650 = .ok (.aload_n 0, 1) := by decide +kernel
theorem dL_isAhead_651 : decode cL_isAhead 651 = .ok (.iload_n 1, 1) := by decide +kernel
theorem dL_isAhead_652 : decode cL_isAhead 652 = .ok (.iconst 0, 1) := by decide +kernel
theorem dL_isAhead_653 : decode cL_isAhead 653 = .ok (.invokevirtual 23, 3) := by decide +kernel
theorem dL_isAhead_656 : decode cL_isAhead 656 = .ok (.iload_n 3, 1) := by decide +kernel
theorem dL_isAhead_657 : decode cL_isAhead 657 = .ok (.if_icmp .lt 24, 3) := by decide +kernel
theorem dL_isAhead_660 : decode cL_isAhead 660 = .ok (.iload 10, 2) := by decide +kernel
theorem dL_isAhead_662 : decode cL_isAhead 662 = .ok (.iload_n 2, 1) := by decide +kernel
theorem dL_isAhead_663 : decode cL_isAhead 663 = .ok (.if_icmp .ne 22, 3) := by decide +kernel
theorem dL_isAhead_666 : decode cL_isAhead 666 = .ok (.goto 15, 3) := by decide +kernel
theorem dL_isAhead_669 : decode cL_isAhead 669 = .ok (.iload_n 3, 1) := by decide +kernel
theorem dL_isAhead_670 : decode cL_isAhead 670 = .ok (.iload 9, 2) := by decide +kernel
theorem dL_isAhead_672 : decode cL_isAhead 672 = .ok (.if_icmp .eq 9, 3) := by decide +kernel
theorem dL_isAhead_675 : decode cL_isAhead 675 = .ok (.iload 10, 2) := by decide +kernel
theorem dL_isAhead_677 : decode cL_isAhead 677 = .ok (.iload_n 2, 1) := by decide +kernel
theorem dL_isAhead_678 : decode cL_isAhead 678 = .ok (.if_icmp .eq 7, 3) := by decide +kernel
theorem dL_isAhead_681 : decode cL_isAhead 681 = .ok (.iconst 1, 1) := by decide +kernel
theorem dL_isAhead_682 : decode cL_isAhead 682 = .ok (.goto 4, 3) := by decide +kernel
theorem dL_isAhead_685 : decode cL_isAhead 685 = .ok (.iconst 0, 1) := by decide +kernel
theorem dL_isAhead_686 : decode cL_isAhead 686 = .ok (.istore 7, 2) := by decide +kernel
theorem dL_isAhead_688 : decode cL_isAhead 688 = .ok (.iload 7, 2) := by decide +kernel
theorem dL_isAhead_690 : decode cL_isAhead 690 = .ok (.ifCond .eq 17, 3) := by decide +kernel
theorem dL_isAhead_693 : decode cL_isAhead 693 = .ok (.aload_n 0, 1) := by decide +kernel
theorem dL_isAhead_694 : decode cL_isAhead 694 = .ok (.invokestatic 85, 3) := by decide +kernel
theorem dL_isAhead_697 : decode cL_isAhead 697 = .ok (.lload 4, 2) := by decide +kernel
theorem dL_isAhead_699 : decode cL_isAhead 699 = .ok (.lcmp, 1) := by decide +kernel
theorem dL_isAhead_700 : decode cL_isAhead 700 = .ok (.ifCond .ne 7, 3) := by decide +kernel
theorem dL_isAhead_703 : decode cL_isAhead 703 = .ok (.iconst 1, 1) := by decide +kernel
theorem dL_isAhead_704 : decode cL_isAhead 704 = .ok (.goto 4, 3) := by decide +kernel
theorem dL_isAhead_707 : decode cL_isAhead 707 = .ok (.iconst 0, 1) := by decide +kernel
theorem dL_isAhead_708 : decode cL_isAhead 708 = .ok (.ireturn, 1) := by decide +kernel
end
section
set_option maxRecDepth 20000 in
theorem ggL_law_X4_init : GoodIn wsL_law wsX4_init := goodIn_r _ [5, 6, 7, 8, 9, 10, 11, 12, 13, 14, 15, 16, 17, 18, 19, 20, 21, 22, 23, 24, 25, 26, 27, 28, 29, 30, 31, 32, 33, 34, 35, 36, 37, 38, 39, 40, 41, 42, 43, 44, 45, 46, 47, 48, 49, 50, 51, 52, 53, 448, 444, 445, 446, 447, 449, 450, 451, 452, 453, 454, 455, 456] (by decide +kernel) (by decide +kernel)
set_option maxRecDepth 20000 in
theorem gL_law_X4_init : GoodIn wsL_law (wsX4_init) := ggL_law_X4_init
set_option maxRecDepth 20000 in
theorem ggL_law_X4_keep : GoodIn wsL_law wsX4_keep := goodIn_r _ [57, 20, 12, 58, 59, 60, 19, 61, 49, 62, 63, 64, 65, 11, 66, 67, 68, 69, 70, 71, 72, 73, 74, 30, 75, 444, 445, 446, 447, 451, 452, 453, 454, 448] (by decide +kernel) (by decide +kernel)
set_option maxRecDepth 20000 in
theorem gL_law_X4_keep : GoodIn wsL_law (wsV RL 109 RX4 yX4_keep wsX4_keep) := goodIn_app (goodIn_of _ (by decide +kernel)) ggL_law_X4_keep
set_option maxRecDepth 20000 in
theorem ggL_law_L_holds : GoodIn wsL_law wsL_holds := goodIn_ca (goodIn_ca (goodIn_r _ [79, 80, 81, 82, 83, 2, 84, 85, 86, 12, 20, 75, 68, 69, 11, 70, 71, 72, 73, 74, 30, 87, 88, 89, 90, 67, 91, 92, 93, 94, 95, 96, 97, 98, 99, 100, 101, 102, 103, 104, 105, 106, 107, 108, 109, 110, 111, 112, 113, 114, 115, 116, 19, 117, 118, 119, 120, 121, 122, 123, 124, 125, 126, 127, 128, 129, 130, 131, 132, 133, 134, 135, 136, 137, 138, 139, 140, 141, 142, 143, 144, 145, 146, 147, 148, 149, 150, 151, 152, 153, 154, 155, 156, 157, 158, 159, 160, 161, 162, 163, 164, 165, 166, 167, 168, 169, 170, 171, 172, 173, 444, 445, 446, 447, 448, 451, 452, 453, 454] (by decide +kernel) (by decide +kernel)) (goodIn_sub (fun _ h => List.mem_append_left _ (List.mem_append_left _ (List.mem_append_right _ h))) (by decide +kernel))) (goodIn_sub (fun _ h => List.mem_append_left _ (List.mem_append_right _ h)) (by decide +kernel))
set_option maxRecDepth 20000 in
theorem gL_law_L_holds : GoodIn wsL_law (va_wsS RL 112 yL_holds wsL_holds) := goodIn_app (goodIn_of _ (by decide +kernel)) ggL_law_L_holds
set_option maxRecDepth 20000 in
theorem ggL_law_L_cell : GoodIn wsL_law wsL_cell := goodIn_r _ [176, 177] (by decide +kernel) (by decide +kernel)
set_option maxRecDepth 20000 in
theorem gL_law_L_cell : GoodIn wsL_law (va_wsS RL 116 yL_cell wsL_cell) := goodIn_app (goodIn_of _ (by decide +kernel)) ggL_law_L_cell
set_option maxRecDepth 20000 in
theorem ggL_law_L_looks : GoodIn wsL_law wsL_looks := goodIn_ca (goodIn_ca (goodIn_r _ [180, 181, 182, 183, 184, 81, 82, 83, 2, 84, 85, 86, 12, 20, 75, 68, 69, 11, 70, 71, 72, 73, 74, 30, 87, 88, 89, 90, 67, 91, 92, 93, 94, 95, 96, 97, 98, 99, 100, 101, 102, 103, 104, 105, 106, 107, 108, 109, 110, 111, 112, 113, 114, 115, 116, 19, 117, 118, 119, 120, 121, 122, 123, 124, 125, 126, 127, 128, 129, 130, 131, 132, 133, 134, 135, 136, 137, 138, 139, 140, 141, 142, 143, 144, 145, 146, 147, 148, 149, 150, 151, 152, 153, 154, 155, 156, 157, 158, 159, 160, 161, 162, 163, 164, 185, 186, 187, 188, 444, 445, 446, 447, 448, 451, 452, 453, 454] (by decide +kernel) (by decide +kernel)) (goodIn_sub (fun _ h => List.mem_append_left _ (List.mem_append_left _ (List.mem_append_right _ h))) (by decide +kernel))) (goodIn_sub (fun _ h => List.mem_append_left _ (List.mem_append_right _ h)) (by decide +kernel))
set_option maxRecDepth 20000 in
theorem gL_law_L_looks : GoodIn wsL_law (va_wsS RL 85 yL_looks wsL_looks) := goodIn_app (goodIn_of _ (by decide +kernel)) ggL_law_L_looks
set_option maxRecDepth 20000 in
theorem ggL_law_X4_count : GoodIn wsL_law wsX4_count := goodIn_ca (goodIn_r _ [84, 85, 86, 12, 20, 75, 68, 69, 11, 70, 71, 72, 73, 74, 30, 87, 88, 89, 90, 67, 91, 92, 93, 94, 95, 96, 97, 98, 99, 100, 101, 102, 103, 104, 105, 106, 107, 108, 109, 110, 111, 112, 113, 114, 115, 116, 19, 117, 118, 444, 445, 446, 447, 448, 451, 452, 453, 454] (by decide +kernel) (by decide +kernel)) (goodIn_sub (fun _ h => List.mem_append_left _ (List.mem_append_left _ (List.mem_append_right _ h))) (by decide +kernel))
set_option maxRecDepth 20000 in
theorem gL_law_X4_count : GoodIn wsL_law (wsV RL 13 RX4 yX4_count wsX4_count) := goodIn_app (goodIn_of _ (by decide +kernel)) ggL_law_X4_count
set_option maxRecDepth 20000 in
theorem ggL_law_L_act : GoodIn wsL_law wsL_act := goodIn_ca (goodIn_ca (goodIn_ca (goodIn_r _ [191, 192, 193, 78, 194, 195, 196, 197, 198, 2, 199, 20, 12, 123, 124, 125, 126, 127, 146, 147, 148, 85, 86, 200, 201, 202, 19, 203, 118, 48, 204, 205, 206, 207, 63, 64, 65, 11, 66, 67, 68, 69, 70, 71, 72, 73, 74, 30, 128, 208, 36, 37, 38, 209, 210, 211, 212, 75, 213, 214, 215, 216, 217, 218, 219, 220, 221, 35, 222, 223, 224, 225, 226, 227, 228, 229, 230, 231, 232, 233, 234, 235, 236, 237, 238, 239, 240, 142, 143, 144, 145, 149, 150, 151, 152, 153, 88, 89, 90, 99, 100, 101, 102, 103, 104, 105, 106, 107, 108, 109, 154, 155, 156, 157, 158, 159, 160, 161, 162, 163, 87, 164, 241, 242, 243, 244, 245, 246, 247, 248, 249, 250, 251, 252, 253, 81, 82, 83, 84, 91, 92, 93, 94, 95, 96, 97, 98, 110, 111, 112, 113, 114, 115, 116, 117, 254, 255, 256, 257, 258, 259, 260, 261, 16, 262, 263, 264, 265, 266, 267, 268, 15, 269, 270, 271, 272, 273, 274, 275, 276, 277, 278, 279, 280, 281, 282, 43, 283, 284, 285, 286, 44, 287, 288, 289, 290, 291, 292, 293, 294, 295, 296, 297, 298, 299, 300, 301, 302, 303, 304, 305, 306, 307, 308, 309, 310, 311, 312, 313, 314, 315, 316, 317, 318, 319, 320, 321, 322, 323, 324, 325, 326, 327, 328, 329, 330, 331, 332, 333, 334, 335, 336, 337, 338, 339, 340, 341, 342, 31, 32, 33, 34, 343, 344, 345, 346, 347, 348, 349, 350, 62, 351, 352, 353, 354, 49, 355, 356, 357, 358, 119, 120, 121, 122, 129, 130, 131, 132, 359, 360, 361, 362, 363, 364, 365, 366, 367, 368, 369, 370, 371, 372, 373, 374, 375, 376, 377, 378, 379, 380, 381, 382, 383, 384, 385, 386, 387, 388, 389, 390, 444, 445, 446, 447, 451, 452, 453, 454, 448, 449, 450] (by decide +kernel) (by decide +kernel)) (goodIn_sub (fun _ h => List.mem_append_left _ (List.mem_append_right _ h)) (by decide +kernel))) (goodIn_sub (fun _ h => List.mem_append_left _ (List.mem_append_left _ (List.mem_append_right _ h))) (by decide +kernel))) (goodIn_sub (fun _ h => List.mem_append_right _ h) (by decide +kernel))
set_option maxRecDepth 20000 in
theorem gL_law_L_act : GoodIn wsL_law (va_wsS RL 120 yL_act wsL_act) := goodIn_app (goodIn_of _ (by decide +kernel)) ggL_law_L_act
set_option maxRecDepth 20000 in
theorem ggL_law_X4_undo : GoodIn wsL_law wsX4_undo := goodIn_ca (goodIn_r _ [394, 20, 12, 114, 115, 116, 19, 117, 118, 213, 214, 2, 215, 216, 217, 395, 396, 397, 398, 48, 355, 356, 357, 11, 358, 35, 36, 37, 38, 30, 444, 445, 446, 447, 451, 452, 453, 454, 448] (by decide +kernel) (by decide +kernel)) (goodIn_sub (fun _ h => List.mem_append_right _ h) (by decide +kernel))
set_option maxRecDepth 20000 in
theorem gL_law_X4_undo : GoodIn wsL_law (wsV RL 95 RX4 yX4_undo wsX4_undo) := goodIn_app (goodIn_of _ (by decide +kernel)) ggL_law_X4_undo
set_option maxRecDepth 20000 in
theorem ggL_law_L_up : GoodIn wsL_law wsL_up := goodIn_r _ [194, 195] (by decide +kernel) (by decide +kernel)
set_option maxRecDepth 20000 in
theorem gL_law_L_up : GoodIn wsL_law (va_wsS RL 37 yL_up wsL_up) := goodIn_app (goodIn_of _ (by decide +kernel)) ggL_law_L_up
set_option maxRecDepth 20000 in
theorem ggL_law_L_isAhead : GoodIn wsL_law wsL_isAhead := goodIn_ca (goodIn_ca (goodIn_ca (goodIn_r _ [401, 178, 179, 78, 180, 181, 182, 183, 184, 81, 82, 83, 2, 84, 85, 86, 12, 20, 75, 68, 69, 11, 70, 71, 72, 73, 74, 30, 87, 88, 89, 90, 67, 91, 92, 93, 94, 95, 96, 97, 98, 99, 100, 101, 102, 103, 104, 105, 106, 107, 108, 109, 110, 111, 112, 113, 114, 115, 116, 19, 117, 118, 119, 120, 121, 122, 123, 124, 125, 126, 127, 128, 129, 130, 131, 132, 133, 134, 135, 136, 137, 138, 139, 140, 141, 142, 143, 144, 145, 146, 147, 148, 149, 150, 151, 152, 153, 154, 155, 156, 157, 158, 159, 160, 161, 162, 163, 164, 185, 186, 187, 188, 375, 376, 377, 378, 379, 380, 381, 382, 402, 403, 404, 405, 16, 262, 263, 264, 265, 266, 267, 268, 15, 269, 270, 271, 272, 273, 274, 275, 276, 277, 278, 279, 280, 281, 282, 43, 283, 284, 285, 286, 44, 287, 288, 289, 290, 291, 292, 239, 293, 294, 295, 296, 297, 298, 299, 300, 301, 302, 303, 304, 305, 306, 406, 407, 408, 409, 410, 411, 412, 413, 414, 415, 328, 329, 330, 416, 325, 326, 327, 315, 316, 317, 318, 417, 418, 419, 420, 383, 384, 385, 386, 213, 214, 215, 216, 217, 200, 201, 202, 203, 48, 204, 205, 206, 207, 63, 64, 65, 66, 387, 388, 389, 390, 35, 36, 37, 38, 253, 219, 220, 221, 391, 392, 393, 394, 395, 396, 397, 398, 355, 356, 357, 358, 241, 242, 243, 244, 245, 246, 247, 248, 249, 250, 251, 252, 421, 422, 423, 424, 311, 312, 313, 314, 319, 320, 321, 322, 323, 324, 254, 255, 256, 257, 258, 259, 260, 261, 307, 308, 309, 310, 331, 332, 333, 334, 359, 360, 361, 362, 363, 364, 365, 366, 367, 368, 369, 370, 237, 238, 240, 371, 372, 373, 374, 425, 426, 427, 428, 429, 430, 431, 432, 433, 434, 435, 436, 437, 438, 439, 440, 441, 442, 443, 444, 445, 446, 447, 448, 451, 452, 453, 454, 449, 450] (by decide +kernel) (by decide +kernel)) (goodIn_sub (fun _ h => List.mem_append_left _ (List.mem_append_left _ (List.mem_append_right _ h))) (by decide +kernel))) (goodIn_sub (fun _ h => List.mem_append_left _ (List.mem_append_right _ h)) (by decide +kernel))) (goodIn_sub (fun _ h => List.mem_append_right _ h) (by decide +kernel))
set_option maxRecDepth 20000 in
theorem gL_law_L_isAhead : GoodIn wsL_law (va_wsS RL 124 yL_isAhead wsL_isAhead) := goodIn_app (goodIn_of _ (by decide +kernel)) ggL_law_L_isAhead
theorem dL_law_0 : decode cL_law 0 = .ok (.new 14, 3) := by decide +kernel
theorem dL_law_3 : decode cL_law 3 = .ok (.dup, 1) := by decide +kernel
theorem dL_law_4 : decode cL_law 4 = .ok (.invokespecial 108, 3) := by decide +kernel
theorem dL_law_7 : decode cL_law 7 = .ok (.astore_n 1, 1) := by decide +kernel
theorem dL_law_8 : decode cL_law 8 = .ok (.aload_n 1, 1) := by decide +kernel
theorem dL_law_9 : decode cL_law 9 = .ok (.invokevirtual 109, 3) := by decide +kernel
theorem dL_law_12 : decode cL_law 12 = .ok (.ifCond .ne 14, 3) := by decide +kernel
theorem dL_law_15 : decode cL_law 15 = .ok (.aload_n 1, 1) := by decide +kernel
theorem dL_law_16 : decode cL_law 16 = .ok (.invokestatic 112, 3) := by decide +kernel
theorem dL_law_19 : decode cL_law 19 = .ok (.ifCond .eq 7, 3) := by decide +kernel
theorem dL_law_22 : decode cL_law 22 = .ok (.iconst 1, 1) := by decide +kernel
theorem dL_law_23 : decode cL_law 23 = .ok (.goto 4, 3) := by decide +kernel
theorem dL_law_26 : decode cL_law 26 = .ok (.iconst 0, 1) := by decide +kernel
theorem dL_law_27 : decode cL_law 27 = .ok (.istore_n 2, 1) := by decide +kernel
theorem dL_law_28 : decode cL_law 28 = .ok (.iconst 0, 1) := by decide +kernel
theorem dL_law_29 : decode cL_law 29 = .ok (.istore_n 3, 1) := by decide +kernel
theorem dL_law_30 : decode cL_law 30 = .ok (.iload_n 3, 1) := by decide +kernel
theorem dL_law_31 : decode cL_law 31 = .ok (.bipush 50, 2) := by decide +kernel
theorem dL_law_33 : decode cL_law 33 = .ok (.if_icmp .ge 253, 3) := by decide +kernel
theorem dL_law_36 : decode cL_law 36 = .ok (.iload_n 2, 1) := by decide +kernel
theorem dL_law_37 : decode cL_law 37 = .ok (.ifCond .eq 249, 3) := by decide +kernel
theorem dL_law_40 : decode cL_law 40 = .ok (.aload_n 0, 1) := by decide +kernel
theorem dL_law_41 : decode cL_law 41 = .ok (.iconst 2, 1) := by decide +kernel
theorem dL_law_42 : decode cL_law 42 = .ok (.iload_n 3, 1) := by decide +kernel
theorem dL_law_43 : decode cL_law 43 = .ok (.imul, 1) := by decide +kernel
theorem dL_law_44 : decode cL_law 44 = .ok (.invokestatic 116, 3) := by decide +kernel
theorem dL_law_47 : decode cL_law 47 = .ok (.istore 4, 2) := by decide +kernel
theorem dL_law_49 : decode cL_law 49 = .ok (.aload_n 0, 1) := by decide +kernel
theorem dL_law_50 : decode cL_law 50 = .ok (.iconst 2, 1) := by decide +kernel
theorem dL_law_51 : decode cL_law 51 = .ok (.iload_n 3, 1) := by decide +kernel
theorem dL_law_52 : decode cL_law 52 = .ok (.imul, 1) := by decide +kernel
theorem dL_law_53 : decode cL_law 53 = .ok (.iconst 1, 1) := by decide +kernel
theorem dL_law_54 : decode cL_law 54 = .ok (.iadd, 1) := by decide +kernel
theorem dL_law_55 : decode cL_law 55 = .ok (.invokestatic 116, 3) := by decide +kernel
theorem dL_law_58 : decode cL_law 58 = .ok (.istore 5, 2) := by decide +kernel
theorem dL_law_60 : decode cL_law 60 = .ok (.aload_n 1, 1) := by decide +kernel
theorem dL_law_61 : decode cL_law 61 = .ok (.invokestatic 85, 3) := by decide +kernel
theorem dL_law_64 : decode cL_law 64 = .ok (.lstore 6, 2) := by decide +kernel
theorem dL_law_66 : decode cL_law 66 = .ok (.aload_n 1, 1) := by decide +kernel
theorem dL_law_67 : decode cL_law 67 = .ok (.bipush 14, 2) := by decide +kernel
theorem dL_law_69 : decode cL_law 69 = .ok (.invokevirtual 13, 3) := by decide +kernel
theorem dL_law_72 : decode cL_law 72 = .ok (.istore 8, 2) := by decide +kernel
theorem dL_law_74 : decode cL_law 74 = .ok (.aload_n 1, 1) := by decide +kernel
theorem dL_law_75 : decode cL_law 75 = .ok (.iload 4, 2) := by decide +kernel
theorem dL_law_77 : decode cL_law 77 = .ok (.iload 5, 2) := by decide +kernel
theorem dL_law_79 : decode cL_law 79 = .ok (.invokestatic 120, 3) := by decide +kernel
theorem dL_law_82 : decode cL_law 82 = .ok (.istore 9, 2) := by decide +kernel
theorem dL_law_84 : decode cL_law 84 = .ok (.iload 9, 2) := by decide +kernel
theorem dL_law_86 : decode cL_law 86 = .ok (.ifCond .lt 32, 3) := by decide +kernel
theorem dL_law_89 : decode cL_law 89 = .ok (.aload_n 1, 1) := by decide +kernel
theorem dL_law_90 : decode cL_law 90 = .ok (.bipush 14, 2) := by decide +kernel
theorem dL_law_92 : decode cL_law 92 = .ok (.invokevirtual 13, 3) := by decide +kernel
theorem dL_law_95 : decode cL_law 95 = .ok (.iload 8, 2) := by decide +kernel
theorem dL_law_97 : decode cL_law 97 = .ok (.bipush 6, 2) := by decide +kernel
theorem dL_law_99 : decode cL_law 99 = .ok (.if_icmp .ge 10, 3) := by decide +kernel
theorem dL_law_102 : decode cL_law 102 = .ok (.iload 8, 2) := by decide +kernel
theorem dL_law_104 : decode cL_law 104 = .ok (.iconst 1, 1) := by decide +kernel
theorem dL_law_105 : decode cL_law 105 = .ok (.iadd, 1) := by decide +kernel
theorem dL_law_106 : decode cL_law 106 = .ok (.goto 5, 3) := by decide +kernel
theorem dL_law_109 : decode cL_law 109 = .ok (.bipush 6, 2) := by decide +kernel
theorem dL_law_111 : decode cL_law 111 = .ok (.if_icmp .ne 7, 3) := by decide +kernel
theorem dL_law_114 : decode cL_law 114 = .ok (.iconst 1, 1) := by decide +kernel
theorem dL_law_115 : decode cL_law 115 = .ok (.goto 4, 3) := by decide +kernel
theorem dL_law_118 : decode cL_law 118 = .ok (.iconst 0, 1) := by decide +kernel
theorem dL_law_119 : decode cL_law 119 = .ok (.istore_n 2, 1) := by decide +kernel
theorem dL_law_120 : decode cL_law 120 = .ok (.iload_n 2, 1) := by decide +kernel
theorem dL_law_121 : decode cL_law 121 = .ok (.ifCond .eq 77, 3) := by decide +kernel
theorem dL_law_124 : decode cL_law 124 = .ok (.iload 4, 2) := by decide +kernel
theorem dL_law_126 : decode cL_law 126 = .ok (.bipush 8, 2) := by decide +kernel
theorem dL_law_128 : decode cL_law 128 = .ok (.ishr, 1) := by decide +kernel
theorem dL_law_129 : decode cL_law 129 = .ok (.iconst 3, 1) := by decide +kernel
theorem dL_law_130 : decode cL_law 130 = .ok (.iand, 1) := by decide +kernel
theorem dL_law_131 : decode cL_law 131 = .ok (.ifCond .ne 67, 3) := by decide +kernel
theorem dL_law_134 : decode cL_law 134 = .ok (.aload_n 1, 1) := by decide +kernel
theorem dL_law_135 : decode cL_law 135 = .ok (.invokestatic 85, 3) := by decide +kernel
theorem dL_law_138 : decode cL_law 138 = .ok (.lstore 10, 2) := by decide +kernel
theorem dL_law_140 : decode cL_law 140 = .ok (.aload_n 1, 1) := by decide +kernel
theorem dL_law_141 : decode cL_law 141 = .ok (.bipush 14, 2) := by decide +kernel
theorem dL_law_143 : decode cL_law 143 = .ok (.invokevirtual 13, 3) := by decide +kernel
theorem dL_law_146 : decode cL_law 146 = .ok (.iconst 1, 1) := by decide +kernel
theorem dL_law_147 : decode cL_law 147 = .ok (.isub, 1) := by decide +kernel
theorem dL_law_148 : decode cL_law 148 = .ok (.istore 12, 2) := by decide +kernel
theorem dL_law_150 : decode cL_law 150 = .ok (.aload_n 1, 1) := by decide +kernel
theorem dL_law_151 : decode cL_law 151 = .ok (.invokevirtual 95, 3) := by decide +kernel
theorem dL_law_154 : decode cL_law 154 = .ok (.iload 12, 2) := by decide +kernel
theorem dL_law_156 : decode cL_law 156 = .ok (.if_icmp .ne 40, 3) := by decide +kernel
theorem dL_law_159 : decode cL_law 159 = .ok (.aload_n 1, 1) := by decide +kernel
theorem dL_law_160 : decode cL_law 160 = .ok (.invokestatic 85, 3) := by decide +kernel
theorem dL_law_163 : decode cL_law 163 = .ok (.lload 6, 2) := by decide +kernel
theorem dL_law_165 : decode cL_law 165 = .ok (.lcmp, 1) := by decide +kernel
theorem dL_law_166 : decode cL_law 166 = .ok (.ifCond .ne 30, 3) := by decide +kernel
theorem dL_law_169 : decode cL_law 169 = .ok (.aload_n 1, 1) := by decide +kernel
theorem dL_law_170 : decode cL_law 170 = .ok (.iload 4, 2) := by decide +kernel
theorem dL_law_172 : decode cL_law 172 = .ok (.iload 5, 2) := by decide +kernel
theorem dL_law_174 : decode cL_law 174 = .ok (.invokestatic 120, 3) := by decide +kernel
theorem dL_law_177 : decode cL_law 177 = .ok (.iload 9, 2) := by decide +kernel
theorem dL_law_179 : decode cL_law 179 = .ok (.if_icmp .ne 17, 3) := by decide +kernel
theorem dL_law_182 : decode cL_law 182 = .ok (.aload_n 1, 1) := by decide +kernel
theorem dL_law_183 : decode cL_law 183 = .ok (.invokestatic 85, 3) := by decide +kernel
theorem dL_law_186 : decode cL_law 186 = .ok (.lload 10, 2) := by decide +kernel
theorem dL_law_188 : decode cL_law 188 = .ok (.lcmp, 1) := by decide +kernel
theorem dL_law_189 : decode cL_law 189 = .ok (.ifCond .ne 7, 3) := by decide +kernel
theorem dL_law_192 : decode cL_law 192 = .ok (.iconst 1, 1) := by decide +kernel
theorem dL_law_193 : decode cL_law 193 = .ok (.goto 4, 3) := by decide +kernel
theorem dL_law_196 : decode cL_law 196 = .ok (.iconst 0, 1) := by decide +kernel
theorem dL_law_197 : decode cL_law 197 = .ok (.istore_n 2, 1) := by decide +kernel
theorem dL_law_198 : decode cL_law 198 = .ok (.iload_n 2, 1) := by decide +kernel
theorem dL_law_199 : decode cL_law 199 = .ok (.ifCond .eq 79, 3) := by decide +kernel
theorem dL_law_202 : decode cL_law 202 = .ok (.aload_n 1, 1) := by decide +kernel
theorem dL_law_203 : decode cL_law 203 = .ok (.invokestatic 112, 3) := by decide +kernel
theorem dL_law_206 : decode cL_law 206 = .ok (.ifCond .eq 72, 3) := by decide +kernel
theorem dL_law_209 : decode cL_law 209 = .ok (.iload_n 3, 1) := by decide +kernel
theorem dL_law_210 : decode cL_law 210 = .ok (.iconst 4, 1) := by decide +kernel
theorem dL_law_211 : decode cL_law 211 = .ok (.irem, 1) := by decide +kernel
theorem dL_law_212 : decode cL_law 212 = .ok (.iconst 2, 1) := by decide +kernel
theorem dL_law_213 : decode cL_law 213 = .ok (.if_icmp .ne 40, 3) := by decide +kernel
theorem dL_law_216 : decode cL_law 216 = .ok (.aload_n 1, 1) := by decide +kernel
theorem dL_law_217 : decode cL_law 217 = .ok (.iload 4, 2) := by decide +kernel
theorem dL_law_219 : decode cL_law 219 = .ok (.iconst 5, 1) := by decide +kernel
theorem dL_law_220 : decode cL_law 220 = .ok (.ishr, 1) := by decide +kernel
theorem dL_law_221 : decode cL_law 221 = .ok (.bipush 6, 2) := by decide +kernel
theorem dL_law_223 : decode cL_law 223 = .ok (.invokestatic 37, 3) := by decide +kernel
theorem dL_law_226 : decode cL_law 226 = .ok (.iload 4, 2) := by decide +kernel
theorem dL_law_228 : decode cL_law 228 = .ok (.bipush 8, 2) := by decide +kernel
theorem dL_law_230 : decode cL_law 230 = .ok (.ishr, 1) := by decide +kernel
theorem dL_law_231 : decode cL_law 231 = .ok (.bipush 6, 2) := by decide +kernel
theorem dL_law_233 : decode cL_law 233 = .ok (.invokestatic 37, 3) := by decide +kernel
theorem dL_law_236 : decode cL_law 236 = .ok (.iconst 1, 1) := by decide +kernel
theorem dL_law_237 : decode cL_law 237 = .ok (.iload 5, 2) := by decide +kernel
theorem dL_law_239 : decode cL_law 239 = .ok (.iconst 4, 1) := by decide +kernel
theorem dL_law_240 : decode cL_law 240 = .ok (.ishr, 1) := by decide +kernel
theorem dL_law_241 : decode cL_law 241 = .ok (.bipush 99, 2) := by decide +kernel
theorem dL_law_243 : decode cL_law 243 = .ok (.invokestatic 37, 3) := by decide +kernel
theorem dL_law_246 : decode cL_law 246 = .ok (.iadd, 1) := by decide +kernel
theorem dL_law_247 : decode cL_law 247 = .ok (.invokestatic 124, 3) := by decide +kernel
theorem dL_law_250 : decode cL_law 250 = .ok (.ifCond .eq 28, 3) := by decide +kernel
theorem dL_law_253 : decode cL_law 253 = .ok (.iload_n 3, 1) := by decide +kernel
theorem dL_law_254 : decode cL_law 254 = .ok (.bipush 23, 2) := by decide +kernel
theorem dL_law_256 : decode cL_law 256 = .ok (.irem, 1) := by decide +kernel
theorem dL_law_257 : decode cL_law 257 = .ok (.bipush 14, 2) := by decide +kernel
theorem dL_law_259 : decode cL_law 259 = .ok (.if_icmp .ne 15, 3) := by decide +kernel
theorem dL_law_262 : decode cL_law 262 = .ok (.aload_n 1, 1) := by decide +kernel
theorem dL_law_263 : decode cL_law 263 = .ok (.invokevirtual 109, 3) := by decide +kernel
theorem dL_law_266 : decode cL_law 266 = .ok (.aload_n 1, 1) := by decide +kernel
theorem dL_law_267 : decode cL_law 267 = .ok (.iconst 4, 1) := by decide +kernel
theorem dL_law_268 : decode cL_law 268 = .ok (.invokevirtual 13, 3) := by decide +kernel
theorem dL_law_271 : decode cL_law 271 = .ok (.if_icmp .ne 7, 3) := by decide +kernel
theorem dL_law_274 : decode cL_law 274 = .ok (.iconst 1, 1) := by decide +kernel
theorem dL_law_275 : decode cL_law 275 = .ok (.goto 4, 3) := by decide +kernel
theorem dL_law_278 : decode cL_law 278 = .ok (.iconst 0, 1) := by decide +kernel
theorem dL_law_279 : decode cL_law 279 = .ok (.istore_n 2, 1) := by decide +kernel
theorem dL_law_280 : decode cL_law 280 = .ok (.iinc 3 1, 3) := by decide +kernel
theorem dL_law_283 : decode cL_law 283 = .ok (.goto (-253), 3) := by decide +kernel
theorem dL_law_286 : decode cL_law 286 = .ok (.iload_n 2, 1) := by decide +kernel
theorem dL_law_287 : decode cL_law 287 = .ok (.ireturn, 1) := by decide +kernel
end
section
set_option maxRecDepth 20000 in
theorem wsL_in_1 : ∀ w ∈ wsL_law0_r1, w ∈ lw_tbl := fun w h => (goodIn_p wsL_law0_r1 [28, 31] (by decide +kernel) (by decide +kernel) w h).1
set_option maxRecDepth 20000 in
theorem wsL_in_2 : ∀ w ∈ wsL_law0_r2, w ∈ lw_tbl := fun w h => (goodIn_p wsL_law0_r2 [36, 41, 45, 55, 69] (by decide +kernel) (by decide +kernel) w h).1
set_option maxRecDepth 20000 in
theorem wsL_in_3 : ∀ w ∈ wsL_law0_r3, w ∈ lw_tbl := fun w h => (goodIn_p wsL_law0_r3 [88, 112, 116, 120, 124] (by decide +kernel) (by decide +kernel) w h).1
set_option maxRecDepth 20000 in
theorem wsL_in_4 : ∀ w ∈ wsL_law0_r4, w ∈ lw_tbl := fun w h => (goodIn_p wsL_law0_r4 [128, 536, 220, 224, 228] (by decide +kernel) (by decide +kernel) w h).1
set_option maxRecDepth 20000 in
theorem wsL_in_5 : ∀ w ∈ wsL_law0_r5, w ∈ lw_tbl := fun w h => (goodIn_p wsL_law0_r5 [232, 236, 240, 243, 247, 137] (by decide +kernel) (by decide +kernel) w h).1
set_option maxRecDepth 20000 in
theorem wsL_in_6 : ∀ w ∈ wsL_law0_r6, w ∈ lw_tbl := fun w h => (goodIn_p wsL_law0_r6 [280, 283, 304, 309, 314] (by decide +kernel) (by decide +kernel) w h).1
set_option maxRecDepth 20000 in
theorem wsL_in_7 : ∀ w ∈ wsL_law0_r7, w ∈ lw_tbl := fun w h => (goodIn_p wsL_law0_r7 [319, 322, 327, 332, 337] (by decide +kernel) (by decide +kernel) w h).1
set_option maxRecDepth 20000 in
theorem wsL_in_8 : ∀ w ∈ wsL_law0_r8, w ∈ lw_tbl := fun w h => (goodIn_p wsL_law0_r8 [540, 545, 266, 274, 343, 348] (by decide +kernel) (by decide +kernel) w h).1
set_option maxRecDepth 20000 in
theorem wsL_in_9 : ∀ w ∈ wsL_law0_r9, w ∈ lw_tbl := fun w h => (goodIn_p wsL_law0_r9 [270, 352, 356, 360, 365, 140] (by decide +kernel) (by decide +kernel) w h).1
set_option maxRecDepth 20000 in
theorem wsL_in_10 : ∀ w ∈ wsL_law0_r10, w ∈ lw_tbl := fun w h => (goodIn_p wsL_law0_r10 [369, 373, 376, 380, 384] (by decide +kernel) (by decide +kernel) w h).1
set_option maxRecDepth 20000 in
theorem wsL_in_11 : ∀ w ∈ wsL_law0_r11, w ∈ lw_tbl := fun w h => (goodIn_p wsL_law0_r11 [387, 391, 395, 399, 404, 408] (by decide +kernel) (by decide +kernel) w h).1
set_option maxRecDepth 20000 in
theorem wsL_in_12 : ∀ w ∈ wsL_law0_r12, w ∈ lw_tbl := fun w h => (goodIn_p wsL_law0_r12 [412, 416, 420, 424, 429, 433] (by decide +kernel) (by decide +kernel) w h).1
set_option maxRecDepth 20000 in
theorem wsL_in_13 : ∀ w ∈ wsL_law0_r13, w ∈ lw_tbl := fun w h => (goodIn_p wsL_law0_r13 [437, 453, 440, 443, 446, 450, 457] (by decide +kernel) (by decide +kernel) w h).1
set_option maxRecDepth 20000 in
theorem wsL_in_14 : ∀ w ∈ wsL_law0_r14, w ∈ lw_tbl := fun w h => (goodIn_p wsL_law0_r14 [461, 465, 469, 474, 477, 481] (by decide +kernel) (by decide +kernel) w h).1
set_option maxRecDepth 20000 in
theorem wsL_in_15 : ∀ w ∈ wsL_law0_r15, w ∈ lw_tbl := fun w h => (goodIn_p wsL_law0_r15 [485, 489, 493, 497, 501, 216] (by decide +kernel) (by decide +kernel) w h).1
set_option maxRecDepth 20000 in
theorem wsL_in_16 : ∀ w ∈ wsL_law0_r16, w ∈ lw_tbl := fun w h => (goodIn_p wsL_law0_r16 [505, 509, 513, 517, 521, 525] (by decide +kernel) (by decide +kernel) w h).1
set_option maxRecDepth 20000 in
theorem wsL_in_17 : ∀ w ∈ wsL_law0_r17, w ∈ lw_tbl := fun w h => (goodIn_p wsL_law0_r17 [529, 533, 133, 212, 549, 553] (by decide +kernel) (by decide +kernel) w h).1
set_option maxRecDepth 20000 in
theorem wsL_in_18 : ∀ w ∈ wsL_law0_r18, w ∈ lw_tbl := fun w h => (goodIn_p wsL_law0_r18 [557, 560, 563, 568, 572, 576] (by decide +kernel) (by decide +kernel) w h).1
set_option maxRecDepth 20000 in
theorem wsL_in_19 : ∀ w ∈ wsL_law0_r19, w ∈ lw_tbl := fun w h => (goodIn_p wsL_law0_r19 [580, 587, 591] (by decide +kernel) (by decide +kernel) w h).1
theorem wsL_in_X4 : ∀ w ∈ wsX40, w ∈ lw_tbl := by decide +kernel
theorem wsL_in_X2 : ∀ w ∈ wsX20, w ∈ lw_tbl := by decide +kernel
theorem wsL_in_X1 : ∀ w ∈ wsX10, w ∈ lw_tbl := by decide +kernel
theorem wsL_in_X0 : ∀ w ∈ wsX00, w ∈ lw_tbl := by decide +kernel
theorem wsL_in_X3 : ∀ w ∈ wsX30, w ∈ lw_tbl := by decide +kernel
theorem wsL_law_in0 : ∀ w ∈ wsL_law0, w ∈ lw_tbl := List.forall_mem_append.mpr ⟨List.forall_mem_append.mpr ⟨List.forall_mem_append.mpr ⟨List.forall_mem_append.mpr ⟨List.forall_mem_append.mpr ⟨List.forall_mem_append.mpr ⟨List.forall_mem_append.mpr ⟨wsL_in_1, List.forall_mem_append.mpr ⟨wsL_in_2, List.forall_mem_append.mpr ⟨wsL_in_3, List.forall_mem_append.mpr ⟨wsL_in_4, List.forall_mem_append.mpr ⟨wsL_in_5, List.forall_mem_append.mpr ⟨wsL_in_6, List.forall_mem_append.mpr ⟨wsL_in_7, List.forall_mem_append.mpr ⟨wsL_in_8, List.forall_mem_append.mpr ⟨wsL_in_9, List.forall_mem_append.mpr ⟨wsL_in_10, List.forall_mem_append.mpr ⟨wsL_in_11, List.forall_mem_append.mpr ⟨wsL_in_12, List.forall_mem_append.mpr ⟨wsL_in_13, List.forall_mem_append.mpr ⟨wsL_in_14, List.forall_mem_append.mpr ⟨wsL_in_15, List.forall_mem_append.mpr ⟨wsL_in_16, List.forall_mem_append.mpr ⟨wsL_in_17, List.forall_mem_append.mpr ⟨wsL_in_18, wsL_in_19⟩⟩⟩⟩⟩⟩⟩⟩⟩⟩⟩⟩⟩⟩⟩⟩⟩⟩, wsL_in_X4⟩, wsL_in_X2⟩, wsL_in_X1⟩, wsL_in_X0⟩, wsL_in_X3⟩, fun _ h => absurd h List.not_mem_nil⟩
theorem wsL_law_x0 : ∀ w ∈ (vx_atS RX4 121 "java/lang/IllegalArgumentException" ["java/lang/RuntimeException", "java/lang/Exception"]).filter goodWord, w ∈ lw_tbl := by decide +kernel
theorem wsL_law_x1 : ∀ w ∈ (vx_atS RX4 267 "java/lang/IndexOutOfBoundsException" ["java/lang/RuntimeException", "java/lang/Exception"]).filter goodWord, w ∈ lw_tbl := by decide +kernel
theorem wsL_law_x2 : ∀ w ∈ (vx_atS RX4 274 "java/lang/IllegalStateException" ["java/lang/RuntimeException", "java/lang/Exception"]).filter goodWord, w ∈ lw_tbl := by decide +kernel
theorem wsL_law_in : ∀ w ∈ wsL_law, w ∈ lw_tbl := fun w h => (List.mem_append.mp h).elim (fun h => (List.mem_append.mp h).elim (fun h => (List.mem_append.mp h).elim (fun h => wsL_law_in0 w h) (fun h => wsL_law_x0 w h)) (fun h => wsL_law_x1 w h)) (fun h => wsL_law_x2 w h)
theorem inlX0 : ∀ w ∈ wsX00, w ∈ wsL_law := fun _ h => List.mem_append_left _ (List.mem_append_left _ (List.mem_append_left _ (List.mem_append_left _ (List.mem_append_left _ (List.mem_append_right _ h)))))
theorem inX0 : ∀ w ∈ wsX00, w ∈ lw_tbl := fun w h => wsL_law_in w (inlX0 w h)
theorem inlX1 : ∀ w ∈ wsX10, w ∈ wsL_law := fun _ h => List.mem_append_left _ (List.mem_append_left _ (List.mem_append_left _ (List.mem_append_left _ (List.mem_append_left _ (List.mem_append_left _ (List.mem_append_right _ h))))))
theorem inX1 : ∀ w ∈ wsX10, w ∈ lw_tbl := fun w h => wsL_law_in w (inlX1 w h)
theorem inlX2 : ∀ w ∈ wsX20, w ∈ wsL_law := fun _ h => List.mem_append_left _ (List.mem_append_left _ (List.mem_append_left _ (List.mem_append_left _ (List.mem_append_left _ (List.mem_append_left _ (List.mem_append_left _ (List.mem_append_right _ h)))))))
theorem inX2 : ∀ w ∈ wsX20, w ∈ lw_tbl := fun w h => wsL_law_in w (inlX2 w h)
theorem inlX3 : ∀ w ∈ wsX30, w ∈ wsL_law := fun _ h => List.mem_append_left _ (List.mem_append_left _ (List.mem_append_left _ (List.mem_append_left _ (List.mem_append_right _ h))))
theorem inX3 : ∀ w ∈ wsX30, w ∈ lw_tbl := fun w h => wsL_law_in w (inlX3 w h)
theorem inlX4 : ∀ w ∈ wsX40, w ∈ wsL_law := fun _ h => List.mem_append_left _ (List.mem_append_left _ (List.mem_append_left _ (List.mem_append_left _ (List.mem_append_left _ (List.mem_append_left _ (List.mem_append_left _ (List.mem_append_left _ (List.mem_append_right _ h))))))))
theorem inX4 : ∀ w ∈ wsX40, w ∈ lw_tbl := fun w h => wsL_law_in w (inlX4 w h)
theorem inX5 : ∀ w ∈ wsX50, w ∈ lw_tbl := by decide +kernel
theorem inJ9 : ∀ w ∈ wsJ90, w ∈ lw_tbl := by decide +kernel
theorem inJ0 : ∀ w ∈ wsJ00, w ∈ lw_tbl := by decide +kernel
end
