section
-- ===== PART A: goes FIRST, ahead of the names: the tables' words, and 'selects' of the private methods out of them =====
/-- a private method of a class that the tables say can be made, by its rows of tables_1 -/
def lw_okq (q : MethodName × Nat) : Prop := (q.1.cls ≠ "java/lang/invoke/MethodHandle" ∧ q.1.cls ≠ "java/lang/invoke/VarHandle") ∧ Cond.instantiable q.1.cls q.2 ∈ tables_1 ∧ Cond.privateMethod q.1 ∈ tables_1 ∧ Cond.instanceMethod q.1 ∈ tables_1
theorem lw_p0 : lw_okq (⟨"GlassRaster", "requireCorner", "(I)V"⟩, 15) := ⟨⟨by decide +kernel, by decide +kernel⟩, List.mem_of_getElem? (i := 29) (by decide +kernel), List.mem_of_getElem? (i := 27) (by decide +kernel), List.mem_of_getElem? (i := 28) (by decide +kernel)⟩
theorem lw_p1 : lw_okq (⟨"java/lang/Throwable", "fillInStackTrace", "(I)Ljava/lang/Throwable;"⟩, 6) := ⟨⟨by decide +kernel, by decide +kernel⟩, List.mem_of_getElem? (i := 75) (by decide +kernel), List.mem_of_getElem? (i := 73) (by decide +kernel), List.mem_of_getElem? (i := 74) (by decide +kernel)⟩
theorem lw_p2 : lw_okq (⟨"GlassRaster", "requirePane", "(I)V"⟩, 15) := ⟨⟨by decide +kernel, by decide +kernel⟩, List.mem_of_getElem? (i := 29) (by decide +kernel), List.mem_of_getElem? (i := 136) (by decide +kernel), List.mem_of_getElem? (i := 137) (by decide +kernel)⟩
theorem lw_p3 : lw_okq (⟨"GlassRaster", "formShape", "(I)V"⟩, 15) := ⟨⟨by decide +kernel, by decide +kernel⟩, List.mem_of_getElem? (i := 29) (by decide +kernel), List.mem_of_getElem? (i := 145) (by decide +kernel), List.mem_of_getElem? (i := 146) (by decide +kernel)⟩
theorem lw_p4 : lw_okq (⟨"GlassRaster", "colourHere", "(LGlassRaster$Pane;LGlassRaster$Piece;)I"⟩, 15) := ⟨⟨by decide +kernel, by decide +kernel⟩, List.mem_of_getElem? (i := 29) (by decide +kernel), List.mem_of_getElem? (i := 285) (by decide +kernel), List.mem_of_getElem? (i := 286) (by decide +kernel)⟩
theorem lw_p5 : lw_okq (⟨"GlassRaster$Pattern", "placeOf", "(I)I"⟩, 2) := ⟨⟨by decide +kernel, by decide +kernel⟩, List.mem_of_getElem? (i := 304) (by decide +kernel), List.mem_of_getElem? (i := 302) (by decide +kernel), List.mem_of_getElem? (i := 303) (by decide +kernel)⟩
theorem lw_p6 : lw_okq (⟨"GlassRaster", "draw", "(LGlassRaster$Screen;LGlassRaster$Box;I)V"⟩, 15) := ⟨⟨by decide +kernel, by decide +kernel⟩, List.mem_of_getElem? (i := 29) (by decide +kernel), List.mem_of_getElem? (i := 314) (by decide +kernel), List.mem_of_getElem? (i := 315) (by decide +kernel)⟩
theorem lw_p7 : lw_okq (⟨"GlassRaster", "drawPane", "(LGlassRaster$Screen;LGlassRaster$Box;I)Z"⟩, 15) := ⟨⟨by decide +kernel, by decide +kernel⟩, List.mem_of_getElem? (i := 29) (by decide +kernel), List.mem_of_getElem? (i := 323) (by decide +kernel), List.mem_of_getElem? (i := 324) (by decide +kernel)⟩
theorem lw_p8 : lw_okq (⟨"GlassRaster", "drawPiece", "(LGlassRaster$Screen;LGlassRaster$Box;ILGlassRaster$Piece;)Z"⟩, 15) := ⟨⟨by decide +kernel, by decide +kernel⟩, List.mem_of_getElem? (i := 29) (by decide +kernel), List.mem_of_getElem? (i := 327) (by decide +kernel), List.mem_of_getElem? (i := 328) (by decide +kernel)⟩
theorem lw_p9 : lw_okq (⟨"GlassRaster", "paintPoint", "(LGlassRaster$Screen;IILGlassRaster$Piece;)Z"⟩, 15) := ⟨⟨by decide +kernel, by decide +kernel⟩, List.mem_of_getElem? (i := 29) (by decide +kernel), List.mem_of_getElem? (i := 334) (by decide +kernel), List.mem_of_getElem? (i := 335) (by decide +kernel)⟩
theorem lw_p10 : lw_okq (⟨"GlassRaster", "countStaleTiles", "()I"⟩, 15) := ⟨⟨by decide +kernel, by decide +kernel⟩, List.mem_of_getElem? (i := 29) (by decide +kernel), List.mem_of_getElem? (i := 341) (by decide +kernel), List.mem_of_getElem? (i := 342) (by decide +kernel)⟩
theorem lw_p11 : lw_okq (⟨"GlassRaster", "spanTile", "(I)V"⟩, 15) := ⟨⟨by decide +kernel, by decide +kernel⟩, List.mem_of_getElem? (i := 29) (by decide +kernel), List.mem_of_getElem? (i := 345) (by decide +kernel), List.mem_of_getElem? (i := 346) (by decide +kernel)⟩
theorem lw_p12 : lw_okq (⟨"GlassRaster", "digestPane", "(JI)J"⟩, 15) := ⟨⟨by decide +kernel, by decide +kernel⟩, List.mem_of_getElem? (i := 29) (by decide +kernel), List.mem_of_getElem? (i := 429) (by decide +kernel), List.mem_of_getElem? (i := 430) (by decide +kernel)⟩
theorem lw_p13 : lw_okq (⟨"GlassRaster", "requireSpot", "(I)V"⟩, 15) := ⟨⟨by decide +kernel, by decide +kernel⟩, List.mem_of_getElem? (i := 29) (by decide +kernel), List.mem_of_getElem? (i := 441) (by decide +kernel), List.mem_of_getElem? (i := 442) (by decide +kernel)⟩
theorem lw_p14 : lw_okq (⟨"GlassRaster", "cornersInFront", "()I"⟩, 15) := ⟨⟨by decide +kernel, by decide +kernel⟩, List.mem_of_getElem? (i := 29) (by decide +kernel), List.mem_of_getElem? (i := 967) (by decide +kernel), List.mem_of_getElem? (i := 968) (by decide +kernel)⟩
def lw_privs_1 : List (MethodName × Nat) := [(⟨"GlassRaster", "requireCorner", "(I)V"⟩, 15), (⟨"java/lang/Throwable", "fillInStackTrace", "(I)Ljava/lang/Throwable;"⟩, 6), (⟨"GlassRaster", "requirePane", "(I)V"⟩, 15), (⟨"GlassRaster", "formShape", "(I)V"⟩, 15), (⟨"GlassRaster", "colourHere", "(LGlassRaster$Pane;LGlassRaster$Piece;)I"⟩, 15), (⟨"GlassRaster$Pattern", "placeOf", "(I)I"⟩, 2), (⟨"GlassRaster", "draw", "(LGlassRaster$Screen;LGlassRaster$Box;I)V"⟩, 15), (⟨"GlassRaster", "drawPane", "(LGlassRaster$Screen;LGlassRaster$Box;I)Z"⟩, 15), (⟨"GlassRaster", "drawPiece", "(LGlassRaster$Screen;LGlassRaster$Box;ILGlassRaster$Piece;)Z"⟩, 15), (⟨"GlassRaster", "paintPoint", "(LGlassRaster$Screen;IILGlassRaster$Piece;)Z"⟩, 15), (⟨"GlassRaster", "countStaleTiles", "()I"⟩, 15), (⟨"GlassRaster", "spanTile", "(I)V"⟩, 15), (⟨"GlassRaster", "digestPane", "(JI)J"⟩, 15), (⟨"GlassRaster", "requireSpot", "(I)V"⟩, 15), (⟨"GlassRaster", "cornersInFront", "()I"⟩, 15)]
theorem lw_r1 : ∀ q ∈ lw_privs_1, lw_okq q := List.forall_mem_cons.mpr ⟨lw_p0, List.forall_mem_cons.mpr ⟨lw_p1, List.forall_mem_cons.mpr ⟨lw_p2, List.forall_mem_cons.mpr ⟨lw_p3, List.forall_mem_cons.mpr ⟨lw_p4, List.forall_mem_cons.mpr ⟨lw_p5, List.forall_mem_cons.mpr ⟨lw_p6, List.forall_mem_cons.mpr ⟨lw_p7, List.forall_mem_cons.mpr ⟨lw_p8, List.forall_mem_cons.mpr ⟨lw_p9, List.forall_mem_cons.mpr ⟨lw_p10, List.forall_mem_cons.mpr ⟨lw_p11, List.forall_mem_cons.mpr ⟨lw_p12, List.forall_mem_cons.mpr ⟨lw_p13, List.forall_mem_cons.mpr ⟨lw_p14, fun _ h => absurd h List.not_mem_nil⟩⟩⟩⟩⟩⟩⟩⟩⟩⟩⟩⟩⟩⟩⟩
def lw_privs : List (MethodName × Nat) := lw_privs_1
def lw_tbl : List Cond := k2_sels lw_privs ++ tables_1
theorem lw_privs_ok : ∀ q ∈ lw_privs, lw_okq q := lw_r1
end
section
/-! ===== BEGIN exceptions that leave a method, and their catching by the caller (launches without stack traces) ===== -/
section VXA
/-! The laws vx_back, vx_callV, vx_callS, vx_callSW, vx_throw0, vx_throwS follow proofs of the library, with one case more: JvmDerived/Free/Laws.lean (Back.of_free), Shelf42/LK1.lean (callV, callS), Shelf/KitTraced.lean (throwNew0V, throwNewS). -/
/-- where a method has thrown q: the class by its name, the cell, what was written, the world -/
def vx_T (XC : String → State → State → Prop) (st : State) (q : Addr) (t : State) (mc ms : Nat) (free : Addr → Prop) : Prop :=
  ∃ (E : String) (ce : Cell) (L : List Loc), XC E st t ∧ t.heap[q]? = some ce ∧ ce.vm = .none ∧ st.vm.findClass E = some ce.cls ∧ st.WarmedH t.vm ∧ st.sameButNew ({ t with vm := st.vm } : State) L mc ms ∧ ∀ z ∈ L, free z.base
def vx_Q (Qc : Array Value → State → Outcome → State → Prop) (XC : String → State → State → Prop) (mc ms : Nat) (free : Addr → Prop) : Array Value → State → Outcome → State → Prop := fun a st o t =>
  (Qc a st o t ∧ ∃ L, FrameEnd st o t L mc ms ∧ ∀ q ∈ L, free q.base) ∨ ∃ q, o = .threw q ∧ vx_T XC st q t mc ms free
/-- a callee that returns or throws -/
def vx_Met (l : Launch) (y : MethodName) (ws : List Cond) (rm : Room) (Pc : Array Value → State → Prop) (Qc : Array Value → State → Outcome → State → Prop) (XC : String → State → State → Prop) (mc ms : Nat) (free : Addr → Prop) : Prop :=
  MetFree l y (headSpec ws rm) Pc (fun _ _ _ _ _ => True) (vx_Q Qc XC mc ms free)
def vx_Post (XC : String → State → State → Prop) (mc ms : Nat) (free : Addr → Prop) : Pt → Array Value → Addr → Pt → Prop := fun A a q B =>
  ∃ (g : JFrame) (mk : MethodId) (t : State) (L : List Loc) (E : String) (ce : Cell), B.U.heap = t.heap ∧ B.U.vm = t.vm ∧ XC E (A.U.calling g mk a) t ∧ t.heap[q]? = some ce ∧ ce.vm = .none ∧ A.U.vm.findClass E = some ce.cls ∧ B.locs = A.locs ++ L ∧ (∀ z ∈ L, free z.base) ∧ B.cells = A.cells + mc ∧ B.slots = A.slots + ms
def vx_Back (l : Launch) (R : Room) (p : Program) (e : Env) (below : List Frame) (s : State) (sargs : Array Value) (y : MethodName) (len W9 : Nat)
    (Pre : Pt → Array Value → Prop) (Post : Pt → Array Value → Option Value → Pt → Prop) (PostX : Pt → Array Value → Addr → Pt → Prop) : Prop :=
  ∀ (m : MethodId) (meth : Method) (c : Code) (A : Pt) (g : JFrame) (ig : Instr) (mk : MethodId) (a : Array Value),
    Stand p l e R s m sargs below meth c A.U A.locs A.cells A.slots → g.method = m → g.locals.size = c.maxLocals → decode c.code g.pc = .ok (ig, len) →
    2 * g.monitorRoom + (g.stack.map fun v => v.category).sum ≤ W9 → A.U.methodNamed? y = some mk → Pre A a →
    (∃ (v : Option Value) (B : Pt), Stand p l e R s m sargs below meth c B.U B.locs B.cells B.slots ∧ Post A a v B ∧
      Steps p.tables e below (doInvoke e (A.U.setTop g) [] mk a).1 (B.U.setTop { g with pc := g.pc + len, stack := v.toList ++ g.stack })) ∨
    (∃ (q : Addr) (B : Pt), Stand p l e R s m sargs below meth c B.U B.locs B.cells B.slots ∧ PostX A a q B ∧
      Steps p.tables e below (doInvoke e (A.U.setTop g) [] mk a).1 ((B.U.setTop g).pushFrame (.throwing q)))
section Payer
variable {l : Launch} {R : Room} {p : Program} {e : Env} {below : List Frame} {s : State} {sargs : Array Value} {y : MethodName} {len W9 : Nat}
theorem vx_back {ws : List Cond} {rm : Room} {Pc : Array Value → State → Prop} {Qc : Array Value → State → Outcome → State → Prop} {XC : String → State → State → Prop} {mc ms : Nat} {free : Addr → Prop} {bytes : ByteArray} {maxL : Nat} {ret : Option FieldType}
    (hM : vx_Met l y ws rm Pc Qc XC mc ms free) (hblind : FrameBlind Pc) (hrc : rm.cells = mc) (hrs : rm.slots = ms)
    (hframes : rm.frames + 1 ≤ R.frames) (hlocals : W9 + (maxL + 11) + rm.locals ≤ R.locals)
    (hws : ∀ w ∈ ws, ∀ a' U, s.WarmedH U.vm → w.before a' U = true) (hcode : Cond.code y bytes maxL ret ∈ ws) (hinit : ∀ a' U, s.WarmedH U.vm → (Cond.initialized y.cls).before a' U = true) :
    vx_Back l R p e below s sargs y len W9 (PreOf R mc ms Pc) (PostOf Qc mc ms free) (vx_Post XC mc ms free) := by
  intro m meth c A g ig mk a X hg hsize hdg hW hn hp
  have h1 : (headSpec ws rm).pre.before a A.U = true := atoms_intro fun w hw => hws w hw _ _ X.warmed
  have h2 : (Cond.code y bytes maxL ret).before a A.U = true := hws _ hcode _ _ X.warmed
  have h3 : (Cond.initialized y.cls).before a A.U = true := hinit _ _ X.warmed
  have h4 : A.cells + (headSpec ws rm).room.cells ≤ R.cells := by rw [show (headSpec ws rm).room.cells = mc from hrc]; exact hp.1
  have h5 : A.slots + (headSpec ws rm).room.slots ≤ R.slots := by rw [show (headSpec ws rm).room.slots = ms from hrs]; exact hp.2.1
  have hPc : Pc a (A.U.calling g mk a) := hblind _ _ _ _ hp.2.2
  obtain ⟨U, Ls, c0, s0⟩ := A
  dsimp only [Pt.U, Pt.locs, Pt.cells, Pt.slots] at h1 h2 h3 h4 h5 X hn hPc ⊢
  obtain ⟨methY, cY, hmY, hcY, -, hlY, -, -, -, -⟩ := Cond.code_spec hn h2
  obtain ⟨kY, hkY, -⟩ := className_of_methodNamed hn
  have hinitY : kY.init = .initialized := Cond.initialized_spec (findClass_of_methodNamed hn) hkY h3
  have h : At U g.method c below := by rw [hg]; exact X.here
  have hlocals9 : W9 + (maxL + 11) + (headSpec ws rm).room.locals ≤ R.locals := hlocals
  have happ : (headSpec ws rm).appliesLoose y e.platform (U.calling g mk a) = true :=
    Spec.appliesLoose_calling (g := g) h hdg hn hkY hinitY
      (X.room_calling (g := g) (R' := (headSpec ws rm).room) hsize hmY hcY hframes (by rw [hlY]; omega) h4 h5) h1
  obtain ⟨mid, hmid⟩ := h.above
  have hfr : (U.setTop g).frames = (.java g :: mid) ++ below := by rw [State.frames_setTop' g h.top, hmid]; rfl
  obtain ⟨o, s₂, hsteps, -, hend, hq⟩ := Steps.callFree hM p X.admits X.cas X.clock (acts := []) hfr happ hPc trivial
  have hq' : vx_Q Qc XC mc ms free a (U.calling g mk a) o s₂ := hq
  rw [State.frames_setTop' g h.top] at hend
  obtain ⟨g₀, hg0⟩ := Option.isSome_iff_exists.mp h.top
  obtain ⟨r, hr⟩ := State.topJava?_eq_some.mp hg0
  have hr' : (({ U with heap := s₂.heap, slotsUsed := s₂.slotsUsed } : State).setVm s₂.vm).frames = .java g₀ :: r := hr
  rcases hq' with ⟨hqc, L, hfe, hL⟩ | ⟨q, rfl, E, ce, L, hx, hce, hcv, hcl, hW₂, hsm, hL⟩
  · obtain ⟨⟨v, rfl⟩, hW₂, e2, q2, q3, q4, q5, q6⟩ := id hfe
    have e3 : s₂ = ({ (U.calling g mk a).setFrames s₂.frames with heap := s₂.heap, slotsUsed := s₂.slotsUsed } : State).setVm s₂.vm := by
      have : s₂ = ({ s₂ with vm := (U.calling g mk a).vm } : State).setVm s₂.vm := rfl
      rw [e2] at this
      exact this
    obtain ⟨c₂, i₂, len₂, hc₂, hd₂, hf₂⟩ := hend
    have hW' : U.WarmedH s₂.vm := hW₂
    have hcc : c₂ = c := by
      have h1 : s₂.code? g.method = U.code? g.method := by
        rw [State.code?_eq, State.code?_eq, hW'.alike.method?]
      exact Option.some.inj (hc₂.symm.trans (h1.trans h.code))
    subst hcc
    have hlen : len₂ = len := by rw [hdg] at hd₂; cases hd₂; rfl
    subst hlen
    have hs₂ : s₂ = (({ U with heap := s₂.heap, slotsUsed := s₂.slotsUsed } : State).setVm s₂.vm).setTop { g with pc := g.pc + len₂, stack := v.toList ++ g.stack } := by
      refine e3.trans ?_
      rw [hf₂, State.calling_eq h.top, State.setFrames_setFrames, State.setTop_of_frames _ hr', hr]
      rfl
    have hsame : U.sameButNew ({ U with heap := s₂.heap, slotsUsed := s₂.slotsUsed } : State) L mc ms := by
      refine ⟨?_, q2, q3, q4, q5, q6⟩
      obtain ⟨t, ht, -⟩ := State.frames_cons hr
      show ({ U with heap := s₂.heap, slotsUsed := s₂.slotsUsed } : State) = { U.setFrames U.frames with heap := s₂.heap, slotsUsed := s₂.slotsUsed }
      rw [State.setFrames_self ht]
    subst hg
    refine Or.inl ⟨v, ⟨(({ U with heap := s₂.heap, slotsUsed := s₂.slotsUsed } : State).setVm s₂.vm), Ls ++ L, c0 + mc, s0 + ms⟩,
      ⟨X.admits, X.cas, X.clock, X.frames, X.room, X.hears, X.method, X.code, (X.here.setHeapUsed s₂.heap s₂.slotsUsed).setVm hW'.alike, X.tail, State.WarmedH.trans X.warmed hW', X.limits, X.bytes, X.same.trans (hsame.setVm s.vm)⟩,
      ⟨g, mk, s₂, L, rfl, rfl, hqc, rfl, hL, rfl, rfl⟩, ?_⟩
    show Steps p.tables e below _ ((({ U with heap := s₂.heap, slotsUsed := s₂.slotsUsed } : State).setVm s₂.vm).setTop { g with pc := g.pc + len₂, stack := v.toList ++ g.stack })
    rw [← hs₂]
    exact hsteps
  · obtain ⟨e2, q2, q3, q4, q5, q6⟩ := id hsm
    have e3 : s₂ = ({ (U.calling g mk a).setFrames s₂.frames with heap := s₂.heap, slotsUsed := s₂.slotsUsed } : State).setVm s₂.vm := by
      have : s₂ = ({ s₂ with vm := (U.calling g mk a).vm } : State).setVm s₂.vm := rfl
      rw [e2] at this
      exact this
    have hf₂ : s₂.frames = .throwing q :: .java g :: U.frames.tail := hend
    have hW' : U.WarmedH s₂.vm := hW₂
    have hs₂ : s₂ = ((({ U with heap := s₂.heap, slotsUsed := s₂.slotsUsed } : State).setVm s₂.vm).setTop g).pushFrame (.throwing q) := by
      refine e3.trans ?_
      rw [hf₂, State.calling_eq h.top, State.setFrames_setFrames, State.pushFrame, State.frames_setTop _ hr', State.setTop_of_frames _ hr', State.setFrames_setFrames, hr]
      rfl
    have hsame : U.sameButNew ({ U with heap := s₂.heap, slotsUsed := s₂.slotsUsed } : State) L mc ms := by
      refine ⟨?_, q2, q3, q4, q5, q6⟩
      obtain ⟨t, ht, -⟩ := State.frames_cons hr
      show ({ U with heap := s₂.heap, slotsUsed := s₂.slotsUsed } : State) = { U.setFrames U.frames with heap := s₂.heap, slotsUsed := s₂.slotsUsed }
      rw [State.setFrames_self ht]
    subst hg
    refine Or.inr ⟨q, ⟨(({ U with heap := s₂.heap, slotsUsed := s₂.slotsUsed } : State).setVm s₂.vm), Ls ++ L, c0 + mc, s0 + ms⟩,
      ⟨X.admits, X.cas, X.clock, X.frames, X.room, X.hears, X.method, X.code, (X.here.setHeapUsed s₂.heap s₂.slotsUsed).setVm hW'.alike, X.tail, State.WarmedH.trans X.warmed hW', X.limits, X.bytes, X.same.trans (hsame.setVm s.vm)⟩,
      ⟨g, mk, s₂, L, E, ce, rfl, rfl, hx, hce, hcv, hcl, rfl, hL, rfl, rfl⟩, ?_⟩
    show Steps p.tables e below _ (((({ U with heap := s₂.heap, slotsUsed := s₂.slotsUsed } : State).setVm s₂.vm).setTop g).pushFrame (.throwing q))
    rw [← hs₂]
    exact hsteps
end Payer
section Calls
variable {p : Program} {l : Launch} {e : Env} {R : Room} {s : State} {m : MethodId} {args : Array Value} {below : List Frame} {meth : Method} {c : Code} {T : State} {locs : List Loc} {cells slots : Nat}
theorem vx_callV (X : Stand p l e R s m args below meth c T locs cells slots) (hexec : p.tables.exec = Jvm.exec) {own C : String} {index : Nat} {y : MethodName} {bytes : ByteArray} {maxL : Nat} {ret : Option FieldType}
    (hown : s.vm.findClass own = some m.cls) (hlink : (Cond.methodLink own index y).before args s = true) (hinst : (Cond.instanceMethod y).before args s = true) (hsel : (Cond.selects C y y).before args s = true)
    (hcode : (Cond.code y bytes maxL ret).before args s = true) (hy : y.cls ≠ "java/lang/invoke/MethodHandle" ∧ y.cls ≠ "java/lang/invoke/VarHandle")
    {W9 : Nat} {Pre : Pt → Array Value → Prop} {Post : Pt → Array Value → Option Value → Pt → Prop} {PostX : Pt → Array Value → Addr → Pt → Prop} (hK : vx_Back l R p e below s args y 3 W9 Pre Post PostX)
    {b : Addr} {cellB : Cell} (hcell : T.heap[b]? = some cellB) (hobj : cellB.vm.isStatics = false) (hcls : s.vm.findClass C = some cellB.cls)
    {g : JFrame} (hg : g.method = m) (hsize : g.locals.size = c.maxLocals) {argsL rest : List Value} (hlen : ∀ sig, parseMethodDescriptor y.desc = some sig → argsL.length = sig.parameters.length)
    (hstack : g.stack = argsL.reverse ++ .ref b :: rest) (hW : 2 * g.monitorRoom + (rest.map fun v => v.category).sum ≤ W9) (hdg : decode c.code g.pc = .ok (.invokevirtual index, 3))
    (hpre : ∀ vm₁, s.WarmedH vm₁ → Pre ⟨T.setVm vm₁, locs, cells, slots⟩ (Value.ref b :: argsL).toArray) :
    (∃ (v : Option Value) (vm₁ : Vm) (B : Pt), s.WarmedH vm₁ ∧ Stand p l e R s m args below meth c B.U B.locs B.cells B.slots ∧ Post ⟨T.setVm vm₁, locs, cells, slots⟩ (Value.ref b :: argsL).toArray v B ∧
      ∀ target, Steps p.tables e below (B.U.setTop { g with pc := g.pc + 3, stack := v.toList ++ rest }) target → Steps p.tables e below (T.setTop g) target) ∨
    (∃ (q : Addr) (vm₁ : Vm) (B : Pt), s.WarmedH vm₁ ∧ Stand p l e R s m args below meth c B.U B.locs B.cells B.slots ∧ PostX ⟨T.setVm vm₁, locs, cells, slots⟩ (Value.ref b :: argsL).toArray q B ∧
      Steps p.tables e below (T.setTop g) ((B.U.setTop { g with stack := rest }).pushFrame (.throwing q))) := by
  obtain ⟨mk, methM, hnamed, hmethM, hstM, habM⟩ := Cond.instanceMethod_spec hinst
  obtain ⟨methM', cM, hmethM', -, -, -, -, -, -, hsigM⟩ := Cond.code_spec hnamed hcode
  cases hmethM.symm.trans hmethM'
  obtain ⟨c2, r2, m2, q1, q2, q3, q4, kP, hkP, hkPi⟩ := Cond.selects_spec hsel
  cases hcls.symm.trans q1
  cases (State.methodFound?_of_named hnamed hy).symm.trans q2
  cases hnamed.symm.trans q3
  have hselP : selectMethod e.platform s.vm cellB.cls mk = .method mk := by rw [Launch.admits_selectMethod X.admits]; exact q4
  obtain ⟨vm₁, X₁, hstep₁⟩ := X.invokevirtual hexec hown hlink hnamed hmethM hstM hkP hkPi hy (a := b) (cell := cellB) hcell
    (fun z h => by rw [h] at hobj; cases hobj) hselP hmethM habM hkP hkPi (g := g) hg (argsL := argsL) (rest := rest) (hlen _ hsigM) hstack hdg
  rcases hK m meth c ⟨T.setVm vm₁, locs, cells, slots⟩ { g with stack := rest } (.invokevirtual index) mk (Value.ref b :: argsL).toArray X₁ hg hsize hdg hW (X₁.named hnamed) (hpre vm₁ X₁.warmed) with ⟨v, B, X', hpost, hsteps⟩ | ⟨q, B, X', hpost, hsteps⟩
  · exact Or.inl ⟨v, vm₁, B, X₁.warmed, X', hpost, fun target h => hstep₁ _ fun acts => by rw [doInvoke_state]; exact hsteps.trans h⟩
  · exact Or.inr ⟨q, vm₁, B, X₁.warmed, X', hpost, hstep₁ _ fun acts => by rw [doInvoke_state]; exact hsteps⟩
theorem vx_callS (X : Stand p l e R s m args below meth c T locs cells slots) (hexec : p.tables.exec = Jvm.exec) {own : String} {index : Nat} {y : MethodName} {bytes : ByteArray} {maxL : Nat} {ret : Option FieldType}
    (hown : s.vm.findClass own = some m.cls) (hlink : (Cond.methodLink own index y).before args s = true) (hstat : (Cond.static y).before args s = true) (hinit : (Cond.initialized y.cls).before args s = true)
    (hcode : (Cond.code y bytes maxL ret).before args s = true) (hy : y.cls ≠ "java/lang/invoke/MethodHandle" ∧ y.cls ≠ "java/lang/invoke/VarHandle")
    {W9 : Nat} {Pre : Pt → Array Value → Prop} {Post : Pt → Array Value → Option Value → Pt → Prop} {PostX : Pt → Array Value → Addr → Pt → Prop} (hK : vx_Back l R p e below s args y 3 W9 Pre Post PostX)
    {g : JFrame} (hg : g.method = m) (hsize : g.locals.size = c.maxLocals) {argsL rest : List Value} (hlen : ∀ sig, parseMethodDescriptor y.desc = some sig → argsL.length = sig.parameters.length)
    (hstack : g.stack = argsL.reverse ++ rest) (hW : 2 * g.monitorRoom + (rest.map fun v => v.category).sum ≤ W9) (hdg : decode c.code g.pc = .ok (.invokestatic index, 3))
    (hpre : ∀ vm₁, s.WarmedH vm₁ → Pre ⟨T.setVm vm₁, locs, cells, slots⟩ argsL.toArray) :
    (∃ (v : Option Value) (vm₁ : Vm) (B : Pt), s.WarmedH vm₁ ∧ Stand p l e R s m args below meth c B.U B.locs B.cells B.slots ∧ Post ⟨T.setVm vm₁, locs, cells, slots⟩ argsL.toArray v B ∧
      ∀ target, Steps p.tables e below (B.U.setTop { g with pc := g.pc + 3, stack := v.toList ++ rest }) target → Steps p.tables e below (T.setTop g) target) ∨
    (∃ (q : Addr) (vm₁ : Vm) (B : Pt), s.WarmedH vm₁ ∧ Stand p l e R s m args below meth c B.U B.locs B.cells B.slots ∧ PostX ⟨T.setVm vm₁, locs, cells, slots⟩ argsL.toArray q B ∧
      Steps p.tables e below (T.setTop g) ((B.U.setTop { g with stack := rest }).pushFrame (.throwing q))) := by
  obtain ⟨mk, hnamed⟩ := Cond.code_named hcode
  obtain ⟨methM, cM, hmethM, -, -, -, -, -, -, hsigM⟩ := Cond.code_spec hnamed hcode
  have hstatic : methM.isStatic = true := Cond.static_spec hnamed hmethM hstat
  obtain ⟨kP, hkP, -⟩ := className_of_methodNamed hnamed
  have hinitP : kP.init = .initialized := Cond.initialized_spec (findClass_of_methodNamed hnamed) hkP hinit
  obtain ⟨vm₁, X₁, hstep₁⟩ := X.invokestatic hexec hown hlink hnamed hmethM hstatic hkP hinitP hy (g := g) hg (argsL := argsL) (rest := rest) (hlen _ hsigM) hstack hdg
  rcases hK m meth c ⟨T.setVm vm₁, locs, cells, slots⟩ { g with stack := rest } (.invokestatic index) mk argsL.toArray X₁ hg hsize hdg hW (X₁.named hnamed) (hpre vm₁ X₁.warmed) with ⟨v, B, X', hpost, hsteps⟩ | ⟨q, B, X', hpost, hsteps⟩
  · exact Or.inl ⟨v, vm₁, B, X₁.warmed, X', hpost, fun target h => hstep₁ _ fun acts => by rw [doInvoke_state]; exact hsteps.trans h⟩
  · exact Or.inr ⟨q, vm₁, B, X₁.warmed, X', hpost, hstep₁ _ fun acts => by rw [doInvoke_state]; exact hsteps⟩
end Calls
theorem vx_cls {s : State} {T : State} {vm₁ : Vm} {E : String} {k : ClassId} (hW : s.WarmedH vm₁) (h : (T.setVm vm₁).vm.findClass E = some k) : s.vm.findClass E = some k := by
  have h1 : vm₁.findClass E = some k := h
  rw [hW.alike.findClass] at h1
  exact h1
/-- the method's frame g, with q thrown over it -/
def vx_W (p : Program) (l : Launch) (e : Env) (R : Room) (s : State) (m : MethodId) (args : Array Value) (below : List Frame) (meth : Method) (c : Code) (H : Heap) (locs : List Loc) (cells slots : Nat) (Q : State → Prop) (g : JFrame) (q : Addr) : Prop :=
  ∀ T : State, T.heap = H → Stand p l e R s m args below meth c T locs cells slots → ∃ t, Steps p.tables e below ((T.setTop g).pushFrame (.throwing q)) t ∧ Q t
def vx_Run (p : Program) (l : Launch) (e : Env) (R : Room) (s : State) (m : MethodId) (args : Array Value) (below : List Frame) (meth : Method) (c : Code) (H : Heap) (locs : List Loc) (cells slots mc ms : Nat) (g : JFrame) (rest : List Value) (Qa : State → Outcome → State → Prop) (XC : String → State → State → Prop) (free : Addr → Prop) : Prop :=
  ∀ T : State, T.heap = H → Stand p l e R s m args below meth c T locs cells slots →
    (∃ (v : Option Value) (st₀ t T' : State) (L : List Loc), st₀.heap = H ∧ Stand p l e R s m args below meth c T' (locs ++ L) (cells + mc) (slots + ms) ∧ (∀ q ∈ L, free q.base) ∧ T'.heap = t.heap ∧ T'.vm = t.vm ∧ Qa st₀ (.returned v) t ∧
      Goes p e below T g T' { g with pc := g.pc + 3, stack := v.toList ++ rest }) ∨
    (∃ (q : Addr) (st₀ t T' : State) (L : List Loc) (E : String) (ce : Cell), st₀.heap = H ∧ Stand p l e R s m args below meth c T' (locs ++ L) (cells + mc) (slots + ms) ∧ (∀ z ∈ L, free z.base) ∧ T'.heap = t.heap ∧ T'.vm = t.vm ∧ XC E st₀ t ∧ t.heap[q]? = some ce ∧ ce.vm = .none ∧ s.vm.findClass E = some ce.cls ∧
      Steps p.tables e below (T.setTop g) ((T'.setTop { g with stack := rest }).pushFrame (.throwing q)))
def vx_X {S : Type} (px : S → Prop) (B : String → S → State → Prop) (A : Nat → Prop) : String → State → State → Prop := fun E st t => ∃ u : S, px u ∧ B E u t ∧ va_F A st t
section Runs
variable {p : Program} {l : Launch} {e : Env} {R : Room} {s : State} {m : MethodId} {args : Array Value} {below : List Frame} {meth : Method} {c : Code} {H : Heap} {locs : List Loc} {cells slots : Nat}
variable {y : MethodName} {bytes cc : ByteArray} {maxL nL mc ms n index : Nat} {ret : Option FieldType} {ws : List Cond} {rm : Room} {Pc : Array Value → State → Prop} {Qc : Array Value → State → Outcome → State → Prop} {XC : String → State → State → Prop} {free : Addr → Prop} {Ts : List Cond} {own C : String} {b : Addr} {As rest : List Value} {g : JFrame}
theorem vx_callBack (cb : CallB R s args own index y bytes maxL ret ws rm mc ms n) (hM : vx_Met l y ws rm Pc Qc XC mc ms free) (hbl : FrameBlind Pc) : vx_Back l R p e below s args y 3 8 (PreOf R mc ms Pc) (PostOf Qc mc ms free) (vx_Post XC mc ms free) := by
  obtain ⟨hrc, hrs, hfr, hlo, hws, hcw, -, hini, -⟩ := cb
  exact vx_back (bytes := bytes) (maxL := maxL) (ret := ret) hM hbl hrc hrs hfr hlo hws hcw (fun a' U hW => word_at hW (Or.inl (by first | rfl | simp [Cond.onTables, Cond.keeps, Cond.steady])) hini)
theorem vx_runV (S : CallFix p m c cc nL s args Ts own) (hM : vx_Met l y ws rm Pc Qc XC mc ms free) (cw : CallW R s args own C index y bytes maxL ret ws rm mc ms n) (hp : PreV s H C b Pc As)
    (hg : g.method = m) (hn : As.length = n) (hsize : g.locals.size = nL) (hstack : g.stack = As.reverse ++ .ref b :: rest) (hW : 2 * g.monitorRoom + (rest.map fun v => v.category).sum ≤ 8) (hdg : decode cc g.pc = .ok (.invokevirtual index, 3)) (hf : cells + mc ≤ R.cells ∧ slots + ms ≤ R.slots) :
    vx_Run p l e R s m args below meth c H locs cells slots mc ms g rest (Qc (Value.ref b :: As).toArray) XC free := by
  have hK : vx_Back l R p e below s args y 3 8 (PreOf R mc ms Pc) (PostOf Qc mc ms free) (vx_Post XC mc ms free) := vx_callBack cw.1 hM hp.1
  obtain ⟨⟨-, -, -, -, -, -, hcode, -, hy, hlen, hl⟩, hin, hse⟩ := cw
  obtain ⟨hx, hb, hml, ho, -⟩ := S
  obtain ⟨-, ⟨cellB, hcB, hoB, hclB⟩, hPc⟩ := hp
  intro T hT X
  rcases vx_callV X hx (C := C) (bytes := bytes) (maxL := maxL) (ret := ret) ho hl hin hse hcode hy hK (by rw [hT]; exact hcB) hoB hclB hg (hsize.trans hml.symm) (argsL := As) (rest := rest) (fun sig h => hn.trans (hlen sig h)) hstack hW (by rw [hb]; exact hdg)
    (fun vm₁ hW₁ => ⟨hf.1, hf.2, hPc (T.setVm vm₁) hT hW₁⟩) with ⟨v, vm₁, ⟨U', l2, c2, s2⟩, hW₁, X', ⟨g', mk, t, L, e1, e2, hq, h1, hL, h2, h3⟩, st⟩ | ⟨q, vm₁, ⟨U', l2, c2, s2⟩, hW₁, X', ⟨g', mk, t, L, E, ce, e1, e2, hq, hce, hcv, hcl, h1, hL, h2, h3⟩, st⟩
  · dsimp only [Pt.U, Pt.locs, Pt.cells, Pt.slots] at X' e1 e2 h1 h2 h3 st
    subst h1; subst h2; subst h3
    exact Or.inl ⟨v, (T.setVm vm₁).calling g' mk (Value.ref b :: As).toArray, t, U', L, hT, X', hL, e1, e2, hq, st⟩
  · dsimp only [Pt.U, Pt.locs, Pt.cells, Pt.slots] at X' e1 e2 h1 h2 h3 st hcl
    subst h1; subst h2; subst h3
    exact Or.inr ⟨q, (T.setVm vm₁).calling g' mk (Value.ref b :: As).toArray, t, U', L, E, ce, hT, X', hL, e1, e2, hq, hce, hcv, vx_cls hW₁ hcl, st⟩
theorem vx_runS (S : CallFix p m c cc nL s args Ts own) (hM : vx_Met l y ws rm Pc Qc XC mc ms free) (cw : CallB R s args own index y bytes maxL ret ws rm mc ms n ∧ (Cond.static y).before args s = true) (hp : PreS s H Pc As)
    (hg : g.method = m) (hn : As.length = n) (hsize : g.locals.size = nL) (hstack : g.stack = As.reverse ++ rest) (hW : 2 * g.monitorRoom + (rest.map fun v => v.category).sum ≤ 8) (hdg : decode cc g.pc = .ok (.invokestatic index, 3)) (hf : cells + mc ≤ R.cells ∧ slots + ms ≤ R.slots) :
    vx_Run p l e R s m args below meth c H locs cells slots mc ms g rest (Qc As.toArray) XC free := by
  have hK : vx_Back l R p e below s args y 3 8 (PreOf R mc ms Pc) (PostOf Qc mc ms free) (vx_Post XC mc ms free) := vx_callBack cw.1 hM hp.1
  obtain ⟨⟨-, -, -, -, -, -, hcode, hini, hy, hlen, hl⟩, hstt⟩ := cw
  obtain ⟨hx, hb, hml, ho, -⟩ := S
  intro T hT X
  rcases vx_callS X hx (bytes := bytes) (maxL := maxL) (ret := ret) ho hl hstt hini hcode hy hK hg (hsize.trans hml.symm) (argsL := As) (rest := rest) (fun sig h => hn.trans (hlen sig h)) hstack hW (by rw [hb]; exact hdg)
    (fun vm₁ hW₁ => ⟨hf.1, hf.2, hp.2 (T.setVm vm₁) hT hW₁⟩) with ⟨v, vm₁, ⟨U', l2, c2, s2⟩, hW₁, X', ⟨g', mk, t, L, e1, e2, hq, h1, hL, h2, h3⟩, st⟩ | ⟨q, vm₁, ⟨U', l2, c2, s2⟩, hW₁, X', ⟨g', mk, t, L, E, ce, e1, e2, hq, hce, hcv, hcl, h1, hL, h2, h3⟩, st⟩
  · dsimp only [Pt.U, Pt.locs, Pt.cells, Pt.slots] at X' e1 e2 h1 h2 h3 st
    subst h1; subst h2; subst h3
    exact Or.inl ⟨v, (T.setVm vm₁).calling g' mk As.toArray, t, U', L, hT, X', hL, e1, e2, hq, st⟩
  · dsimp only [Pt.U, Pt.locs, Pt.cells, Pt.slots] at X' e1 e2 h1 h2 h3 st hcl
    subst h1; subst h2; subst h3
    exact Or.inr ⟨q, (T.setVm vm₁).calling g' mk As.toArray, t, U', L, E, ce, hT, X', hL, e1, e2, hq, hce, hcv, vx_cls hW₁ hcl, st⟩
end Runs
section Rows
variable {p : Program} {l : Launch} {e : Env} {R : Room} {s : State} {m : MethodId} {args : Array Value} {below : List Frame} {meth : Method} {c : Code} {H : Heap} {locs : List Loc} {cells slots : Nat} {Q : State → Prop}
variable {mc ms : Nat} {free : Addr → Prop} {A0 A1 : Nat → Prop} {H0 : Heap} {a : Array Value} {pc : Nat} {ls : Array Slot} {st0 rest : List Value}
theorem vx_keep {st₀ t T' : State} {L : List Loc} (h0 : st₀.heap = H) (e1 : T'.heap = t.heap) (hS : va_S A0 H0 H locs) (hA : ∀ q, q < H.size → A1 q → A0 q) (hf : ∀ q, free q → A0 q) (hL : ∀ q ∈ L, free q.base) (hF : va_F A1 st₀ t) :
    H.size ≤ T'.heap.size ∧ (∀ q : Nat, q < H.size → ¬ A1 q → T'.heap[q]? = H[q]?) ∧ va_S A0 H0 T'.heap (locs ++ L) := by
  obtain ⟨hz, hk⟩ := hF
  rw [h0] at hz hk
  exact ⟨by rw [e1]; exact hz, fun q h1 h2 => by rw [e1]; exact hk q h1 h2,
    ⟨Nat.le_trans hS.1 (by rw [e1]; exact hz), fun q h1 h2 => by rw [e1, hk q (Nat.lt_of_lt_of_le h1 hS.1) (fun z => h2 (hA q (Nat.lt_of_lt_of_le h1 hS.1) z))]; exact hS.2.1 q h1 h2, fun q hq => by
      rcases List.mem_append.mp hq with h | h
      · exact hS.2.2 q h
      · exact hf _ (hL q h)⟩⟩
theorem vx_calli {S SX : Type} {post : Int32 → S → Prop} {px : SX → Prop} {B : S → State → Prop} {BX : String → SX → State → Prop} {AX : Nat → Prop} (hr : vx_Run p l e R s m args below meth c H locs cells slots mc ms (F0 m pc ls st0) rest (va_Qi post B A1 a) (vx_X px BX AX) free) (hS : va_S A0 H0 H locs) (hA : ∀ q, q < H.size → A1 q → A0 q) (hf : ∀ q, free q → A0 q) (hAX : ∀ q, q < H.size → AX q → A0 q)
    (kx : ∀ (E : String) (ce : Cell) (q9 : Addr) (u : SX) (t : State) (H1 : Heap) (locs1 : List Loc), t.heap = H1 → s.vm.Alike t.vm → px u → BX E u t → H.size ≤ H1.size → (∀ q : Nat, q < H.size → ¬ AX q → H1[q]? = H[q]?) → va_S A0 H0 H1 locs1 → H1[q9]? = some ce → ce.vm = .none → s.vm.findClass E = some ce.cls → vx_W p l e R s m args below meth c H1 locs1 (cells + mc) (slots + ms) Q (F0 m pc ls rest) q9)
    (kk : ∀ (r : Int32) (u : S) (t : State) (H1 : Heap) (locs1 : List Loc), t.heap = H1 → s.vm.Alike t.vm → post r u → B u t → H.size ≤ H1.size → (∀ q : Nat, q < H.size → ¬ A1 q → H1[q]? = H[q]?) → va_S A0 H0 H1 locs1 → W p l e R s m args below meth c H1 locs1 (cells + mc) (slots + ms) Q (F0 m (pc + 3) ls (.int r :: rest))) : W p l e R s m args below meth c H locs cells slots Q (F0 m pc ls st0) := by
  intro T hT X
  rcases hr T hT X with ⟨v, st₀, t, T', L, h0, X', hL, e1, e2, ⟨⟨r, u, hv, hp, hb⟩, hF⟩, st⟩ | ⟨q, st₀, t, T', L, E, ce, h0, X', hL, e1, e2, ⟨u, hp, hb, hF⟩, hce, hcv, hcl, st⟩
  · cases hv
    obtain ⟨k1, k2, k3⟩ := vx_keep h0 e1 hS hA hf hL hF
    obtain ⟨t2, a1, b1⟩ := kk r u t T'.heap (locs ++ L) e1.symm (by rw [← e2]; exact X'.warmed.alike) hp hb k1 k2 k3 T' rfl X'
    exact ⟨t2, st t2 a1, b1⟩
  · obtain ⟨k1, k2, k3⟩ := vx_keep h0 e1 hS hAX hf hL hF
    obtain ⟨t2, a1, b1⟩ := kx E ce q u t T'.heap (locs ++ L) e1.symm (by rw [← e2]; exact X'.warmed.alike) hp hb k1 k2 k3 (by rw [e1]; exact hce) hcv hcl T' rfl X'
    exact ⟨t2, st.trans a1, b1⟩
theorem vx_calll {S SX : Type} {post : Int64 → S → Prop} {px : SX → Prop} {B : S → State → Prop} {BX : String → SX → State → Prop} {AX : Nat → Prop} (hr : vx_Run p l e R s m args below meth c H locs cells slots mc ms (F0 m pc ls st0) rest (va_Ql post B A1 a) (vx_X px BX AX) free) (hS : va_S A0 H0 H locs) (hA : ∀ q, q < H.size → A1 q → A0 q) (hf : ∀ q, free q → A0 q) (hAX : ∀ q, q < H.size → AX q → A0 q)
    (kx : ∀ (E : String) (ce : Cell) (q9 : Addr) (u : SX) (t : State) (H1 : Heap) (locs1 : List Loc), t.heap = H1 → s.vm.Alike t.vm → px u → BX E u t → H.size ≤ H1.size → (∀ q : Nat, q < H.size → ¬ AX q → H1[q]? = H[q]?) → va_S A0 H0 H1 locs1 → H1[q9]? = some ce → ce.vm = .none → s.vm.findClass E = some ce.cls → vx_W p l e R s m args below meth c H1 locs1 (cells + mc) (slots + ms) Q (F0 m pc ls rest) q9)
    (kk : ∀ (r : Int64) (u : S) (t : State) (H1 : Heap) (locs1 : List Loc), t.heap = H1 → s.vm.Alike t.vm → post r u → B u t → H.size ≤ H1.size → (∀ q : Nat, q < H.size → ¬ A1 q → H1[q]? = H[q]?) → va_S A0 H0 H1 locs1 → W p l e R s m args below meth c H1 locs1 (cells + mc) (slots + ms) Q (F0 m (pc + 3) ls (.long r :: rest))) : W p l e R s m args below meth c H locs cells slots Q (F0 m pc ls st0) := by
  intro T hT X
  rcases hr T hT X with ⟨v, st₀, t, T', L, h0, X', hL, e1, e2, ⟨⟨r, u, hv, hp, hb⟩, hF⟩, st⟩ | ⟨q, st₀, t, T', L, E, ce, h0, X', hL, e1, e2, ⟨u, hp, hb, hF⟩, hce, hcv, hcl, st⟩
  · cases hv
    obtain ⟨k1, k2, k3⟩ := vx_keep h0 e1 hS hA hf hL hF
    obtain ⟨t2, a1, b1⟩ := kk r u t T'.heap (locs ++ L) e1.symm (by rw [← e2]; exact X'.warmed.alike) hp hb k1 k2 k3 T' rfl X'
    exact ⟨t2, st t2 a1, b1⟩
  · obtain ⟨k1, k2, k3⟩ := vx_keep h0 e1 hS hAX hf hL hF
    obtain ⟨t2, a1, b1⟩ := kx E ce q u t T'.heap (locs ++ L) e1.symm (by rw [← e2]; exact X'.warmed.alike) hp hb k1 k2 k3 (by rw [e1]; exact hce) hcv hcl T' rfl X'
    exact ⟨t2, st.trans a1, b1⟩
theorem vx_callf {S SX : Type} {post : UInt32 → S → Prop} {px : SX → Prop} {B : S → State → Prop} {BX : String → SX → State → Prop} {AX : Nat → Prop} (hr : vx_Run p l e R s m args below meth c H locs cells slots mc ms (F0 m pc ls st0) rest (va_Qf post B A1 a) (vx_X px BX AX) free) (hS : va_S A0 H0 H locs) (hA : ∀ q, q < H.size → A1 q → A0 q) (hf : ∀ q, free q → A0 q) (hAX : ∀ q, q < H.size → AX q → A0 q)
    (kx : ∀ (E : String) (ce : Cell) (q9 : Addr) (u : SX) (t : State) (H1 : Heap) (locs1 : List Loc), t.heap = H1 → s.vm.Alike t.vm → px u → BX E u t → H.size ≤ H1.size → (∀ q : Nat, q < H.size → ¬ AX q → H1[q]? = H[q]?) → va_S A0 H0 H1 locs1 → H1[q9]? = some ce → ce.vm = .none → s.vm.findClass E = some ce.cls → vx_W p l e R s m args below meth c H1 locs1 (cells + mc) (slots + ms) Q (F0 m pc ls rest) q9)
    (kk : ∀ (r : UInt32) (u : S) (t : State) (H1 : Heap) (locs1 : List Loc), t.heap = H1 → s.vm.Alike t.vm → post r u → B u t → H.size ≤ H1.size → (∀ q : Nat, q < H.size → ¬ A1 q → H1[q]? = H[q]?) → va_S A0 H0 H1 locs1 → W p l e R s m args below meth c H1 locs1 (cells + mc) (slots + ms) Q (F0 m (pc + 3) ls (.float r :: rest))) : W p l e R s m args below meth c H locs cells slots Q (F0 m pc ls st0) := by
  intro T hT X
  rcases hr T hT X with ⟨v, st₀, t, T', L, h0, X', hL, e1, e2, ⟨⟨r, u, hv, hp, hb⟩, hF⟩, st⟩ | ⟨q, st₀, t, T', L, E, ce, h0, X', hL, e1, e2, ⟨u, hp, hb, hF⟩, hce, hcv, hcl, st⟩
  · cases hv
    obtain ⟨k1, k2, k3⟩ := vx_keep h0 e1 hS hA hf hL hF
    obtain ⟨t2, a1, b1⟩ := kk r u t T'.heap (locs ++ L) e1.symm (by rw [← e2]; exact X'.warmed.alike) hp hb k1 k2 k3 T' rfl X'
    exact ⟨t2, st t2 a1, b1⟩
  · obtain ⟨k1, k2, k3⟩ := vx_keep h0 e1 hS hAX hf hL hF
    obtain ⟨t2, a1, b1⟩ := kx E ce q u t T'.heap (locs ++ L) e1.symm (by rw [← e2]; exact X'.warmed.alike) hp hb k1 k2 k3 (by rw [e1]; exact hce) hcv hcl T' rfl X'
    exact ⟨t2, st.trans a1, b1⟩
theorem vx_calld {S SX : Type} {post : UInt64 → S → Prop} {px : SX → Prop} {B : S → State → Prop} {BX : String → SX → State → Prop} {AX : Nat → Prop} (hr : vx_Run p l e R s m args below meth c H locs cells slots mc ms (F0 m pc ls st0) rest (va_Qd post B A1 a) (vx_X px BX AX) free) (hS : va_S A0 H0 H locs) (hA : ∀ q, q < H.size → A1 q → A0 q) (hf : ∀ q, free q → A0 q) (hAX : ∀ q, q < H.size → AX q → A0 q)
    (kx : ∀ (E : String) (ce : Cell) (q9 : Addr) (u : SX) (t : State) (H1 : Heap) (locs1 : List Loc), t.heap = H1 → s.vm.Alike t.vm → px u → BX E u t → H.size ≤ H1.size → (∀ q : Nat, q < H.size → ¬ AX q → H1[q]? = H[q]?) → va_S A0 H0 H1 locs1 → H1[q9]? = some ce → ce.vm = .none → s.vm.findClass E = some ce.cls → vx_W p l e R s m args below meth c H1 locs1 (cells + mc) (slots + ms) Q (F0 m pc ls rest) q9)
    (kk : ∀ (r : UInt64) (u : S) (t : State) (H1 : Heap) (locs1 : List Loc), t.heap = H1 → s.vm.Alike t.vm → post r u → B u t → H.size ≤ H1.size → (∀ q : Nat, q < H.size → ¬ A1 q → H1[q]? = H[q]?) → va_S A0 H0 H1 locs1 → W p l e R s m args below meth c H1 locs1 (cells + mc) (slots + ms) Q (F0 m (pc + 3) ls (.double r :: rest))) : W p l e R s m args below meth c H locs cells slots Q (F0 m pc ls st0) := by
  intro T hT X
  rcases hr T hT X with ⟨v, st₀, t, T', L, h0, X', hL, e1, e2, ⟨⟨r, u, hv, hp, hb⟩, hF⟩, st⟩ | ⟨q, st₀, t, T', L, E, ce, h0, X', hL, e1, e2, ⟨u, hp, hb, hF⟩, hce, hcv, hcl, st⟩
  · cases hv
    obtain ⟨k1, k2, k3⟩ := vx_keep h0 e1 hS hA hf hL hF
    obtain ⟨t2, a1, b1⟩ := kk r u t T'.heap (locs ++ L) e1.symm (by rw [← e2]; exact X'.warmed.alike) hp hb k1 k2 k3 T' rfl X'
    exact ⟨t2, st t2 a1, b1⟩
  · obtain ⟨k1, k2, k3⟩ := vx_keep h0 e1 hS hAX hf hL hF
    obtain ⟨t2, a1, b1⟩ := kx E ce q u t T'.heap (locs ++ L) e1.symm (by rw [← e2]; exact X'.warmed.alike) hp hb k1 k2 k3 (by rw [e1]; exact hce) hcv hcl T' rfl X'
    exact ⟨t2, st.trans a1, b1⟩
theorem vx_callv {S SX : Type} {post : S → Prop} {px : SX → Prop} {B : S → State → Prop} {BX : String → SX → State → Prop} {AX : Nat → Prop} (hr : vx_Run p l e R s m args below meth c H locs cells slots mc ms (F0 m pc ls st0) rest (va_Qv post B A1 a) (vx_X px BX AX) free) (hS : va_S A0 H0 H locs) (hA : ∀ q, q < H.size → A1 q → A0 q) (hf : ∀ q, free q → A0 q) (hAX : ∀ q, q < H.size → AX q → A0 q)
    (kx : ∀ (E : String) (ce : Cell) (q9 : Addr) (u : SX) (t : State) (H1 : Heap) (locs1 : List Loc), t.heap = H1 → s.vm.Alike t.vm → px u → BX E u t → H.size ≤ H1.size → (∀ q : Nat, q < H.size → ¬ AX q → H1[q]? = H[q]?) → va_S A0 H0 H1 locs1 → H1[q9]? = some ce → ce.vm = .none → s.vm.findClass E = some ce.cls → vx_W p l e R s m args below meth c H1 locs1 (cells + mc) (slots + ms) Q (F0 m pc ls rest) q9)
    (kk : ∀ (u : S) (t : State) (H1 : Heap) (locs1 : List Loc), t.heap = H1 → s.vm.Alike t.vm → post u → B u t → H.size ≤ H1.size → (∀ q : Nat, q < H.size → ¬ A1 q → H1[q]? = H[q]?) → va_S A0 H0 H1 locs1 → W p l e R s m args below meth c H1 locs1 (cells + mc) (slots + ms) Q (F0 m (pc + 3) ls (rest))) : W p l e R s m args below meth c H locs cells slots Q (F0 m pc ls st0) := by
  intro T hT X
  rcases hr T hT X with ⟨v, st₀, t, T', L, h0, X', hL, e1, e2, ⟨⟨u, hv, hp, hb⟩, hF⟩, st⟩ | ⟨q, st₀, t, T', L, E, ce, h0, X', hL, e1, e2, ⟨u, hp, hb, hF⟩, hce, hcv, hcl, st⟩
  · cases hv
    obtain ⟨k1, k2, k3⟩ := vx_keep h0 e1 hS hA hf hL hF
    obtain ⟨t2, a1, b1⟩ := kk u t T'.heap (locs ++ L) e1.symm (by rw [← e2]; exact X'.warmed.alike) hp hb k1 k2 k3 T' rfl X'
    exact ⟨t2, st t2 a1, b1⟩
  · obtain ⟨k1, k2, k3⟩ := vx_keep h0 e1 hS hAX hf hL hF
    obtain ⟨t2, a1, b1⟩ := kx E ce q u t T'.heap (locs ++ L) e1.symm (by rw [← e2]; exact X'.warmed.alike) hp hb k1 k2 k3 (by rw [e1]; exact hce) hcv hcl T' rfl X'
    exact ⟨t2, st.trans a1, b1⟩
/-- caught by the row x of this method's table; the rows ahead don't take it -/
theorem vx_catch {own name : String} {E : String} {ce : Cell} {q : Addr} (hown : s.vm.findClass own = some m.cls) (pre : List ExceptionTableEntry) (x : ExceptionTableEntry) (suf : List ExceptionTableEntry) (hsplit : c.exceptionTable.toList = pre ++ x :: suf)
    (hpass : ∀ z ∈ pre, covers z pc = false ∨ (z.catchType ≠ 0 ∧ ∃ nm : String, (Cond.classLink own z.catchType nm).before args s = true ∧ va_Nc E nm s)) (hx : covers x pc = true) (h0 : x.catchType ≠ 0)
    (hlink : (Cond.classLink own x.catchType name).before args s = true) (hcast : (Cond.castable E name).before args s = true) (hcell : H[q]? = some ce) (hv : ce.vm = .none) (hcl : s.vm.findClass E = some ce.cls)
    (kk : W p l e R s m args below meth c H locs cells slots Q (F0 m x.handlerPc ls [.ref q])) : vx_W p l e R s m args below meth c H locs cells slots Q (F0 m pc ls rest) q := by
  intro T hT X
  have hpl : e.platform.magicAccessors = ({} : Platform).magicAccessors := by rw [X.admits.platform]
  obtain ⟨c3, c4, hc3, hc4, hasg⟩ := Cond.castable_spec hcast
  cases Option.some.inj (hc3.symm.trans hcl)
  obtain ⟨c5, hc5, hcl5⟩ := Cond.classLink_spec hown hlink e.platform hpl
  cases Option.some.inj (hc4.symm.trans hc5)
  obtain ⟨vm', X', st⟩ := X.thenCaughtThrough q (g := F0 m pc ls rest) rfl (Steps.refl _) (by rw [hT]; exact hcell) (by rw [hv]; rfl) (by obtain ⟨k9, h9, -⟩ := Vm.findClass_spec hcl; exact ⟨k9, h9⟩) pre x suf hsplit
    (fun z hz => by
      rcases hpass z hz with h | ⟨hz0, nm, hl1, hn1⟩
      · exact Or.inl h
      · obtain ⟨c6, hc6, hcl6⟩ := Cond.classLink_spec hown hl1 e.platform hpl
        obtain ⟨a8, b8, h1, h2, h3⟩ := hn1
        cases Option.some.inj (h1.symm.trans hcl)
        cases Option.some.inj (h2.symm.trans hc6)
        exact Or.inr ⟨hz0, _, hcl6, h3⟩) hx (Or.inr ⟨h0, c4, hcl5, hasg⟩)
  obtain ⟨t, a1, b1⟩ := kk (T.setVm vm') hT X'
  exact ⟨t, st.trans a1, b1⟩
end Rows
section Ends
variable {p : Program} {l : Launch} {e : Env} {R : Room} {s : State} {m : MethodId} {args : Array Value} {below : List Frame} {meth : Method} {c : Code} {H : Heap} {locs : List Loc} {cells slots : Nat} {Q : State → Prop}
variable {mc ms : Nat} {free : Addr → Prop} {A0 A1 : Nat → Prop} {H0 : Heap} {a : Array Value} {ls : Array Slot} {st0 rest : List Value}
variable {Qc : Array Value → State → Outcome → State → Prop} {XC : String → State → State → Prop}
/-- what a body that may throw owes at its end -/
def vx_MQ (below : List Frame) (Qc : Array Value → State → Outcome → State → Prop) (XC : String → State → State → Prop) (a : Array Value) (s : State) (mc ms : Nat) (free : Addr → Prop) : State → Prop := fun t =>
  ∃ o, t.status = .running ∧ Ended t below o ∧ vx_Q Qc XC mc ms free a s o t
theorem vx_ret {g : JFrame} {mc ms : Nat} (k : W p l e R s m args below meth c H locs cells slots (MQ below Qc args s mc ms free) g) : W p l e R s m args below meth c H locs cells slots (vx_MQ below Qc XC args s mc ms free) g := by
  intro T hT X
  obtain ⟨t, a1, o, b1, b2, b3, b4⟩ := k T hT X
  exact ⟨t, a1, o, b1, b2, Or.inl ⟨b3, b4⟩⟩
/-- not caught here: it goes on to the caller -/
theorem vx_widen {g : JFrame} {q : Addr} {k n : Nat} (h1 : cells ≤ k) (h2 : slots ≤ n) (kk : vx_W p l e R s m args below meth c H locs k n Q g q) : vx_W p l e R s m args below meth c H locs cells slots Q g q := fun T hT X => kk T hT (stand_widen X h1 h2)
theorem vx_out {pc : Nat} {E : String} {ce : Cell} {q : Addr} {mc ms : Nat} (hout : ∀ x ∈ c.exceptionTable.toList, covers x pc = false) (hlocks : meth.locks = false) (hcell : H[q]? = some ce) (hv : ce.vm = .none) (hcl : s.vm.findClass E = some ce.cls)
    (hx : ∀ t : State, t.heap = H → s.vm.Alike t.vm → XC E s t) (hf : ∀ z ∈ locs, free z.base) (hc : cells ≤ mc) (hs : slots ≤ ms) :
    vx_W p l e R s m args below meth c H locs cells slots (vx_MQ below Qc XC args s mc ms free) (F0 m pc ls rest) q := by
  intro T hT X
  obtain ⟨st1, hrun, hend, hW, hsm⟩ := X.leaveThrown q (g := F0 m pc ls rest) rfl rfl rfl hout hlocks
  have hcell9 : (T.setFrames (.throwing q :: below)).heap[q]? = some ce := by
    show T.heap[q]? = some ce
    rw [hT]; exact hcell
  exact ⟨_, st1, .threw q, hrun, hend, Or.inr ⟨q, rfl, E, ce, locs, hx _ hT hW.alike, hcell9, hv, hcl, hW, hsm.mono hc hs, hf⟩⟩
theorem vx_frame {U : State} {k n : Nat} (h : s.sameButNew ({ U with vm := s.vm } : State) locs k n) : s.heap.size ≤ U.heap.size ∧ ∀ q : Nat, q < s.heap.size → (∀ z ∈ locs, z.base ≠ q) → U.heap[q]? = s.heap[q]? := by
  obtain ⟨-, h2, -, -, -, h6⟩ := h
  refine ⟨h2, fun q hq hz => ?_⟩
  obtain ⟨c9, e1, e2, e3, e4⟩ := h6 q _ (Array.getElem?_eq_getElem hq)
  have hs : c9.slots = (s.heap[q]).slots := Array.ext_getElem? fun i => e4 i fun hm => hz _ hm rfl
  have h9 : c9 = s.heap[q] := by
    rw [hs] at e2
    exact e2
  have e5 : U.heap[q]? = some c9 := e1
  rw [e5, h9, Array.getElem?_eq_getElem hq]
/-- the words of a throw but the four that speak of the heap -/
def vx_no (w : Cond) : Bool := decide (w ≠ .isRef (.static Bundle.tN "UNASSIGNED_STACK" Bundle.steD)) && decide (w ≠ .isRef (.static Bundle.tN "SUPPRESSED_SENTINEL" Bundle.listD)) && decide (w ≠ .laysStatic Bundle.tN "UNASSIGNED_STACK" Bundle.steD) && decide (w ≠ .laysStatic Bundle.tN "SUPPRESSED_SENTINEL" Bundle.listD)
def vx_at0 (own : String) (ic : Nat) (X : String) (names : List String) : List Cond := (Bundle.ownAtoms0 own ic X names).filter vx_no
def vx_atS (own : String) (ic : Nat) (X : String) (names : List String) : List Cond := (Bundle.ownAtoms own ic X names).filter vx_no
/-- a word that the tables alone decide, or a good one -/
def vx_ot (w : Cond) : Bool := w.onTables || goodWord w
theorem vx_ot_at {args a' : Array Value} {s U : State} {w : Cond} (hW : s.WarmedH U.vm) (hvm : s.vm = U.vm) (hg : vx_ot w = true) (h : w.before args s = true) : w.before a' U = true := by
  simp only [vx_ot, Bool.or_eq_true] at hg
  rcases hg with hg | hg
  · exact va_tabs hg hvm h
  · exact word_at hW (good_of_word hg) h
/-- a list's words: the good ones out of the method's own list, the others by premises of their own -/
theorem vx_hat {args : Array Value} {s : State} {L B : List Cond} (h1 : ∀ w ∈ L.filter goodWord, w.before args s = true) (h2 : ∀ w ∈ L.filter (fun w => !goodWord w), w ∈ B) (h3 : ∀ w ∈ B, w.before args s = true) : ∀ w ∈ L, w.before args s = true := by
  intro w hw
  by_cases g : goodWord w = true
  · exact h1 w (List.mem_filter.mpr ⟨hw, g⟩)
  · refine h3 w (h2 w (List.mem_filter.mpr ⟨hw, ?_⟩))
    show (!goodWord w) = true
    cases hgw : goodWord w
    · rfl
    · exact absurd hgw g
theorem vx_c {args : Array Value} {s : State} {w : Cond} {B : List Cond} (h : w.before args s = true) (t : ∀ w ∈ B, w.before args s = true) : ∀ w' ∈ w :: B, w'.before args s = true := fun w' h' => (List.mem_cons.mp h').elim (fun e => by rw [e]; exact h) (t w')
theorem vx_n {args : Array Value} {s : State} : ∀ w ∈ ([] : List Cond), w.before args s = true := fun _ h => nomatch h
theorem vx_own {args : Array Value} {s : State} {L : List Cond} (h1 : ∀ w ∈ L.filter vx_no, w.before args s = true)
    (hU : (Cond.isRef (.static Bundle.tN "UNASSIGNED_STACK" Bundle.steD)).before args s = true) (hN : (Cond.isRef (.static Bundle.tN "SUPPRESSED_SENTINEL" Bundle.listD)).before args s = true)
    (lU : (Cond.laysStatic Bundle.tN "UNASSIGNED_STACK" Bundle.steD).before args s = true) (lN : (Cond.laysStatic Bundle.tN "SUPPRESSED_SENTINEL" Bundle.listD).before args s = true) : ∀ w ∈ L, w.before args s = true := by
  intro w hw
  by_cases e1 : w = .isRef (.static Bundle.tN "UNASSIGNED_STACK" Bundle.steD)
  · rw [e1]; exact hU
  · by_cases e2 : w = .isRef (.static Bundle.tN "SUPPRESSED_SENTINEL" Bundle.listD)
    · rw [e2]; exact hN
    · by_cases e3 : w = .laysStatic Bundle.tN "UNASSIGNED_STACK" Bundle.steD
      · rw [e3]; exact lU
      · by_cases e4 : w = .laysStatic Bundle.tN "SUPPRESSED_SENTINEL" Bundle.listD
        · rw [e4]; exact lN
        · exact h1 w (List.mem_filter.mpr ⟨hw, by unfold vx_no; rw [decide_eq_true e1, decide_eq_true e2, decide_eq_true e3, decide_eq_true e4]; rfl⟩)
/-- where a static field lies, its class's statics cell in H -/
def vx_L (C n d : String) (A : Nat → Prop) (U : State) (H : Heap) : Prop := ∃ (c : ClassId) (k : Class) (i : Nat) (f : Field) (a : Nat) (cell : Cell), U.vm.findClass C = some c ∧ U.fieldFound? C n d = some (c, k, i, f) ∧ f.isStatic = true ∧ k.statics = some a ∧ H[a]? = some cell ∧ cell.vm.isStatics = true ∧ cell.cls = c ∧ f.slot < cell.slots.size ∧ k.staticTypes[f.slot]? = some f.type ∧ ¬ A a
theorem vx_L.moved {C n d : String} {A : Nat → Prop} {u U : State} {H : Heap} (hvm : u.vm.Alike U.vm) (h : vx_L C n d A u H) : vx_L C n d A U H := by
  obtain ⟨c, k, i, f, a, cell, h1, h2, h3, h4, h5, h6, h7, h8, h9, h10⟩ := h
  obtain ⟨k', hi', he⟩ := State.fieldFound?_setVm hvm h2
  exact ⟨c, k', i, f, a, cell, by rw [hvm.findClass]; exact h1, hi', h3, by rw [he]; exact h4, h5, h6, h7, h8, by rw [he]; exact h9, h10⟩
theorem vx_L.kept {C n d : String} {A : Nat → Prop} {U : State} {H H1 : Heap} (h : vx_L C n d A U H) (hq : ∀ a : Nat, a < H.size → ¬ A a → H1[a]? = H[a]?) : vx_L C n d A U H1 := by
  obtain ⟨c, k, i, f, a, cell, h1, h2, h3, h4, h5, h6, h7, h8, h9, h10⟩ := h
  exact ⟨c, k, i, f, a, cell, h1, h2, h3, h4, by rw [hq a (Array.getElem?_eq_some_iff.mp h5).1 h10]; exact h5, h6, h7, h8, h9, h10⟩
theorem vx_L.narrow {C n d : String} {A B : Nat → Prop} {U : State} {H : Heap} (h : vx_L C n d A U H) (hAB : ∀ q, B q → A q) : vx_L C n d B U H := by
  obtain ⟨c, k, i, f, a, cell, h1, h2, h3, h4, h5, h6, h7, h8, h9, h10⟩ := h
  exact ⟨c, k, i, f, a, cell, h1, h2, h3, h4, h5, h6, h7, h8, h9, fun z => h10 (hAB _ z)⟩
theorem vx_L.word {C n d : String} {A : Nat → Prop} {s : State} {args : Array Value} (h : vx_L C n d A s s.heap) : (Cond.laysStatic C n d).before args s = true := by
  obtain ⟨c, k, i, f, a, cell, h1, h2, h3, h4, h5, h6, h7, h8, h9, -⟩ := h
  show (Cond.laysStatic C n d).holds args s none s [] = true
  exact Cond.laysStatic_of h1 h2 h3 h4 h5 h6 h7 h8 h9
/-- .. and what it holds: null or some reference -/
def vx_Zq (C n d : String) (A : Nat → Prop) (U : State) (H : Heap) : Prop := va_Zq C n d A U H ∧ vx_L C n d A U H
theorem vx_Zq.moved {C n d : String} {A : Nat → Prop} {u U : State} {H : Heap} (hvm : u.vm.Alike U.vm) (h : vx_Zq C n d A u H) : vx_Zq C n d A U H := ⟨va_Zq.moved hvm h.1, vx_L.moved hvm h.2⟩
theorem vx_Zq.kept {C n d : String} {A : Nat → Prop} {U : State} {H H1 : Heap} (h : vx_Zq C n d A U H) (hq : ∀ a : Nat, a < H.size → ¬ A a → H1[a]? = H[a]?) : vx_Zq C n d A U H1 := ⟨va_Zq.kept h.1 hq, vx_L.kept h.2 hq⟩
theorem vx_Zq.narrow {C n d : String} {A B : Nat → Prop} {U : State} {H : Heap} (h : vx_Zq C n d A U H) (hAB : ∀ q, B q → A q) : vx_Zq C n d B U H := ⟨va_Zq.narrow h.1 hAB, vx_L.narrow h.2 hAB⟩
theorem vx_Zqof {args : Array Value} {s : State} {C n d : String} {A : Nat → Prop} (hl : (Cond.laysStatic C n d).before args s = true) (hini : (Cond.initialized C).before args s = true) (h : (Cond.isRef (.static C n d)).before args s = true) (hA : ∀ a : Nat, a < s.heap.size → ¬ A a) : vx_Zq C n d A s s.heap := by
  refine ⟨va_Zqof hl hini h hA, ?_⟩
  obtain ⟨c, k, i, f, a, cell, h1, h2, h3, h4, h5, h6, h7, h8, h9⟩ := Cond.laysStatic_spec hl
  exact ⟨c, k, i, f, a, cell, h1, h2, h3, h4, h5, h6, h7, h8, h9, hA a (Array.getElem?_eq_some_iff.mp h5).1⟩
theorem vx_isRef {C n d : String} {v : Value} {A : Nat → Prop} {s : State} {args : Array Value} (h : va_Z C n d v A s s.heap) (hv : v.isRef = true) : (Cond.isRef (.static C n d)).before args s = true := by
  obtain ⟨cf, kf, fi, f, a, cell, h1, h2, h3, h4, h5, h6, h7, -⟩ := h
  have he : (Term.static C n d).eval args s none [] s = some v := by
    simp [Term.eval, State.fieldNamed?, h1, h2, h4, h5, h6, h7]
  simp only [Cond.before, Cond.holds, Cond.value, he]
  cases v <;> simp_all [Value.isRef]
theorem vx_isRefq {C n d : String} {A : Nat → Prop} {s : State} {args : Array Value} (h : va_Zq C n d A s s.heap) : (Cond.isRef (.static C n d)).before args s = true := by
  rcases h with h | ⟨t, h⟩
  · exact vx_isRef h rfl
  · exact vx_isRef h rfl
/-- the same frame, seen from here: as if the method were called anew in this heap -/
theorem vx_rebase {T : State} (X : Stand p l e R s m args below meth c T locs cells slots) {R' : Room} (hf : R'.frames ≤ R.frames) (hl : R'.locals ≤ R.locals) (hc : cells + R'.cells ≤ R.cells) (hs : slots + R'.slots ≤ R.slots) :
    Stand p l e R' ((T.setVm s.vm).setFrames (.invoking m args :: below)) m args below meth c T [] 0 0 := by
  have htop : (T.setVm s.vm).topJava?.isSome := X.here.top
  have hF : ((T.setVm s.vm).setFrames (.invoking m args :: below)).frames = .invoking m args :: below := State.frames_setFrames _ (State.cur_lt_of_top htop)
  obtain ⟨g₀, hg0⟩ := Option.isSome_iff_exists.mp htop
  obtain ⟨r, hr⟩ := State.topJava?_eq_some.mp hg0
  have hl9 : e.platform.stackLimits (T.setVm s.vm).me = e.platform.stackLimits s.me := X.limits
  have hb9 : (T.setVm s.vm).me.stackBytes = s.me.stackBytes := X.bytes
  refine ⟨X.admits, X.cas, X.clock, hF, ?_, X.hears, X.method, X.code, X.here, X.tail, X.warmed, ?_, ?_, ?_⟩
  · have h := X.room
    have hU : ((T.setVm s.vm).setFrames (.invoking m args :: below)).localsInUse = s.localsInUse := by
      rw [State.localsInUse_invoking hF (meth := meth) (c := c) X.method X.code, State.localsInUse_invoking X.frames X.method X.code]
    simp only [State.hasRoom, Bool.and_eq_true, decide_eq_true_eq] at h ⊢
    obtain ⟨⟨⟨⟨h1, h2, h3, h4, h5, h6⟩, h7⟩, h8⟩, h9⟩ := h
    rw [X.frames, List.length_cons] at h2 h3
    have q1 := X.heapSize
    have q2 := X.used
    simp only [hF, hU, List.length_cons, State.stackLimits_setFrames, State.stackBytes_setFrames, hl9, hb9]
    refine ⟨⟨⟨⟨by omega, by omega, by omega, by omega, by omega, h6⟩, ?_⟩, ?_⟩, X.book⟩
    · show T.heap.size + R'.cells ≤ e.platform.maxCells
      omega
    · show T.slotsUsed + R'.slots ≤ e.platform.maxSlots
      omega
  · rw [State.stackLimits_setFrames]; rfl
  · rw [State.stackBytes_setFrames]; rfl
  · refine ⟨?_, Nat.le_refl _, Nat.le_refl _, ?_, ?_, fun a c9 h9 => ⟨c9, h9, rfl, rfl, fun _ _ => rfl⟩⟩
    · obtain ⟨t, ht, -⟩ := State.frames_cons hr
      show T.setVm s.vm = { ((T.setVm s.vm).setFrames (.invoking m args :: below)).setFrames (T.setVm s.vm).frames with heap := T.heap, slotsUsed := T.slotsUsed }
      rw [State.setFrames_setFrames, State.setFrames_self ht]
      rfl
    · show T.slotsUsed = T.slotsUsed + ((T.heap.toList.drop T.heap.size).map (·.slots.size)).sum
      rw [List.drop_eq_nil_of_le (Nat.le_of_eq Array.length_toList)]
      rfl
    · show ((T.heap.toList.drop T.heap.size).map (·.slots.size)).sum ≤ 0
      rw [List.drop_eq_nil_of_le (Nat.le_of_eq Array.length_toList)]
      exact Nat.le_refl _
/-- 'throw new E()': new; dup; invokespecial; athrow -/
theorem vx_throw0 {cc : ByteArray} {pc : Nat} (hexec : p.tables.exec = Jvm.exec) (hb : c.code = cc) (hl : l.stackTraces = false) {own cls : String} {names : List String} {ik ic mc ms : Nat} {A : Nat → Prop}
    (hown : s.vm.findClass own = some m.cls) (hcls : Bundle.fit cls = true) (hnames : ∀ n ∈ names, Bundle.fit n = true)
    (hk : (Cond.classLink own ik cls).before args s = true) (hini : (Cond.initialized cls).before args s = true) (hat : ∀ w ∈ vx_at0 own ic cls names, w.before args s = true)
    (hgood : ∀ w ∈ Cond.classLink own ik cls :: Cond.initialized cls :: vx_at0 own ic cls names, vx_ot w = true)
    (hU : vx_Zq Bundle.tN "UNASSIGNED_STACK" Bundle.steD A s s.heap) (hN : vx_Zq Bundle.tN "SUPPRESSED_SENTINEL" Bundle.listD A s s.heap) (hS : va_S A s.heap H locs) (hsize : ls.size = c.maxLocals)
    (d0 : decode cc pc = .ok (.new ik, 3)) (d3 : decode cc (pc + 3) = .ok (.dup, 1)) (d4 : decode cc (pc + 4) = .ok (.invokespecial ic, 3)) (d7 : decode cc (pc + 7) = .ok (.athrow, 1))
    (hout : ∀ x ∈ c.exceptionTable.toList, covers x (pc + 7) = false)
    (hRframes : names.length + 3 < R.frames) (hRlocals : (rest.map fun v => v.category).sum + (13 * (names.length + 1) + 42) ≤ R.locals) (hRcells : cells + 1 ≤ R.cells) (hRslots : slots + 6 ≤ R.slots) (hlocks : meth.locks = false)
    (hx : ∀ t : State, s.vm.Alike t.vm → H.size ≤ t.heap.size → (∀ q : Nat, q < H.size → t.heap[q]? = H[q]?) → XC cls s t)
    (hf : ∀ z ∈ locs, free z.base) (hc : cells + 1 ≤ mc) (hs : slots + 6 ≤ ms) :
    W p l e R s m args below meth c H locs cells slots (vx_MQ below Qc XC args s mc ms free) (F0 m pc ls rest) := by
  intro T hT X
  have htr : e.platform.stackTraces = false := (show e.platform.stackTraces = l.stackTraces by rw [X.admits.platform]).trans hl
  have Y := vx_rebase X (R' := { frames := R.frames, locals := R.locals, cells := 1, slots := 6 }) (Nat.le_refl _) (Nat.le_refl _) hRcells hRslots
  obtain ⟨s', hA⟩ : ∃ z, z = (T.setVm s.vm).setFrames (.invoking m args :: below) := ⟨_, rfl⟩
  rw [← hA] at Y
  have hvm : s'.vm = s.vm := by rw [hA]; rfl
  have hhp : s'.heap = H := by rw [hA]; exact hT
  have hW0 : s.WarmedH s'.vm := by rw [hvm]; exact State.WarmedH.refl s
  have hat' : ∀ w ∈ vx_at0 own ic cls names, w.before args s' = true := fun w hw => vx_ot_at hW0 hvm.symm (hgood w (List.mem_cons_of_mem _ (List.mem_cons_of_mem _ hw))) (hat w hw)
  have hk' : (Cond.classLink own ik cls).before args s' = true := vx_ot_at hW0 hvm.symm (hgood _ List.mem_cons_self) hk
  have hini' : (Cond.initialized cls).before args s' = true := vx_ot_at hW0 hvm.symm (hgood _ (List.mem_cons_of_mem _ List.mem_cons_self)) hini
  have hU' : vx_Zq Bundle.tN "UNASSIGNED_STACK" Bundle.steD A s' s'.heap := by rw [hhp]; exact vx_Zq.moved hW0.alike (hU.kept hS.2.1)
  have hN' : vx_Zq Bundle.tN "SUPPRESSED_SENTINEL" Bundle.listD A s' s'.heap := by rw [hhp]; exact vx_Zq.moved hW0.alike (hN.kept hS.2.1)
  have h : ∀ w ∈ Bundle.ownAtoms0 own ic cls names, w.before args s' = true := vx_own hat' (vx_isRefq hU'.1) (vx_isRefq hN'.1) hU'.2.word hN'.2.word
  have hown' : s'.vm.findClass own = some m.cls := by rw [hvm]; exact hown
  have hins : (Cond.instantiable cls 6).before args s' = true := h _ (by simp [Bundle.ownAtoms0])
  obtain ⟨vm₁, cX, kX, hfX, hkX, -, -, X₁, st1⟩ := Y.newCold hexec (own := own) (C := cls) (index := ik) (n := 6) hown' hk' hins hini'
    (g := F0 m pc ls rest) rfl (by rw [hb]; exact d0) (Nat.le_refl _) (Nat.le_refl _)
  generalize hT1 : (T.setVm vm₁).pushCell { cls := cX, slots := kX.instanceTypes.map defaultValue, vm := .none } = T1 at X₁ st1
  have hcat : (Value.ref T.heap.size).category = 1 := rfl
  have hcellA : T1.heap[T.heap.size]? = some (freshCell cX kX) := by rw [← hT1]; exact State.heap_pushCell_size _ _
  have d3' : decode c.code (pc + 3) = .ok (.dup, 1) := by rw [hb]; exact d3
  obtain ⟨U, hsteps, hrun, hend, hW, hsame, ce, hce, hO⟩ := X₁.ctorThrow0 hexec htr (own := own) (cls := cls) (names := names) (ic := ic) hown' hcls hnames h (fun x hx => nomatch hx) hfX hkX hcellA (by rw [hhp, hT]; exact Nat.le_refl _)
    (g := { method := m, pc := pc + 4, locals := ls, stack := .ref T.heap.size :: .ref T.heap.size :: rest, locked := none }) rfl hsize rfl rfl (rest := rest) rfl
    (by rw [hb]; exact d4) (by rw [hb]; exact d7) hout hRframes (by simp only [List.map_cons, List.sum_cons, hcat]; omega) hlocks
  obtain ⟨f1, f2⟩ := vx_frame hsame
  rw [hhp] at f1 f2
  have hWs : s.WarmedH U.vm := State.WarmedH.trans hW0 hW
  have hcl : s.vm.findClass cls = some ce.cls := by
    have h9 := hO.cls
    rw [hvm] at h9
    exact h9
  have hall : s.sameButNew ({ U with vm := s.vm } : State) locs mc ms := by
    subst hA
    obtain ⟨e1, e2⟩ := hsame
    rw [State.setFrames_setFrames] at e1
    have h2 : (T.setVm s.vm).sameButNew ({ U with vm := s.vm } : State) [] (0 + 1) (0 + 6) := ⟨e1, e2⟩
    have h3 := X.same.trans h2
    rw [List.append_nil] at h3
    exact h3.mono hc hs
  refine ⟨U, ?_, .threw T.heap.size, hrun, hend, Or.inr ⟨T.heap.size, rfl, cls, ce, locs, hx U hWs.alike f1 (fun q hq => f2 q hq (fun z hz => nomatch hz)), hce, hO.vm, hcl, hWs, hall, hf⟩⟩
  refine st1 _ ?_
  show Steps p.tables e below (T1.setTop { method := m, pc := pc + 3, locals := ls, stack := .ref T.heap.size :: rest, locked := none }) _
  jvm_step X₁.here [X₁.here.top, hexec, d3', Value.category]
  exact hsteps
/-- 'throw new E("text")': new; dup; ldc; invokespecial; athrow -/
theorem vx_throwS {cc : ByteArray} {pc : Nat} (hexec : p.tables.exec = Jvm.exec) (hb : c.code = cc) (hl : l.stackTraces = false) {own cls text : String} {names : List String} {ik is ic mc ms sa : Nat} {A : Nat → Prop}
    (hown : s.vm.findClass own = some m.cls) (hcls : Bundle.fit cls = true) (hnames : ∀ n ∈ names, Bundle.fit n = true)
    (hk : (Cond.classLink own ik cls).before args s = true) (hini : (Cond.initialized cls).before args s = true) (hstr : vk_R own is text sa s) (hat : ∀ w ∈ vx_atS own ic cls names, w.before args s = true)
    (hgood : ∀ w ∈ Cond.classLink own ik cls :: Cond.initialized cls :: vx_atS own ic cls names, vx_ot w = true)
    (hU : vx_Zq Bundle.tN "UNASSIGNED_STACK" Bundle.steD A s s.heap) (hN : vx_Zq Bundle.tN "SUPPRESSED_SENTINEL" Bundle.listD A s s.heap) (hS : va_S A s.heap H locs) (hsize : ls.size = c.maxLocals)
    (d0 : decode cc pc = .ok (.new ik, 3)) (d3 : decode cc (pc + 3) = .ok (.dup, 1)) (d4 : decode cc (pc + 4) = .ok (.ldc is, 2)) (d6 : decode cc (pc + 6) = .ok (.invokespecial ic, 3)) (d9 : decode cc (pc + 9) = .ok (.athrow, 1))
    (hout : ∀ x ∈ c.exceptionTable.toList, covers x (pc + 9) = false)
    (hRframes : names.length + 3 < R.frames) (hRlocals : (rest.map fun v => v.category).sum + (13 * (names.length + 1) + 43) ≤ R.locals) (hRcells : cells + 1 ≤ R.cells) (hRslots : slots + 6 ≤ R.slots) (hlocks : meth.locks = false)
    (hx : ∀ t : State, s.vm.Alike t.vm → H.size ≤ t.heap.size → (∀ q : Nat, q < H.size → t.heap[q]? = H[q]?) → XC cls s t)
    (hf : ∀ z ∈ locs, free z.base) (hc : cells + 1 ≤ mc) (hs : slots + 6 ≤ ms) :
    W p l e R s m args below meth c H locs cells slots (vx_MQ below Qc XC args s mc ms free) (F0 m pc ls rest) := by
  intro T hT X
  have htr : e.platform.stackTraces = false := (show e.platform.stackTraces = l.stackTraces by rw [X.admits.platform]).trans hl
  have Y := vx_rebase X (R' := { frames := R.frames, locals := R.locals, cells := 1, slots := 6 }) (Nat.le_refl _) (Nat.le_refl _) hRcells hRslots
  obtain ⟨s', hA⟩ : ∃ z, z = (T.setVm s.vm).setFrames (.invoking m args :: below) := ⟨_, rfl⟩
  rw [← hA] at Y
  have hvm : s'.vm = s.vm := by rw [hA]; rfl
  have hhp : s'.heap = H := by rw [hA]; exact hT
  have hW0 : s.WarmedH s'.vm := by rw [hvm]; exact State.WarmedH.refl s
  have hat' : ∀ w ∈ vx_atS own ic cls names, w.before args s' = true := fun w hw => vx_ot_at hW0 hvm.symm (hgood w (List.mem_cons_of_mem _ (List.mem_cons_of_mem _ hw))) (hat w hw)
  have hk' : (Cond.classLink own ik cls).before args s' = true := vx_ot_at hW0 hvm.symm (hgood _ List.mem_cons_self) hk
  have hini' : (Cond.initialized cls).before args s' = true := vx_ot_at hW0 hvm.symm (hgood _ (List.mem_cons_of_mem _ List.mem_cons_self)) hini
  have hU' : vx_Zq Bundle.tN "UNASSIGNED_STACK" Bundle.steD A s' s'.heap := by rw [hhp]; exact vx_Zq.moved hW0.alike (hU.kept hS.2.1)
  have hN' : vx_Zq Bundle.tN "SUPPRESSED_SENTINEL" Bundle.listD A s' s'.heap := by rw [hhp]; exact vx_Zq.moved hW0.alike (hN.kept hS.2.1)
  have h : ∀ w ∈ Bundle.ownAtoms own ic cls names, w.before args s' = true := vx_own hat' (vx_isRefq hU'.1) (vx_isRefq hN'.1) hU'.2.word hN'.2.word
  have hown' : s'.vm.findClass own = some m.cls := by rw [hvm]; exact hown
  have hins : (Cond.instantiable cls 6).before args s' = true := h _ (by simp [Bundle.ownAtoms])
  obtain ⟨vm₁, cX, kX, hfX, hkX, -, -, X₁, st1⟩ := Y.newCold hexec (own := own) (C := cls) (index := ik) (n := 6) hown' hk' hins hini'
    (g := F0 m pc ls rest) rfl (by rw [hb]; exact d0) (Nat.le_refl _) (Nat.le_refl _)
  generalize hT1 : (T.setVm vm₁).pushCell { cls := cX, slots := kX.instanceTypes.map defaultValue, vm := .none } = T1 at X₁ st1
  have hcat : (Value.ref T.heap.size).category = 1 := rfl
  have hcellA : T1.heap[T.heap.size]? = some (freshCell cX kX) := by rw [← hT1]; exact State.heap_pushCell_size _ _
  have d3' : decode c.code (pc + 3) = .ok (.dup, 1) := by rw [hb]; exact d3
  have d4' : decode c.code (pc + 4) = .ok (.ldc is, 2) := by rw [hb]; exact d4
  have hstr' : vk_R own is text sa s' := vk_R.warm hW0 hstr
  obtain ⟨U, hsteps, hrun, hend, hW, hsame, ce, hce, hO⟩ := X₁.ctorThrowS hexec htr (own := own) (cls := cls) (names := names) (ic := ic) hown' hcls hnames h (fun x hx => nomatch hx) hfX hkX hcellA (by rw [hhp, hT]; exact Nat.le_refl _) (msg := .ref sa) rfl
    (g := { method := m, pc := pc + 6, locals := ls, stack := .ref sa :: .ref T.heap.size :: .ref T.heap.size :: rest, locked := none }) rfl hsize rfl rfl (rest := rest) rfl
    (by rw [hb]; exact d6) (by rw [hb]; exact d9) hout hRframes (by simp only [List.map_cons, List.sum_cons, hcat]; omega) hlocks
  obtain ⟨f1, f2⟩ := vx_frame hsame
  rw [hhp] at f1 f2
  have hWs : s.WarmedH U.vm := State.WarmedH.trans hW0 hW
  have hcl : s.vm.findClass cls = some ce.cls := by
    have h9 := hO.cls
    rw [hvm] at h9
    exact h9
  have hall : s.sameButNew ({ U with vm := s.vm } : State) locs mc ms := by
    subst hA
    obtain ⟨e1, e2⟩ := hsame
    rw [State.setFrames_setFrames] at e1
    have h2 : (T.setVm s.vm).sameButNew ({ U with vm := s.vm } : State) [] (0 + 1) (0 + 6) := ⟨e1, e2⟩
    have h3 := X.same.trans h2
    rw [List.append_nil] at h3
    exact h3.mono hc hs
  refine ⟨U, ?_, .threw T.heap.size, hrun, hend, Or.inr ⟨T.heap.size, rfl, cls, ce, locs, hx U hWs.alike f1 (fun q hq => f2 q hq (fun z hz => nomatch hz)), hce, hO.vm, hcl, hWs, hall, hf⟩⟩
  refine st1 _ ?_
  show Steps p.tables e below (T1.setTop { method := m, pc := pc + 3, locals := ls, stack := .ref T.heap.size :: rest, locked := none }) _
  jvm_step X₁.here [X₁.here.top, hexec, d3', Value.category]
  exact X₁.ldcString hexec (own := own) (text := text) (index := is) (a := sa) hown' hstr'.1 hstr'.2
    (g := { method := m, pc := pc + 4, locals := ls, stack := .ref T.heap.size :: .ref T.heap.size :: rest, locked := none }) rfl d4' _ hsteps
/-- 'throw new E("text")', the text by a wide index -/
theorem vx_throwSW {cc : ByteArray} {pc : Nat} (hexec : p.tables.exec = Jvm.exec) (hb : c.code = cc) (hl : l.stackTraces = false) {own cls text : String} {names : List String} {ik is ic mc ms sa : Nat} {A : Nat → Prop}
    (hown : s.vm.findClass own = some m.cls) (hcls : Bundle.fit cls = true) (hnames : ∀ n ∈ names, Bundle.fit n = true)
    (hk : (Cond.classLink own ik cls).before args s = true) (hini : (Cond.initialized cls).before args s = true) (hstr : vk_R own is text sa s) (hat : ∀ w ∈ vx_atS own ic cls names, w.before args s = true)
    (hgood : ∀ w ∈ Cond.classLink own ik cls :: Cond.initialized cls :: vx_atS own ic cls names, vx_ot w = true)
    (hU : vx_Zq Bundle.tN "UNASSIGNED_STACK" Bundle.steD A s s.heap) (hN : vx_Zq Bundle.tN "SUPPRESSED_SENTINEL" Bundle.listD A s s.heap) (hS : va_S A s.heap H locs) (hsize : ls.size = c.maxLocals)
    (d0 : decode cc pc = .ok (.new ik, 3)) (d3 : decode cc (pc + 3) = .ok (.dup, 1)) (d4 : decode cc (pc + 4) = .ok (.ldc_w is, 3)) (d7 : decode cc (pc + 7) = .ok (.invokespecial ic, 3)) (d10 : decode cc (pc + 10) = .ok (.athrow, 1))
    (hout : ∀ x ∈ c.exceptionTable.toList, covers x (pc + 10) = false)
    (hRframes : names.length + 3 < R.frames) (hRlocals : (rest.map fun v => v.category).sum + (13 * (names.length + 1) + 43) ≤ R.locals) (hRcells : cells + 1 ≤ R.cells) (hRslots : slots + 6 ≤ R.slots) (hlocks : meth.locks = false)
    (hx : ∀ t : State, s.vm.Alike t.vm → H.size ≤ t.heap.size → (∀ q : Nat, q < H.size → t.heap[q]? = H[q]?) → XC cls s t)
    (hf : ∀ z ∈ locs, free z.base) (hc : cells + 1 ≤ mc) (hs : slots + 6 ≤ ms) :
    W p l e R s m args below meth c H locs cells slots (vx_MQ below Qc XC args s mc ms free) (F0 m pc ls rest) := by
  intro T hT X
  have htr : e.platform.stackTraces = false := (show e.platform.stackTraces = l.stackTraces by rw [X.admits.platform]).trans hl
  have Y := vx_rebase X (R' := { frames := R.frames, locals := R.locals, cells := 1, slots := 6 }) (Nat.le_refl _) (Nat.le_refl _) hRcells hRslots
  obtain ⟨s', hA⟩ : ∃ z, z = (T.setVm s.vm).setFrames (.invoking m args :: below) := ⟨_, rfl⟩
  rw [← hA] at Y
  have hvm : s'.vm = s.vm := by rw [hA]; rfl
  have hhp : s'.heap = H := by rw [hA]; exact hT
  have hW0 : s.WarmedH s'.vm := by rw [hvm]; exact State.WarmedH.refl s
  have hat' : ∀ w ∈ vx_atS own ic cls names, w.before args s' = true := fun w hw => vx_ot_at hW0 hvm.symm (hgood w (List.mem_cons_of_mem _ (List.mem_cons_of_mem _ hw))) (hat w hw)
  have hk' : (Cond.classLink own ik cls).before args s' = true := vx_ot_at hW0 hvm.symm (hgood _ List.mem_cons_self) hk
  have hini' : (Cond.initialized cls).before args s' = true := vx_ot_at hW0 hvm.symm (hgood _ (List.mem_cons_of_mem _ List.mem_cons_self)) hini
  have hU' : vx_Zq Bundle.tN "UNASSIGNED_STACK" Bundle.steD A s' s'.heap := by rw [hhp]; exact vx_Zq.moved hW0.alike (hU.kept hS.2.1)
  have hN' : vx_Zq Bundle.tN "SUPPRESSED_SENTINEL" Bundle.listD A s' s'.heap := by rw [hhp]; exact vx_Zq.moved hW0.alike (hN.kept hS.2.1)
  have h : ∀ w ∈ Bundle.ownAtoms own ic cls names, w.before args s' = true := vx_own hat' (vx_isRefq hU'.1) (vx_isRefq hN'.1) hU'.2.word hN'.2.word
  have hown' : s'.vm.findClass own = some m.cls := by rw [hvm]; exact hown
  have hins : (Cond.instantiable cls 6).before args s' = true := h _ (by simp [Bundle.ownAtoms])
  obtain ⟨vm₁, cX, kX, hfX, hkX, -, -, X₁, st1⟩ := Y.newCold hexec (own := own) (C := cls) (index := ik) (n := 6) hown' hk' hins hini'
    (g := F0 m pc ls rest) rfl (by rw [hb]; exact d0) (Nat.le_refl _) (Nat.le_refl _)
  generalize hT1 : (T.setVm vm₁).pushCell { cls := cX, slots := kX.instanceTypes.map defaultValue, vm := .none } = T1 at X₁ st1
  have hcat : (Value.ref T.heap.size).category = 1 := rfl
  have hcellA : T1.heap[T.heap.size]? = some (freshCell cX kX) := by rw [← hT1]; exact State.heap_pushCell_size _ _
  have d3' : decode c.code (pc + 3) = .ok (.dup, 1) := by rw [hb]; exact d3
  have d4' : decode c.code (pc + 4) = .ok (.ldc_w is, 3) := by rw [hb]; exact d4
  have hstr' : vk_R own is text sa s' := vk_R.warm hW0 hstr
  obtain ⟨U, hsteps, hrun, hend, hW, hsame, ce, hce, hO⟩ := X₁.ctorThrowS hexec htr (own := own) (cls := cls) (names := names) (ic := ic) hown' hcls hnames h (fun x hx => nomatch hx) hfX hkX hcellA (by rw [hhp, hT]; exact Nat.le_refl _) (msg := .ref sa) rfl
    (g := { method := m, pc := pc + 7, locals := ls, stack := .ref sa :: .ref T.heap.size :: .ref T.heap.size :: rest, locked := none }) rfl hsize rfl rfl (rest := rest) rfl
    (by rw [hb]; exact d7) (by rw [hb]; exact d10) hout hRframes (by simp only [List.map_cons, List.sum_cons, hcat]; omega) hlocks
  obtain ⟨f1, f2⟩ := vx_frame hsame
  rw [hhp] at f1 f2
  have hWs : s.WarmedH U.vm := State.WarmedH.trans hW0 hW
  have hcl : s.vm.findClass cls = some ce.cls := by
    have h9 := hO.cls
    rw [hvm] at h9
    exact h9
  have hall : s.sameButNew ({ U with vm := s.vm } : State) locs mc ms := by
    subst hA
    obtain ⟨e1, e2⟩ := hsame
    rw [State.setFrames_setFrames] at e1
    have h2 : (T.setVm s.vm).sameButNew ({ U with vm := s.vm } : State) [] (0 + 1) (0 + 6) := ⟨e1, e2⟩
    have h3 := X.same.trans h2
    rw [List.append_nil] at h3
    exact h3.mono hc hs
  refine ⟨U, ?_, .threw T.heap.size, hrun, hend, Or.inr ⟨T.heap.size, rfl, cls, ce, locs, hx U hWs.alike f1 (fun q hq => f2 q hq (fun z hz => nomatch hz)), hce, hO.vm, hcl, hWs, hall, hf⟩⟩
  refine st1 _ ?_
  show Steps p.tables e below (T1.setTop { method := m, pc := pc + 3, locals := ls, stack := .ref T.heap.size :: rest, locked := none }) _
  jvm_step X₁.here [X₁.here.top, hexec, d3', Value.category]
  exact X₁.ldcStringW hexec (own := own) (text := text) (index := is) (a := sa) hown' hstr'.1 hstr'.2
    (g := { method := m, pc := pc + 4, locals := ls, stack := .ref T.heap.size :: .ref T.heap.size :: rest, locked := none }) rfl d4' _ hsteps
end Ends
section Bodies
variable {l : Launch}
theorem vx_ofW {y : MethodName} {ws ws' : List Cond} {rm : Room} {Pc : Array Value → State → Prop} {Qc : Array Value → State → Outcome → State → Prop} {XC : String → State → State → Prop} {mc ms : Nat} {free : Addr → Prop} {cc : ByteArray} {maxL : Nat} {ret : Option FieldType}
    (hy : plainName y.cls = true) (hw : ws = Cond.code y cc maxL ret :: ws')
    (body : ∀ p e s m args below meth c s₁, BodyLoose p l y (headSpec ws rm) cc maxL ret e s m args below meth c s₁ → c.maxLocals = maxL → (∀ x ∈ c.exceptionTable.toList, False) → Pc args s →
      W p l e (headSpec ws rm).room s m args below meth c s.heap [] 0 0 (vx_MQ below Qc XC args s mc ms free) (entryFrame m args maxL)) : vx_Met l y ws rm Pc Qc XC mc ms free := by
  refine MetFree.of_bodyS (code := cc) (maxLocals := maxL) (ret := ret) hy ?_ ?_
  · intro args s m h hn
    obtain ⟨meth, c, h1, h2, h3, h4, h5, h6, -, -⟩ := Cond.code_spec hn (atoms_spec (ws := ws) h _ (by rw [hw]; exact List.mem_cons_self))
    exact ⟨meth, c, h1, h2, h3, h4, h5, h6⟩
  · intro p e s m args below meth c s₁ B hml hP _
    have hh0 : s₁.heap = s.heap := by rw [B.state]; rfl
    have ht : ∀ x ∈ c.exceptionTable.toList, False := by
      obtain ⟨meth9, c9, h1, h2, -, -, -, -, h7, -⟩ := Cond.code_spec B.named (atoms_spec (ws := ws) B.pre _ (by rw [hw]; exact List.mem_cons_self))
      cases Option.some.inj (h1.symm.trans B.method)
      cases Option.some.inj (h2.symm.trans (Stand.of_body B).code)
      intro x hx
      rw [Array.isEmpty_iff.mp h7] at hx
      cases hx
    obtain ⟨t, a1, o, b1, b2, b3⟩ := body p e s m args below meth c s₁ B hml ht hP s₁ hh0 (Stand.of_body B)
    exact ⟨t, o, a1, b1, b2, b3⟩
/-- the table of a body with handlers -/
theorem vx_table {p : Program} {x y : MethodName} {S : Spec} {cc bytes : ByteArray} {maxL maxL' : Nat} {ret ret' : Option FieldType} {e : Env} {s s₁ : State} {m : MethodId} {args : Array Value} {below : List Frame} {meth : Method} {c : Code} {hh : List (Nat × Nat × Nat × Nat)}
    (B : BodyLoose p l y S cc maxL ret e s m args below meth c s₁) (h : (Cond.codeWith y bytes maxL' ret' hh).before args s = true) : c.exceptionTable.toList = tableOf hh := by
  obtain ⟨m9, meth9, c9, hn9, h1, h2, -, -, h6, -⟩ := Cond.codeWith_spec h
  cases Option.some.inj (hn9.symm.trans B.named)
  cases Option.some.inj (h1.symm.trans B.method)
  cases Option.some.inj (h2.symm.trans (Stand.of_body B).code)
  rw [← h6, table_eq]
end Bodies
end VXA
/-! ===== END ===== -/
/-! ===== BEGIN a static call of a method with an exception table ===== -/
section VXS
variable {p : Program} {l : Launch} {e : Env} {R : Room} {s : State} {m : MethodId} {args : Array Value} {below : List Frame} {meth : Method} {c : Code} {T : State} {H : Heap} {locs : List Loc} {cells slots : Nat}
abbrev vx_CSW (R : Room) (s : State) (args : Array Value) (own : String) (index : Nat) (y : MethodName) (bytes : ByteArray) (maxL : Nat) (ret : Option FieldType) (hh : List (Nat × Nat × Nat × Nat)) (ws : List Cond) (rm : Room) (mc ms n : Nat) : Prop :=
  (rm.cells = mc ∧ rm.slots = ms ∧ rm.frames + 1 ≤ R.frames ∧ 8 + (maxL + 11) + rm.locals ≤ R.locals ∧ (∀ w ∈ ws, ∀ (a' : Array Value) (U : State), s.WarmedH U.vm → w.before a' U = true) ∧ Cond.codeWith y bytes maxL ret hh ∈ ws) ∧
  (Cond.codeWith y bytes maxL ret hh).before args s = true ∧ (Cond.initialized y.cls).before args s = true ∧ (y.cls ≠ "java/lang/invoke/MethodHandle" ∧ y.cls ≠ "java/lang/invoke/VarHandle") ∧
  (∀ sig, parseMethodDescriptor y.desc = some sig → n = sig.parameters.length) ∧ (Cond.methodLink own index y).before args s = true ∧ (Cond.static y).before args s = true
theorem vx_cwSW {own : String} {index maxL mc ms : Nat} {y : MethodName} {bytes : ByteArray} {ret : Option FieldType} {hh : List (Nat × Nat × Nat × Nat)} {Ts ws ws' : List Cond} {rm : Room} (n : Nat) (ht : ∀ w ∈ Ts, w.before args s = true) (hT : GoodIn Ts (va_wsS own index y ws)) (hw : ws = Cond.codeWith y bytes maxL ret hh :: ws') (hrc : rm.cells = mc) (hrs : rm.slots = ms)
    (hd : y.cls ≠ "java/lang/invoke/MethodHandle" ∧ y.cls ≠ "java/lang/invoke/VarHandle" ∧ (parseMethodDescriptor y.desc).map (fun d => d.parameters.length) = some n) (hR : rm.frames + 1 ≤ R.frames ∧ 8 + (maxL + 11) + rm.locals ≤ R.locals) :
    vx_CSW R s args own index y bytes maxL ret hh ws rm mc ms n := by
  have ok : ∀ w ∈ va_wsS own index y ws, w.before args s = true := fun w h => ht w (hT w h).1
  have hG : GoodIn Ts ws := fun w h => hT w (by unfold va_wsS; exact List.mem_append_right _ h)
  have hc : Cond.codeWith y bytes maxL ret hh ∈ ws := by rw [hw]; exact List.mem_cons_self
  refine ⟨⟨hrc, hrs, hR.1, hR.2, pay_in ht hG, hc⟩, ht _ (hG _ hc).1, ok _ (by simp [va_wsS]), ⟨hd.1, hd.2.1⟩, fun sig h => ?_, ok _ (by simp [va_wsS]), ok _ (by simp [va_wsS])⟩
  have h2 := hd.2.2
  rw [h] at h2
  exact (Option.some.inj h2).symm
theorem vx_callSW (X : Stand p l e R s m args below meth c T locs cells slots) (hexec : p.tables.exec = Jvm.exec) {own : String} {index : Nat} {y : MethodName} {bytes : ByteArray} {maxL : Nat} {ret : Option FieldType} {hh : List (Nat × Nat × Nat × Nat)}
    (hown : s.vm.findClass own = some m.cls) (hlink : (Cond.methodLink own index y).before args s = true) (hstat : (Cond.static y).before args s = true) (hinit : (Cond.initialized y.cls).before args s = true)
    (hcode : (Cond.codeWith y bytes maxL ret hh).before args s = true) (hy : y.cls ≠ "java/lang/invoke/MethodHandle" ∧ y.cls ≠ "java/lang/invoke/VarHandle")
    {W9 : Nat} {Pre : Pt → Array Value → Prop} {Post : Pt → Array Value → Option Value → Pt → Prop} (hK : Back l R p e below s args y 3 W9 Pre Post)
    {g : JFrame} (hg : g.method = m) (hsize : g.locals.size = c.maxLocals) {argsL rest : List Value} (hlen : ∀ sig, parseMethodDescriptor y.desc = some sig → argsL.length = sig.parameters.length)
    (hstack : g.stack = argsL.reverse ++ rest) (hW : 2 * g.monitorRoom + (rest.map fun v => v.category).sum ≤ W9) (hdg : decode c.code g.pc = .ok (.invokestatic index, 3))
    (hpre : ∀ vm₁, s.WarmedH vm₁ → Pre ⟨T.setVm vm₁, locs, cells, slots⟩ argsL.toArray) :
    ∃ (v : Option Value) (vm₁ : Vm) (B : Pt), s.WarmedH vm₁ ∧ Stand p l e R s m args below meth c B.U B.locs B.cells B.slots ∧ Post ⟨T.setVm vm₁, locs, cells, slots⟩ argsL.toArray v B ∧
      ∀ target, Steps p.tables e below (B.U.setTop { g with pc := g.pc + 3, stack := v.toList ++ rest }) target → Steps p.tables e below (T.setTop g) target := by
  obtain ⟨mk, methM, cM, hnamed, hmethM, -, -, -, -, -, -, hsigM⟩ := Cond.codeWith_spec hcode
  have hstatic : methM.isStatic = true := Cond.static_spec hnamed hmethM hstat
  obtain ⟨kP, hkP, -⟩ := className_of_methodNamed hnamed
  have hinitP : kP.init = .initialized := Cond.initialized_spec (findClass_of_methodNamed hnamed) hkP hinit
  obtain ⟨vm₁, X₁, hstep₁⟩ := X.invokestatic hexec hown hlink hnamed hmethM hstatic hkP hinitP hy (g := g) hg (argsL := argsL) (rest := rest) (hlen _ hsigM) hstack hdg
  obtain ⟨v, B, X', hpost, hsteps⟩ := hK m meth c ⟨T.setVm vm₁, locs, cells, slots⟩ { g with stack := rest } (.invokestatic index) mk argsL.toArray X₁ hg hsize hdg hW (X₁.named hnamed) (hpre vm₁ X₁.warmed)
  exact ⟨v, vm₁, B, X₁.warmed, X', hpost, fun target h => hstep₁ _ fun acts => by rw [doInvoke_state]; exact hsteps.trans h⟩
theorem vx_runSW {y : MethodName} {bytes cc : ByteArray} {maxL nL mc ms n index : Nat} {ret : Option FieldType} {hh : List (Nat × Nat × Nat × Nat)} {ws : List Cond} {rm : Room} {Pc : Array Value → State → Prop} {Qc : Array Value → State → Outcome → State → Prop} {free : Addr → Prop} {Ts : List Cond} {own : String} {As rest : List Value} {g : JFrame}
    (S : CallFix p m c cc nL s args Ts own) (hM : Met l y ws rm Pc Qc mc ms free) (cw : vx_CSW R s args own index y bytes maxL ret hh ws rm mc ms n) (hp : PreS s H Pc As)
    (hg : g.method = m) (hn : As.length = n) (hsize : g.locals.size = nL) (hstack : g.stack = As.reverse ++ rest) (hW : 2 * g.monitorRoom + (rest.map fun v => v.category).sum ≤ 8) (hdg : decode cc g.pc = .ok (.invokestatic index, 3)) (hf : cells + mc ≤ R.cells ∧ slots + ms ≤ R.slots) :
    va_Run p l e R s m args below meth c H locs cells slots mc ms g rest (Qc As.toArray) (free) := by
  obtain ⟨⟨hrc, hrs, hfr, hlo, hws, hcw⟩, hcode, hini, hy, hlen, hl, hstt⟩ := cw
  have hK : Back l R p e below s args y 3 8 (PreOf R mc ms Pc) (PostOf Qc mc ms free) := va_backW (hh := hh) (bytes := bytes) (maxL := maxL) (ret := ret) hM hp.1 hrc hrs hfr hlo hws hcw (fun a' U hW => word_at hW (Or.inl (by first | rfl | simp [Cond.onTables, Cond.keeps, Cond.steady])) hini)
  obtain ⟨hx, hb, hml, ho, -⟩ := S
  intro T hT X
  obtain ⟨v, vm₁, ⟨U', l2, c2, s2⟩, hW₁, X', ⟨g', mk, t, L, e1, e2, hq, h1, hL, h2, h3⟩, st⟩ := vx_callSW X hx (hh := hh) (bytes := bytes) (maxL := maxL) (ret := ret) ho hl hstt hini hcode hy hK hg (hsize.trans hml.symm) (argsL := As) (rest := rest) (fun sig h => hn.trans (hlen sig h)) hstack hW (by rw [hb]; exact hdg)
    (fun vm₁ hW₁ => ⟨hf.1, hf.2, hp.2 (T.setVm vm₁) hT hW₁⟩)
  dsimp only [Pt.U, Pt.locs, Pt.cells, Pt.slots] at X' e1 e2 h1 h2 h3 st
  subst h1; subst h2; subst h3
  exact ⟨v, (T.setVm vm₁).calling g' mk As.toArray, t, U', L, hT, X', hL, e1, e2, hq, st⟩
/-- not caught here, past rows that name other classes: it goes on to the caller -/
theorem vx_outP {p : Program} {l : Launch} {e : Env} {R : Room} {s : State} {m : MethodId} {args : Array Value} {below : List Frame} {meth : Method} {c : Code} {H : Heap} {locs : List Loc} {cells slots : Nat} {free : Addr → Prop} {ls : Array Slot} {rest : List Value} {Qc : Array Value → State → Outcome → State → Prop} {XC : String → State → State → Prop}
    {pc : Nat} {own E : String} {ce : Cell} {q : Addr} {mc ms : Nat} (hown : s.vm.findClass own = some m.cls) (hlocks : meth.locks = false)
    (hpass : ∀ z ∈ c.exceptionTable.toList, covers z pc = false ∨ (z.catchType ≠ 0 ∧ ∃ nm : String, (Cond.classLink own z.catchType nm).before args s = true ∧ va_Nc E nm s)) (hcell : H[q]? = some ce) (hv : ce.vm = .none) (hcl : s.vm.findClass E = some ce.cls)
    (hx : ∀ t : State, t.heap = H → s.vm.Alike t.vm → XC E s t) (hf : ∀ z ∈ locs, free z.base) (hc : cells ≤ mc) (hs : slots ≤ ms) :
    vx_W p l e R s m args below meth c H locs cells slots (vx_MQ below Qc XC args s mc ms free) (F0 m pc ls rest) q := by
  intro T hT X
  have hpl : e.platform.magicAccessors = ({} : Platform).magicAccessors := by rw [X.admits.platform]
  obtain ⟨vm', hW', X', st⟩ := X.outThrough hlocks q (g := F0 m pc ls rest) rfl rfl rfl (cell := ce) (by rw [hT]; exact hcell) (by rw [hv]; rfl)
    (by obtain ⟨k9, h9, -⟩ := Vm.findClass_spec hcl; exact ⟨k9, h9⟩) (fun z hz => by
      rcases hpass z hz with h | ⟨hz0, nm, hl1, hn1⟩
      · exact Or.inl h
      · obtain ⟨c6, hc6, hcl6⟩ := Cond.classLink_spec hown hl1 e.platform hpl
        obtain ⟨a8, b8, h1, h2, h3⟩ := hn1
        cases Option.some.inj (h1.symm.trans hcl)
        cases Option.some.inj (h2.symm.trans hc6)
        exact Or.inr ⟨hz0, _, hcl6, h3⟩)
  obtain ⟨g₀, hfr⟩ := X'.frames_eq
  have hcell9 : ((T.setVm vm').setFrames (.throwing q :: below)).heap[q]? = some ce := by
    show T.heap[q]? = some ce
    rw [hT]; exact hcell
  have hend : Ended ((T.setVm vm').setFrames (.throwing q :: below)) below (.threw q) := State.frames_setFrames _ (State.cur_lt_of_frames hfr)
  refine ⟨(T.setVm vm').setFrames (.throwing q :: below), ?_, .threw q, X'.here.running, hend, Or.inr ⟨q, rfl, E, ce, locs, hx _ hT (X'.ends _).1.alike, hcell9, hv, hcl, (X'.ends _).1, (X'.ends _).2.mono hc hs, hf⟩⟩
  rw [X.pushThrowing_eq]
  exact st
/-- a thing of a world lies in the heap -/
theorem vx_lt {D : va_G} {cl : List vw_C} {ws : va_W} {H1 : Heap} (h : va_P D cl ws H1) {k : Nat} {q : Nat × va_E} (hk : ws[k]? = some q) : q.1 < H1.size := (h k q hk).lt
end VXS
/-! ===== END ===== -/
/-! ===== BEGIN methods with a table of their own: called by a name, returning or throwing ===== -/
section VXH
/-! vx_backW, vx_callVX, vx_callSX, vx_callVW, vx_runVW, vx_runVX, vx_runSX, vx_ofWH follow the same proofs as their sisters above (Free/Laws.lean, Shelf42/LK1.lean); vx_outP calls Shelf42/NT130.lean (outThrough). -/
section
variable {l : Launch} {R : Room} {p : Program} {e : Env} {below : List Frame} {s : State} {sargs : Array Value} {y : MethodName} {len W9 : Nat}
theorem vx_backW {ws : List Cond} {rm : Room} {Pc : Array Value → State → Prop} {Qc : Array Value → State → Outcome → State → Prop} {XC : String → State → State → Prop} {mc ms : Nat} {free : Addr → Prop} {bytes : ByteArray} {maxL : Nat} {ret : Option FieldType} {hh : List (Nat × Nat × Nat × Nat)}
    (hM : vx_Met l y ws rm Pc Qc XC mc ms free) (hblind : FrameBlind Pc) (hrc : rm.cells = mc) (hrs : rm.slots = ms)
    (hframes : rm.frames + 1 ≤ R.frames) (hlocals : W9 + (maxL + 11) + rm.locals ≤ R.locals)
    (hws : ∀ w ∈ ws, ∀ a' U, s.WarmedH U.vm → w.before a' U = true) (hcode : Cond.codeWith y bytes maxL ret hh ∈ ws) (hinit : ∀ a' U, s.WarmedH U.vm → (Cond.initialized y.cls).before a' U = true) :
    vx_Back l R p e below s sargs y len W9 (PreOf R mc ms Pc) (PostOf Qc mc ms free) (vx_Post XC mc ms free) := by
  intro m meth c A g ig mk a X hg hsize hdg hW hn hp
  have h1 : (headSpec ws rm).pre.before a A.U = true := atoms_intro fun w hw => hws w hw _ _ X.warmed
  have h2 : (Cond.codeWith y bytes maxL ret hh).before a A.U = true := hws _ hcode _ _ X.warmed
  have h3 : (Cond.initialized y.cls).before a A.U = true := hinit _ _ X.warmed
  have h4 : A.cells + (headSpec ws rm).room.cells ≤ R.cells := by rw [show (headSpec ws rm).room.cells = mc from hrc]; exact hp.1
  have h5 : A.slots + (headSpec ws rm).room.slots ≤ R.slots := by rw [show (headSpec ws rm).room.slots = ms from hrs]; exact hp.2.1
  have hPc : Pc a (A.U.calling g mk a) := hblind _ _ _ _ hp.2.2
  obtain ⟨U, Ls, c0, s0⟩ := A
  dsimp only [Pt.U, Pt.locs, Pt.cells, Pt.slots] at h1 h2 h3 h4 h5 X hn hPc ⊢
  obtain ⟨m9, methY, cY, hn9, hmY, hcY, -, hlY, -⟩ := Cond.codeWith_spec h2
  cases Option.some.inj (hn9.symm.trans hn)
  obtain ⟨kY, hkY, -⟩ := className_of_methodNamed hn
  have hinitY : kY.init = .initialized := Cond.initialized_spec (findClass_of_methodNamed hn) hkY h3
  have h : At U g.method c below := by rw [hg]; exact X.here
  have hlocals9 : W9 + (maxL + 11) + (headSpec ws rm).room.locals ≤ R.locals := hlocals
  have happ : (headSpec ws rm).appliesLoose y e.platform (U.calling g mk a) = true :=
    Spec.appliesLoose_calling (g := g) h hdg hn hkY hinitY
      (X.room_calling (g := g) (R' := (headSpec ws rm).room) hsize hmY hcY hframes (by rw [hlY]; omega) h4 h5) h1
  obtain ⟨mid, hmid⟩ := h.above
  have hfr : (U.setTop g).frames = (.java g :: mid) ++ below := by rw [State.frames_setTop' g h.top, hmid]; rfl
  obtain ⟨o, s₂, hsteps, -, hend, hq⟩ := Steps.callFree hM p X.admits X.cas X.clock (acts := []) hfr happ hPc trivial
  have hq' : vx_Q Qc XC mc ms free a (U.calling g mk a) o s₂ := hq
  rw [State.frames_setTop' g h.top] at hend
  obtain ⟨g₀, hg0⟩ := Option.isSome_iff_exists.mp h.top
  obtain ⟨r, hr⟩ := State.topJava?_eq_some.mp hg0
  have hr' : (({ U with heap := s₂.heap, slotsUsed := s₂.slotsUsed } : State).setVm s₂.vm).frames = .java g₀ :: r := hr
  rcases hq' with ⟨hqc, L, hfe, hL⟩ | ⟨q, rfl, E, ce, L, hx, hce, hcv, hcl, hW₂, hsm, hL⟩
  · obtain ⟨⟨v, rfl⟩, hW₂, e2, q2, q3, q4, q5, q6⟩ := id hfe
    have e3 : s₂ = ({ (U.calling g mk a).setFrames s₂.frames with heap := s₂.heap, slotsUsed := s₂.slotsUsed } : State).setVm s₂.vm := by
      have : s₂ = ({ s₂ with vm := (U.calling g mk a).vm } : State).setVm s₂.vm := rfl
      rw [e2] at this
      exact this
    obtain ⟨c₂, i₂, len₂, hc₂, hd₂, hf₂⟩ := hend
    have hW' : U.WarmedH s₂.vm := hW₂
    have hcc : c₂ = c := by
      have h1 : s₂.code? g.method = U.code? g.method := by
        rw [State.code?_eq, State.code?_eq, hW'.alike.method?]
      exact Option.some.inj (hc₂.symm.trans (h1.trans h.code))
    subst hcc
    have hlen : len₂ = len := by rw [hdg] at hd₂; cases hd₂; rfl
    subst hlen
    have hs₂ : s₂ = (({ U with heap := s₂.heap, slotsUsed := s₂.slotsUsed } : State).setVm s₂.vm).setTop { g with pc := g.pc + len₂, stack := v.toList ++ g.stack } := by
      refine e3.trans ?_
      rw [hf₂, State.calling_eq h.top, State.setFrames_setFrames, State.setTop_of_frames _ hr', hr]
      rfl
    have hsame : U.sameButNew ({ U with heap := s₂.heap, slotsUsed := s₂.slotsUsed } : State) L mc ms := by
      refine ⟨?_, q2, q3, q4, q5, q6⟩
      obtain ⟨t, ht, -⟩ := State.frames_cons hr
      show ({ U with heap := s₂.heap, slotsUsed := s₂.slotsUsed } : State) = { U.setFrames U.frames with heap := s₂.heap, slotsUsed := s₂.slotsUsed }
      rw [State.setFrames_self ht]
    subst hg
    refine Or.inl ⟨v, ⟨(({ U with heap := s₂.heap, slotsUsed := s₂.slotsUsed } : State).setVm s₂.vm), Ls ++ L, c0 + mc, s0 + ms⟩,
      ⟨X.admits, X.cas, X.clock, X.frames, X.room, X.hears, X.method, X.code, (X.here.setHeapUsed s₂.heap s₂.slotsUsed).setVm hW'.alike, X.tail, State.WarmedH.trans X.warmed hW', X.limits, X.bytes, X.same.trans (hsame.setVm s.vm)⟩,
      ⟨g, mk, s₂, L, rfl, rfl, hqc, rfl, hL, rfl, rfl⟩, ?_⟩
    show Steps p.tables e below _ ((({ U with heap := s₂.heap, slotsUsed := s₂.slotsUsed } : State).setVm s₂.vm).setTop { g with pc := g.pc + len₂, stack := v.toList ++ g.stack })
    rw [← hs₂]
    exact hsteps
  · obtain ⟨e2, q2, q3, q4, q5, q6⟩ := id hsm
    have e3 : s₂ = ({ (U.calling g mk a).setFrames s₂.frames with heap := s₂.heap, slotsUsed := s₂.slotsUsed } : State).setVm s₂.vm := by
      have : s₂ = ({ s₂ with vm := (U.calling g mk a).vm } : State).setVm s₂.vm := rfl
      rw [e2] at this
      exact this
    have hf₂ : s₂.frames = .throwing q :: .java g :: U.frames.tail := hend
    have hW' : U.WarmedH s₂.vm := hW₂
    have hs₂ : s₂ = ((({ U with heap := s₂.heap, slotsUsed := s₂.slotsUsed } : State).setVm s₂.vm).setTop g).pushFrame (.throwing q) := by
      refine e3.trans ?_
      rw [hf₂, State.calling_eq h.top, State.setFrames_setFrames, State.pushFrame, State.frames_setTop _ hr', State.setTop_of_frames _ hr', State.setFrames_setFrames, hr]
      rfl
    have hsame : U.sameButNew ({ U with heap := s₂.heap, slotsUsed := s₂.slotsUsed } : State) L mc ms := by
      refine ⟨?_, q2, q3, q4, q5, q6⟩
      obtain ⟨t, ht, -⟩ := State.frames_cons hr
      show ({ U with heap := s₂.heap, slotsUsed := s₂.slotsUsed } : State) = { U.setFrames U.frames with heap := s₂.heap, slotsUsed := s₂.slotsUsed }
      rw [State.setFrames_self ht]
    subst hg
    refine Or.inr ⟨q, ⟨(({ U with heap := s₂.heap, slotsUsed := s₂.slotsUsed } : State).setVm s₂.vm), Ls ++ L, c0 + mc, s0 + ms⟩,
      ⟨X.admits, X.cas, X.clock, X.frames, X.room, X.hears, X.method, X.code, (X.here.setHeapUsed s₂.heap s₂.slotsUsed).setVm hW'.alike, X.tail, State.WarmedH.trans X.warmed hW', X.limits, X.bytes, X.same.trans (hsame.setVm s.vm)⟩,
      ⟨g, mk, s₂, L, E, ce, rfl, rfl, hx, hce, hcv, hcl, rfl, hL, rfl, rfl⟩, ?_⟩
    show Steps p.tables e below _ (((({ U with heap := s₂.heap, slotsUsed := s₂.slotsUsed } : State).setVm s₂.vm).setTop g).pushFrame (.throwing q))
    rw [← hs₂]
    exact hsteps
end
variable {p : Program} {l : Launch} {e : Env} {R : Room} {s : State} {m : MethodId} {args : Array Value} {below : List Frame} {meth : Method} {c : Code} {T : State} {H : Heap} {locs : List Loc} {cells slots : Nat}
theorem vx_callVX (X : Stand p l e R s m args below meth c T locs cells slots) (hexec : p.tables.exec = Jvm.exec) {own C : String} {index : Nat} {y : MethodName} {bytes : ByteArray} {maxL : Nat} {ret : Option FieldType} {hh : List (Nat × Nat × Nat × Nat)}
    (hown : s.vm.findClass own = some m.cls) (hlink : (Cond.methodLink own index y).before args s = true) (hinst : (Cond.instanceMethod y).before args s = true) (hsel : (Cond.selects C y y).before args s = true)
    (hcode : (Cond.codeWith y bytes maxL ret hh).before args s = true) (hy : y.cls ≠ "java/lang/invoke/MethodHandle" ∧ y.cls ≠ "java/lang/invoke/VarHandle")
    {W9 : Nat} {Pre : Pt → Array Value → Prop} {Post : Pt → Array Value → Option Value → Pt → Prop} {PostX : Pt → Array Value → Addr → Pt → Prop} (hK : vx_Back l R p e below s args y 3 W9 Pre Post PostX)
    {b : Addr} {cellB : Cell} (hcell : T.heap[b]? = some cellB) (hobj : cellB.vm.isStatics = false) (hcls : s.vm.findClass C = some cellB.cls)
    {g : JFrame} (hg : g.method = m) (hsize : g.locals.size = c.maxLocals) {argsL rest : List Value} (hlen : ∀ sig, parseMethodDescriptor y.desc = some sig → argsL.length = sig.parameters.length)
    (hstack : g.stack = argsL.reverse ++ .ref b :: rest) (hW : 2 * g.monitorRoom + (rest.map fun v => v.category).sum ≤ W9) (hdg : decode c.code g.pc = .ok (.invokevirtual index, 3))
    (hpre : ∀ vm₁, s.WarmedH vm₁ → Pre ⟨T.setVm vm₁, locs, cells, slots⟩ (Value.ref b :: argsL).toArray) :
    (∃ (v : Option Value) (vm₁ : Vm) (B : Pt), s.WarmedH vm₁ ∧ Stand p l e R s m args below meth c B.U B.locs B.cells B.slots ∧ Post ⟨T.setVm vm₁, locs, cells, slots⟩ (Value.ref b :: argsL).toArray v B ∧
      ∀ target, Steps p.tables e below (B.U.setTop { g with pc := g.pc + 3, stack := v.toList ++ rest }) target → Steps p.tables e below (T.setTop g) target) ∨
    (∃ (q : Addr) (vm₁ : Vm) (B : Pt), s.WarmedH vm₁ ∧ Stand p l e R s m args below meth c B.U B.locs B.cells B.slots ∧ PostX ⟨T.setVm vm₁, locs, cells, slots⟩ (Value.ref b :: argsL).toArray q B ∧
      Steps p.tables e below (T.setTop g) ((B.U.setTop { g with stack := rest }).pushFrame (.throwing q))) := by
  obtain ⟨mk, methM, hnamed, hmethM, hstM, habM⟩ := Cond.instanceMethod_spec hinst
  obtain ⟨m8, methM', cM, hn8, hmethM', -, -, -, -, -, -, hsigM⟩ := Cond.codeWith_spec hcode
  cases Option.some.inj (hn8.symm.trans hnamed)
  cases hmethM.symm.trans hmethM'
  obtain ⟨c2, r2, m2, q1, q2, q3, q4, kP, hkP, hkPi⟩ := Cond.selects_spec hsel
  cases hcls.symm.trans q1
  cases (State.methodFound?_of_named hnamed hy).symm.trans q2
  cases hnamed.symm.trans q3
  have hselP : selectMethod e.platform s.vm cellB.cls mk = .method mk := by rw [Launch.admits_selectMethod X.admits]; exact q4
  obtain ⟨vm₁, X₁, hstep₁⟩ := X.invokevirtual hexec hown hlink hnamed hmethM hstM hkP hkPi hy (a := b) (cell := cellB) hcell
    (fun z h => by rw [h] at hobj; cases hobj) hselP hmethM habM hkP hkPi (g := g) hg (argsL := argsL) (rest := rest) (hlen _ hsigM) hstack hdg
  rcases hK m meth c ⟨T.setVm vm₁, locs, cells, slots⟩ { g with stack := rest } (.invokevirtual index) mk (Value.ref b :: argsL).toArray X₁ hg hsize hdg hW (X₁.named hnamed) (hpre vm₁ X₁.warmed) with ⟨v, B, X', hpost, hsteps⟩ | ⟨q, B, X', hpost, hsteps⟩
  · exact Or.inl ⟨v, vm₁, B, X₁.warmed, X', hpost, fun target h => hstep₁ _ fun acts => by rw [doInvoke_state]; exact hsteps.trans h⟩
  · exact Or.inr ⟨q, vm₁, B, X₁.warmed, X', hpost, hstep₁ _ fun acts => by rw [doInvoke_state]; exact hsteps⟩
theorem vx_callSX (X : Stand p l e R s m args below meth c T locs cells slots) (hexec : p.tables.exec = Jvm.exec) {own : String} {index : Nat} {y : MethodName} {bytes : ByteArray} {maxL : Nat} {ret : Option FieldType} {hh : List (Nat × Nat × Nat × Nat)}
    (hown : s.vm.findClass own = some m.cls) (hlink : (Cond.methodLink own index y).before args s = true) (hstat : (Cond.static y).before args s = true) (hinit : (Cond.initialized y.cls).before args s = true)
    (hcode : (Cond.codeWith y bytes maxL ret hh).before args s = true) (hy : y.cls ≠ "java/lang/invoke/MethodHandle" ∧ y.cls ≠ "java/lang/invoke/VarHandle")
    {W9 : Nat} {Pre : Pt → Array Value → Prop} {Post : Pt → Array Value → Option Value → Pt → Prop} {PostX : Pt → Array Value → Addr → Pt → Prop} (hK : vx_Back l R p e below s args y 3 W9 Pre Post PostX)
    {g : JFrame} (hg : g.method = m) (hsize : g.locals.size = c.maxLocals) {argsL rest : List Value} (hlen : ∀ sig, parseMethodDescriptor y.desc = some sig → argsL.length = sig.parameters.length)
    (hstack : g.stack = argsL.reverse ++ rest) (hW : 2 * g.monitorRoom + (rest.map fun v => v.category).sum ≤ W9) (hdg : decode c.code g.pc = .ok (.invokestatic index, 3))
    (hpre : ∀ vm₁, s.WarmedH vm₁ → Pre ⟨T.setVm vm₁, locs, cells, slots⟩ argsL.toArray) :
    (∃ (v : Option Value) (vm₁ : Vm) (B : Pt), s.WarmedH vm₁ ∧ Stand p l e R s m args below meth c B.U B.locs B.cells B.slots ∧ Post ⟨T.setVm vm₁, locs, cells, slots⟩ argsL.toArray v B ∧
      ∀ target, Steps p.tables e below (B.U.setTop { g with pc := g.pc + 3, stack := v.toList ++ rest }) target → Steps p.tables e below (T.setTop g) target) ∨
    (∃ (q : Addr) (vm₁ : Vm) (B : Pt), s.WarmedH vm₁ ∧ Stand p l e R s m args below meth c B.U B.locs B.cells B.slots ∧ PostX ⟨T.setVm vm₁, locs, cells, slots⟩ argsL.toArray q B ∧
      Steps p.tables e below (T.setTop g) ((B.U.setTop { g with stack := rest }).pushFrame (.throwing q))) := by
  obtain ⟨mk, methM, cM, hnamed, hmethM, -, -, -, -, -, -, hsigM⟩ := Cond.codeWith_spec hcode
  have hstatic : methM.isStatic = true := Cond.static_spec hnamed hmethM hstat
  obtain ⟨kP, hkP, -⟩ := className_of_methodNamed hnamed
  have hinitP : kP.init = .initialized := Cond.initialized_spec (findClass_of_methodNamed hnamed) hkP hinit
  obtain ⟨vm₁, X₁, hstep₁⟩ := X.invokestatic hexec hown hlink hnamed hmethM hstatic hkP hinitP hy (g := g) hg (argsL := argsL) (rest := rest) (hlen _ hsigM) hstack hdg
  rcases hK m meth c ⟨T.setVm vm₁, locs, cells, slots⟩ { g with stack := rest } (.invokestatic index) mk argsL.toArray X₁ hg hsize hdg hW (X₁.named hnamed) (hpre vm₁ X₁.warmed) with ⟨v, B, X', hpost, hsteps⟩ | ⟨q, B, X', hpost, hsteps⟩
  · exact Or.inl ⟨v, vm₁, B, X₁.warmed, X', hpost, fun target h => hstep₁ _ fun acts => by rw [doInvoke_state]; exact hsteps.trans h⟩
  · exact Or.inr ⟨q, vm₁, B, X₁.warmed, X', hpost, hstep₁ _ fun acts => by rw [doInvoke_state]; exact hsteps⟩
theorem vx_callVW (X : Stand p l e R s m args below meth c T locs cells slots) (hexec : p.tables.exec = Jvm.exec) {own C : String} {index : Nat} {y : MethodName} {bytes : ByteArray} {maxL : Nat} {ret : Option FieldType} {hh : List (Nat × Nat × Nat × Nat)}
    (hown : s.vm.findClass own = some m.cls) (hlink : (Cond.methodLink own index y).before args s = true) (hinst : (Cond.instanceMethod y).before args s = true) (hsel : (Cond.selects C y y).before args s = true)
    (hcode : (Cond.codeWith y bytes maxL ret hh).before args s = true) (hy : y.cls ≠ "java/lang/invoke/MethodHandle" ∧ y.cls ≠ "java/lang/invoke/VarHandle")
    {W9 : Nat} {Pre : Pt → Array Value → Prop} {Post : Pt → Array Value → Option Value → Pt → Prop} (hK : Back l R p e below s args y 3 W9 Pre Post)
    {b : Addr} {cellB : Cell} (hcell : T.heap[b]? = some cellB) (hobj : cellB.vm.isStatics = false) (hcls : s.vm.findClass C = some cellB.cls)
    {g : JFrame} (hg : g.method = m) (hsize : g.locals.size = c.maxLocals) {argsL rest : List Value} (hlen : ∀ sig, parseMethodDescriptor y.desc = some sig → argsL.length = sig.parameters.length)
    (hstack : g.stack = argsL.reverse ++ .ref b :: rest) (hW : 2 * g.monitorRoom + (rest.map fun v => v.category).sum ≤ W9) (hdg : decode c.code g.pc = .ok (.invokevirtual index, 3))
    (hpre : ∀ vm₁, s.WarmedH vm₁ → Pre ⟨T.setVm vm₁, locs, cells, slots⟩ (Value.ref b :: argsL).toArray) :
    ∃ (v : Option Value) (vm₁ : Vm) (B : Pt), s.WarmedH vm₁ ∧ Stand p l e R s m args below meth c B.U B.locs B.cells B.slots ∧ Post ⟨T.setVm vm₁, locs, cells, slots⟩ (Value.ref b :: argsL).toArray v B ∧
      ∀ target, Steps p.tables e below (B.U.setTop { g with pc := g.pc + 3, stack := v.toList ++ rest }) target → Steps p.tables e below (T.setTop g) target := by
  obtain ⟨mk, methM, hnamed, hmethM, hstM, habM⟩ := Cond.instanceMethod_spec hinst
  obtain ⟨m8, methM', cM, hn8, hmethM', -, -, -, -, -, -, hsigM⟩ := Cond.codeWith_spec hcode
  cases Option.some.inj (hn8.symm.trans hnamed)
  cases hmethM.symm.trans hmethM'
  obtain ⟨c2, r2, m2, q1, q2, q3, q4, kP, hkP, hkPi⟩ := Cond.selects_spec hsel
  cases hcls.symm.trans q1
  cases (State.methodFound?_of_named hnamed hy).symm.trans q2
  cases hnamed.symm.trans q3
  have hselP : selectMethod e.platform s.vm cellB.cls mk = .method mk := by rw [Launch.admits_selectMethod X.admits]; exact q4
  obtain ⟨vm₁, X₁, hstep₁⟩ := X.invokevirtual hexec hown hlink hnamed hmethM hstM hkP hkPi hy (a := b) (cell := cellB) hcell
    (fun z h => by rw [h] at hobj; cases hobj) hselP hmethM habM hkP hkPi (g := g) hg (argsL := argsL) (rest := rest) (hlen _ hsigM) hstack hdg
  obtain ⟨v, B, X', hpost, hsteps⟩ := hK m meth c ⟨T.setVm vm₁, locs, cells, slots⟩ { g with stack := rest } (.invokevirtual index) mk (Value.ref b :: argsL).toArray X₁ hg hsize hdg hW (X₁.named hnamed) (hpre vm₁ X₁.warmed)
  exact ⟨v, vm₁, B, X₁.warmed, X', hpost, fun target h => hstep₁ _ fun acts => by rw [doInvoke_state]; exact hsteps.trans h⟩
abbrev vx_CVW (R : Room) (s : State) (args : Array Value) (own C : String) (index : Nat) (y : MethodName) (bytes : ByteArray) (maxL : Nat) (ret : Option FieldType) (hh : List (Nat × Nat × Nat × Nat)) (ws : List Cond) (rm : Room) (mc ms n : Nat) : Prop :=
  (rm.cells = mc ∧ rm.slots = ms ∧ rm.frames + 1 ≤ R.frames ∧ 8 + (maxL + 11) + rm.locals ≤ R.locals ∧ (∀ w ∈ ws, ∀ (a' : Array Value) (U : State), s.WarmedH U.vm → w.before a' U = true) ∧ Cond.codeWith y bytes maxL ret hh ∈ ws) ∧
  (Cond.codeWith y bytes maxL ret hh).before args s = true ∧ (Cond.initialized y.cls).before args s = true ∧ (y.cls ≠ "java/lang/invoke/MethodHandle" ∧ y.cls ≠ "java/lang/invoke/VarHandle") ∧
  (∀ sig, parseMethodDescriptor y.desc = some sig → n = sig.parameters.length) ∧ (Cond.methodLink own index y).before args s = true ∧ (Cond.instanceMethod y).before args s = true ∧ (Cond.selects C y y).before args s = true
theorem vx_cwVW {own C : String} {index maxL mc ms : Nat} {y : MethodName} {bytes : ByteArray} {ret : Option FieldType} {hh : List (Nat × Nat × Nat × Nat)} {Ts ws ws' : List Cond} {rm : Room} (n : Nat) (ht : ∀ w ∈ Ts, w.before args s = true) (hT : GoodIn Ts (wsV own index C y ws)) (hw : ws = Cond.codeWith y bytes maxL ret hh :: ws') (hrc : rm.cells = mc) (hrs : rm.slots = ms)
    (hd : y.cls = C ∧ y.cls ≠ "java/lang/invoke/MethodHandle" ∧ y.cls ≠ "java/lang/invoke/VarHandle" ∧ (parseMethodDescriptor y.desc).map (fun d => d.parameters.length) = some n) (hR : rm.frames + 1 ≤ R.frames ∧ 8 + (maxL + 11) + rm.locals ≤ R.locals) :
    vx_CVW R s args own C index y bytes maxL ret hh ws rm mc ms n := by
  obtain ⟨hC, hd⟩ := hd
  subst hC
  have ok : ∀ w ∈ wsV own index y.cls y ws, w.before args s = true := fun w h => ht w (hT w h).1
  have hG : GoodIn Ts ws := fun w h => hT w (by unfold wsV; exact List.mem_append_right _ h)
  have hc : Cond.codeWith y bytes maxL ret hh ∈ ws := by rw [hw]; exact List.mem_cons_self
  refine ⟨⟨hrc, hrs, hR.1, hR.2, pay_in ht hG, hc⟩, ht _ (hG _ hc).1, ok _ (by simp [wsV]), ⟨hd.1, hd.2.1⟩, fun sig h => ?_, ok _ (by simp [wsV]), ok _ (by simp [wsV]), ok _ (by simp [wsV])⟩
  have h2 := hd.2.2
  rw [h] at h2
  exact (Option.some.inj h2).symm
theorem vx_runVW {y : MethodName} {bytes cc : ByteArray} {maxL nL mc ms n index : Nat} {ret : Option FieldType} {hh : List (Nat × Nat × Nat × Nat)} {ws : List Cond} {rm : Room} {Pc : Array Value → State → Prop} {Qc : Array Value → State → Outcome → State → Prop} {free : Addr → Prop} {Ts : List Cond} {own C : String} {b : Addr} {As rest : List Value} {g : JFrame}
    (S : CallFix p m c cc nL s args Ts own) (hM : Met l y ws rm Pc Qc mc ms free) (cw : vx_CVW R s args own C index y bytes maxL ret hh ws rm mc ms n) (hp : PreV s H C b Pc As)
    (hg : g.method = m) (hn : As.length = n) (hsize : g.locals.size = nL) (hstack : g.stack = As.reverse ++ .ref b :: rest) (hW : 2 * g.monitorRoom + (rest.map fun v => v.category).sum ≤ 8) (hdg : decode cc g.pc = .ok (.invokevirtual index, 3)) (hf : cells + mc ≤ R.cells ∧ slots + ms ≤ R.slots) :
    va_Run p l e R s m args below meth c H locs cells slots mc ms g rest (Qc (Value.ref b :: As).toArray) free := by
  obtain ⟨⟨hrc, hrs, hfr, hlo, hws, hcw⟩, hcode, hini, hy, hlen, hl, hin, hse⟩ := cw
  have hK : Back l R p e below s args y 3 8 (PreOf R mc ms Pc) (PostOf Qc mc ms free) := va_backW (hh := hh) (bytes := bytes) (maxL := maxL) (ret := ret) hM hp.1 hrc hrs hfr hlo hws hcw (fun a' U hW => word_at hW (Or.inl (by first | rfl | simp [Cond.onTables, Cond.keeps, Cond.steady])) hini)
  obtain ⟨hx, hb, hml, ho, -⟩ := S
  obtain ⟨-, ⟨cellB, hcB, hoB, hclB⟩, hPc⟩ := hp
  intro T hT X
  obtain ⟨v, vm₁, ⟨U', l2, c2, s2⟩, hW₁, X', ⟨g', mk, t, L, e1, e2, hq, h1, hL, h2, h3⟩, st⟩ := vx_callVW X hx (C := C) (hh := hh) (bytes := bytes) (maxL := maxL) (ret := ret) ho hl hin hse hcode hy hK (by rw [hT]; exact hcB) hoB hclB hg (hsize.trans hml.symm) (argsL := As) (rest := rest) (fun sig h => hn.trans (hlen sig h)) hstack hW (by rw [hb]; exact hdg)
    (fun vm₁ hW₁ => ⟨hf.1, hf.2, hPc (T.setVm vm₁) hT hW₁⟩)
  dsimp only [Pt.U, Pt.locs, Pt.cells, Pt.slots] at X' e1 e2 h1 h2 h3 st
  subst h1; subst h2; subst h3
  exact ⟨v, (T.setVm vm₁).calling g' mk (Value.ref b :: As).toArray, t, U', L, hT, X', hL, e1, e2, hq, st⟩
section
variable {y : MethodName} {bytes cc : ByteArray} {maxL nL mc ms n index : Nat} {ret : Option FieldType} {ws : List Cond} {rm : Room} {Pc : Array Value → State → Prop} {Qc : Array Value → State → Outcome → State → Prop} {XC : String → State → State → Prop} {free : Addr → Prop} {Ts : List Cond} {own C : String} {b : Addr} {As rest : List Value} {g : JFrame}
theorem vx_runVX {hh : List (Nat × Nat × Nat × Nat)} (S : CallFix p m c cc nL s args Ts own) (hM : vx_Met l y ws rm Pc Qc XC mc ms free) (cw : vx_CVW R s args own C index y bytes maxL ret hh ws rm mc ms n) (hp : PreV s H C b Pc As)
    (hg : g.method = m) (hn : As.length = n) (hsize : g.locals.size = nL) (hstack : g.stack = As.reverse ++ .ref b :: rest) (hW : 2 * g.monitorRoom + (rest.map fun v => v.category).sum ≤ 8) (hdg : decode cc g.pc = .ok (.invokevirtual index, 3)) (hf : cells + mc ≤ R.cells ∧ slots + ms ≤ R.slots) :
    vx_Run p l e R s m args below meth c H locs cells slots mc ms g rest (Qc (Value.ref b :: As).toArray) XC free := by
  obtain ⟨⟨hrc, hrs, hfr, hlo, hws, hcw⟩, hcode, hini, hy, hlen, hl, hin, hse⟩ := cw
  have hK : vx_Back l R p e below s args y 3 8 (PreOf R mc ms Pc) (PostOf Qc mc ms free) (vx_Post XC mc ms free) := vx_backW (hh := hh) (bytes := bytes) (maxL := maxL) (ret := ret) hM hp.1 hrc hrs hfr hlo hws hcw (fun a' U hW => word_at hW (Or.inl (by first | rfl | simp [Cond.onTables, Cond.keeps, Cond.steady])) hini)
  obtain ⟨hx, hb, hml, ho, -⟩ := S
  obtain ⟨-, ⟨cellB, hcB, hoB, hclB⟩, hPc⟩ := hp
  intro T hT X
  rcases vx_callVX X hx (C := C) (hh := hh) (bytes := bytes) (maxL := maxL) (ret := ret) ho hl hin hse hcode hy hK (by rw [hT]; exact hcB) hoB hclB hg (hsize.trans hml.symm) (argsL := As) (rest := rest) (fun sig h => hn.trans (hlen sig h)) hstack hW (by rw [hb]; exact hdg)
    (fun vm₁ hW₁ => ⟨hf.1, hf.2, hPc (T.setVm vm₁) hT hW₁⟩) with ⟨v, vm₁, ⟨U', l2, c2, s2⟩, hW₁, X', ⟨g', mk, t, L, e1, e2, hq, h1, hL, h2, h3⟩, st⟩ | ⟨q, vm₁, ⟨U', l2, c2, s2⟩, hW₁, X', ⟨g', mk, t, L, E, ce, e1, e2, hq, hce, hcv, hcl, h1, hL, h2, h3⟩, st⟩
  · dsimp only [Pt.U, Pt.locs, Pt.cells, Pt.slots] at X' e1 e2 h1 h2 h3 st
    subst h1; subst h2; subst h3
    exact Or.inl ⟨v, (T.setVm vm₁).calling g' mk (Value.ref b :: As).toArray, t, U', L, hT, X', hL, e1, e2, hq, st⟩
  · dsimp only [Pt.U, Pt.locs, Pt.cells, Pt.slots] at X' e1 e2 h1 h2 h3 st hcl
    subst h1; subst h2; subst h3
    exact Or.inr ⟨q, (T.setVm vm₁).calling g' mk (Value.ref b :: As).toArray, t, U', L, E, ce, hT, X', hL, e1, e2, hq, hce, hcv, vx_cls hW₁ hcl, st⟩
theorem vx_runSX {hh : List (Nat × Nat × Nat × Nat)} (S : CallFix p m c cc nL s args Ts own) (hM : vx_Met l y ws rm Pc Qc XC mc ms free) (cw : vx_CSW R s args own index y bytes maxL ret hh ws rm mc ms n) (hp : PreS s H Pc As)
    (hg : g.method = m) (hn : As.length = n) (hsize : g.locals.size = nL) (hstack : g.stack = As.reverse ++ rest) (hW : 2 * g.monitorRoom + (rest.map fun v => v.category).sum ≤ 8) (hdg : decode cc g.pc = .ok (.invokestatic index, 3)) (hf : cells + mc ≤ R.cells ∧ slots + ms ≤ R.slots) :
    vx_Run p l e R s m args below meth c H locs cells slots mc ms g rest (Qc As.toArray) XC free := by
  obtain ⟨⟨hrc, hrs, hfr, hlo, hws, hcw⟩, hcode, hini, hy, hlen, hl, hstt⟩ := cw
  have hK : vx_Back l R p e below s args y 3 8 (PreOf R mc ms Pc) (PostOf Qc mc ms free) (vx_Post XC mc ms free) := vx_backW (hh := hh) (bytes := bytes) (maxL := maxL) (ret := ret) hM hp.1 hrc hrs hfr hlo hws hcw (fun a' U hW => word_at hW (Or.inl (by first | rfl | simp [Cond.onTables, Cond.keeps, Cond.steady])) hini)
  obtain ⟨hx, hb, hml, ho, -⟩ := S
  intro T hT X
  rcases vx_callSX X hx (hh := hh) (bytes := bytes) (maxL := maxL) (ret := ret) ho hl hstt hini hcode hy hK hg (hsize.trans hml.symm) (argsL := As) (rest := rest) (fun sig h => hn.trans (hlen sig h)) hstack hW (by rw [hb]; exact hdg)
    (fun vm₁ hW₁ => ⟨hf.1, hf.2, hp.2 (T.setVm vm₁) hT hW₁⟩) with ⟨v, vm₁, ⟨U', l2, c2, s2⟩, hW₁, X', ⟨g', mk, t, L, e1, e2, hq, h1, hL, h2, h3⟩, st⟩ | ⟨q, vm₁, ⟨U', l2, c2, s2⟩, hW₁, X', ⟨g', mk, t, L, E, ce, e1, e2, hq, hce, hcv, hcl, h1, hL, h2, h3⟩, st⟩
  · dsimp only [Pt.U, Pt.locs, Pt.cells, Pt.slots] at X' e1 e2 h1 h2 h3 st
    subst h1; subst h2; subst h3
    exact Or.inl ⟨v, (T.setVm vm₁).calling g' mk As.toArray, t, U', L, hT, X', hL, e1, e2, hq, st⟩
  · dsimp only [Pt.U, Pt.locs, Pt.cells, Pt.slots] at X' e1 e2 h1 h2 h3 st hcl
    subst h1; subst h2; subst h3
    exact Or.inr ⟨q, (T.setVm vm₁).calling g' mk As.toArray, t, U', L, E, ce, hT, X', hL, e1, e2, hq, hce, hcv, vx_cls hW₁ hcl, st⟩
end
end VXH
theorem vx_ofWH {l : Launch} {y : MethodName} {ws ws' : List Cond} {rm : Room} {Pc : Array Value → State → Prop} {Qc : Array Value → State → Outcome → State → Prop} {XC : String → State → State → Prop} {mc ms : Nat} {free : Addr → Prop} {cc : ByteArray} {maxL : Nat} {ret : Option FieldType} {hh : List (Nat × Nat × Nat × Nat)}
    (hy : plainName y.cls = true) (hw : ws = Cond.codeWith y cc maxL ret hh :: ws')
    (body : ∀ p e s m args below meth c s₁, BodyLoose p l y (headSpec ws rm) cc maxL ret e s m args below meth c s₁ → c.maxLocals = maxL → Pc args s →
      W p l e (headSpec ws rm).room s m args below meth c s.heap [] 0 0 (vx_MQ below Qc XC args s mc ms free) (entryFrame m args maxL)) : vx_Met l y ws rm Pc Qc XC mc ms free := by
  refine MetFree.of_bodyS (code := cc) (maxLocals := maxL) (ret := ret) hy ?_ ?_
  · intro args s m h hn
    obtain ⟨m9, meth, c, hn9, h1, h2, h3, h4, -, h5, h6, -⟩ := Cond.codeWith_spec (atoms_spec (ws := ws) h _ (by rw [hw]; exact List.mem_cons_self))
    cases hn.symm.trans hn9
    exact ⟨meth, c, h1, h2, h3, h4, h5, h6⟩
  · intro p e s m args below meth c s₁ B hml hP _
    have hh0 : s₁.heap = s.heap := by rw [B.state]; rfl
    obtain ⟨t, a1, o, b1, b2, b3⟩ := body p e s m args below meth c s₁ B hml hP s₁ hh0 (Stand.of_body B)
    exact ⟨t, o, a1, b1, b2, b3⟩
/-! ===== END ===== -/
end
section
/-! names: classes, fields, methods (printed by the task, cut) -/
def RX0 : String := "GlassRaster$Box"
def TX0 : u_T := fun k => match k with
  | 0 => ("GlassRaster$Box", "left", "I", false)
  | 1 => ("GlassRaster$Box", "top", "I", false)
  | 2 => ("GlassRaster$Box", "right", "I", false)
  | _ => ("GlassRaster$Box", "bottom", "I", false)
def tyX0 : Nat → FieldType := fun k => match k with
  | 0 => .int
  | 1 => .int
  | 2 => .int
  | _ => .int
abbrev wsX00 : List Cond := u_ws RX0 TX0 4
theorem nmX0 : ∀ a, a < 4 → ∀ b, b < 4 → a ≠ b → (TX0 a).2.1 ≠ (TX0 b).2.1 := by decide +kernel
theorem tyX0_ok : ∀ k, k < 4 → parseFieldDescriptor (TX0 k).2.2.1 = some (tyX0 k) := by decide +kernel
abbrev cX0_init : ByteArray := prog_2_method_1_code
def yX0_init : MethodName := ⟨RX0, "<init>", "()V"⟩
abbrev cX0_span : ByteArray := prog_2_method_2_code
def yX0_span : MethodName := ⟨RX0, "span", "(IIII)V"⟩
abbrev cX0_spans : ByteArray := prog_2_method_3_code
def yX0_spans : MethodName := ⟨RX0, "spans", "(II)Z"⟩
def RX1 : String := "GlassRaster$Camera"
def TX1 : u_T := fun k => match k with
  | 0 => ("GlassRaster$Camera", "rows", "[I", true)
  | 1 => ("GlassRaster$Camera", "near", "I", false)
  | _ => ("GlassRaster$Camera", "focus", "I", false)
def tyX1 : Nat → FieldType := fun k => match k with
  | 0 => .array .int
  | 1 => .int
  | _ => .int
abbrev wsX10 : List Cond := u_ws RX1 TX1 3
theorem nmX1 : ∀ a, a < 3 → ∀ b, b < 3 → a ≠ b → (TX1 a).2.1 ≠ (TX1 b).2.1 := by decide +kernel
theorem tyX1_ok : ∀ k, k < 3 → parseFieldDescriptor (TX1 k).2.2.1 = some (tyX1 k) := by decide +kernel
abbrev cX1_init : ByteArray := prog_3_method_1_code
def yX1_init : MethodName := ⟨RX1, "<init>", "()V"⟩
abbrev cX1_turnRow : ByteArray := prog_3_method_2_code
def yX1_turnRow : MethodName := ⟨RX1, "turnRow", "(IIIII)V"⟩
abbrev cX1_along : ByteArray := prog_3_method_3_code
def yX1_along : MethodName := ⟨RX1, "along", "(ILGlassRaster$Corner;)I"⟩
abbrev cX1_look : ByteArray := prog_3_method_4_code
def yX1_look : MethodName := ⟨RX1, "look", "(LGlassRaster$Corner;LGlassRaster$Spot;)V"⟩
abbrev cX1_project : ByteArray := prog_3_method_5_code
def yX1_project : MethodName := ⟨RX1, "project", "(LGlassRaster$Spot;)V"⟩
def RX2 : String := "GlassRaster$ColourSet"
def TX2 : u_T := fun k => match k with
  | 0 => ("GlassRaster$ColourSet", "places", "[I", true)
  | _ => ("GlassRaster$ColourSet", "size", "I", false)
def tyX2 : Nat → FieldType := fun k => match k with
  | 0 => .array .int
  | _ => .int
abbrev wsX20 : List Cond := u_ws RX2 TX2 2
theorem nmX2 : ∀ a, a < 2 → ∀ b, b < 2 → a ≠ b → (TX2 a).2.1 ≠ (TX2 b).2.1 := by decide +kernel
theorem tyX2_ok : ∀ k, k < 2 → parseFieldDescriptor (TX2 k).2.2.1 = some (tyX2 k) := by decide +kernel
abbrev cX2_init : ByteArray := prog_4_method_1_code
def yX2_init : MethodName := ⟨RX2, "<init>", "()V"⟩
abbrev cX2_empty : ByteArray := prog_4_method_2_code
def yX2_empty : MethodName := ⟨RX2, "empty", "()V"⟩
abbrev cX2_include : ByteArray := prog_4_method_3_code
def yX2_include : MethodName := ⟨RX2, "include", "(I)V"⟩
def RX3 : String := "GlassRaster$Corner"
def TX3 : u_T := fun k => match k with
  | 0 => ("GlassRaster$Corner", "x", "I", false)
  | 1 => ("GlassRaster$Corner", "y", "I", false)
  | 2 => ("GlassRaster$Corner", "z", "I", false)
  | 3 => ("GlassRaster$Corner", "colour", "I", false)
  | 4 => ("GlassRaster$Corner", "u", "I", false)
  | _ => ("GlassRaster$Corner", "v", "I", false)
def tyX3 : Nat → FieldType := fun k => match k with
  | 0 => .int
  | 1 => .int
  | 2 => .int
  | 3 => .int
  | 4 => .int
  | _ => .int
abbrev wsX30 : List Cond := u_ws RX3 TX3 6
theorem nmX3 : ∀ a, a < 6 → ∀ b, b < 6 → a ≠ b → (TX3 a).2.1 ≠ (TX3 b).2.1 := by decide +kernel
theorem tyX3_ok : ∀ k, k < 6 → parseFieldDescriptor (TX3 k).2.2.1 = some (tyX3 k) := by decide +kernel
abbrev cX3_init : ByteArray := prog_5_method_1_code
def yX3_init : MethodName := ⟨RX3, "<init>", "()V"⟩
abbrev cX3_place : ByteArray := prog_5_method_2_code
def yX3_place : MethodName := ⟨RX3, "place", "(III)V"⟩
def RX4 : String := "GlassRaster$Pane"
def TX4 : u_T := fun k => match k with
  | 0 => ("GlassRaster$Pane", "first", "I", false)
  | 1 => ("GlassRaster$Pane", "second", "I", false)
  | 2 => ("GlassRaster$Pane", "third", "I", false)
  | 3 => ("GlassRaster$Pane", "pattern", "I", false)
  | 4 => ("GlassRaster$Pane", "isClear", "Z", false)
  | 5 => ("GlassRaster$Pane", "isTwoSided", "Z", false)
  | _ => ("GlassRaster$Pane", "isShown", "Z", false)
def tyX4 : Nat → FieldType := fun k => match k with
  | 0 => .int
  | 1 => .int
  | 2 => .int
  | 3 => .int
  | 4 => .boolean
  | 5 => .boolean
  | _ => .boolean
abbrev wsX40 : List Cond := u_ws RX4 TX4 7
theorem nmX4 : ∀ a, a < 7 → ∀ b, b < 7 → a ≠ b → (TX4 a).2.1 ≠ (TX4 b).2.1 := by decide +kernel
theorem tyX4_ok : ∀ k, k < 7 → parseFieldDescriptor (TX4 k).2.2.1 = some (tyX4 k) := by decide +kernel
abbrev cX4_init : ByteArray := prog_6_method_1_code
def yX4_init : MethodName := ⟨RX4, "<init>", "()V"⟩
abbrev cX4_join : ByteArray := prog_6_method_2_code
def yX4_join : MethodName := ⟨RX4, "join", "(III)V"⟩
abbrev cX4_has : ByteArray := prog_6_method_3_code
def yX4_has : MethodName := ⟨RX4, "has", "(I)Z"⟩
def RX5 : String := "GlassRaster$Pattern"
def TX5 : u_T := fun k => match k with
  | 0 => ("GlassRaster$Pattern", "tints", "[I", true)
  | _ => ("GlassRaster$Pattern", "repeats", "Z", false)
def tyX5 : Nat → FieldType := fun k => match k with
  | 0 => .array .int
  | _ => .boolean
abbrev wsX50 : List Cond := u_ws RX5 TX5 2
theorem nmX5 : ∀ a, a < 2 → ∀ b, b < 2 → a ≠ b → (TX5 a).2.1 ≠ (TX5 b).2.1 := by decide +kernel
theorem tyX5_ok : ∀ k, k < 2 → parseFieldDescriptor (TX5 k).2.2.1 = some (tyX5 k) := by decide +kernel
abbrev cX5_init : ByteArray := prog_7_method_1_code
def yX5_init : MethodName := ⟨RX5, "<init>", "()V"⟩
abbrev cX5_tintAt : ByteArray := prog_7_method_2_code
def yX5_tintAt : MethodName := ⟨RX5, "tintAt", "(II)I"⟩
abbrev cX5_placeOf : ByteArray := prog_7_method_3_code
def yX5_placeOf : MethodName := ⟨RX5, "placeOf", "(I)I"⟩
def RX6 : String := "GlassRaster$Piece"
def TX6 : u_T := fun k => match k with
  | 0 => ("GlassRaster$Piece", "box", "LGlassRaster$Box;", true)
  | 1 => ("GlassRaster$Piece", "a", "LGlassRaster$Spot;", false)
  | 2 => ("GlassRaster$Piece", "b", "LGlassRaster$Spot;", false)
  | 3 => ("GlassRaster$Piece", "c", "LGlassRaster$Spot;", false)
  | 4 => ("GlassRaster$Piece", "area", "J", false)
  | 5 => ("GlassRaster$Piece", "isDrawn", "Z", false)
  | 6 => ("GlassRaster$Piece", "wa", "J", false)
  | 7 => ("GlassRaster$Piece", "wb", "J", false)
  | _ => ("GlassRaster$Piece", "wc", "J", false)
def tyX6 : Nat → FieldType := fun k => match k with
  | 0 => .object "GlassRaster$Box"
  | 1 => .object "GlassRaster$Spot"
  | 2 => .object "GlassRaster$Spot"
  | 3 => .object "GlassRaster$Spot"
  | 4 => .long
  | 5 => .boolean
  | 6 => .long
  | 7 => .long
  | _ => .long
abbrev wsX60 : List Cond := u_ws RX6 TX6 9
theorem nmX6 : ∀ a, a < 9 → ∀ b, b < 9 → a ≠ b → (TX6 a).2.1 ≠ (TX6 b).2.1 := by decide +kernel
theorem tyX6_ok : ∀ k, k < 9 → parseFieldDescriptor (TX6 k).2.2.1 = some (tyX6 k) := by decide +kernel
abbrev cX6_init : ByteArray := prog_8_method_1_code
def yX6_init : MethodName := ⟨RX6, "<init>", "()V"⟩
abbrev cX6_take : ByteArray := prog_8_method_2_code
def yX6_take : MethodName := ⟨RX6, "take", "(LGlassRaster$Spot;LGlassRaster$Spot;LGlassRaster$Spot;Z)V"⟩
abbrev cX6_firstMiddle : ByteArray := prog_8_method_3_code
def yX6_firstMiddle : MethodName := ⟨RX6, "firstMiddle", "(I)I"⟩
abbrev cX6_lastMiddle : ByteArray := prog_8_method_4_code
def yX6_lastMiddle : MethodName := ⟨RX6, "lastMiddle", "(I)I"⟩
abbrev cX6_holds : ByteArray := prog_8_method_5_code
def yX6_holds : MethodName := ⟨RX6, "holds", "(II)Z"⟩
abbrev cX6_turn : ByteArray := prog_8_method_6_code
def yX6_turn : MethodName := ⟨RX6, "turn", "(LGlassRaster$Spot;LGlassRaster$Spot;II)J"⟩
abbrev cX6_isInside : ByteArray := prog_8_method_7_code
def yX6_isInside : MethodName := ⟨RX6, "isInside", "(JLGlassRaster$Spot;LGlassRaster$Spot;)Z"⟩
abbrev cX6_depthHere : ByteArray := prog_8_method_8_code
def yX6_depthHere : MethodName := ⟨RX6, "depthHere", "()I"⟩
abbrev cX6_mean : ByteArray := prog_8_method_9_code
def yX6_mean : MethodName := ⟨RX6, "mean", "(III)I"⟩
abbrev cX6_weightedMean : ByteArray := prog_8_method_10_code
def yX6_weightedMean : MethodName := ⟨RX6, "weightedMean", "(III)I"⟩
def RX7 : String := "GlassRaster$Screen"
def TX7 : u_T := fun k => match k with
  | 0 => ("GlassRaster$Screen", "colours", "[I", true)
  | 1 => ("GlassRaster$Screen", "depths", "[I", true)
  | _ => ("GlassRaster$Screen", "panes", "[I", true)
def tyX7 : Nat → FieldType := fun k => match k with
  | 0 => .array .int
  | 1 => .array .int
  | _ => .array .int
abbrev wsX70 : List Cond := u_ws RX7 TX7 3
theorem nmX7 : ∀ a, a < 3 → ∀ b, b < 3 → a ≠ b → (TX7 a).2.1 ≠ (TX7 b).2.1 := by decide +kernel
theorem tyX7_ok : ∀ k, k < 3 → parseFieldDescriptor (TX7 k).2.2.1 = some (tyX7 k) := by decide +kernel
abbrev cX7_init : ByteArray := prog_9_method_1_code
def yX7_init : MethodName := ⟨RX7, "<init>", "()V"⟩
abbrev cX7_blank : ByteArray := prog_9_method_2_code
def yX7_blank : MethodName := ⟨RX7, "blank", "(LGlassRaster$Box;I)V"⟩
abbrev cX7_copy : ByteArray := prog_9_method_3_code
def yX7_copy : MethodName := ⟨RX7, "copy", "(LGlassRaster$Screen;)V"⟩
abbrev cX7_differsFrom : ByteArray := prog_9_method_4_code
def yX7_differsFrom : MethodName := ⟨RX7, "differsFrom", "(LGlassRaster$Screen;LGlassRaster$Box;)Z"⟩
def RX8 : String := "GlassRaster$Shape"
def TX8 : u_T := fun k => match k with
  | 0 => ("GlassRaster$Shape", "ends", "[LGlassRaster$Spot;", true)
  | 1 => ("GlassRaster$Shape", "spots", "[LGlassRaster$Spot;", true)
  | 2 => ("GlassRaster$Shape", "pieces", "[LGlassRaster$Piece;", true)
  | _ => ("GlassRaster$Shape", "count", "I", false)
def tyX8 : Nat → FieldType := fun k => match k with
  | 0 => .array (.object "GlassRaster$Spot")
  | 1 => .array (.object "GlassRaster$Spot")
  | 2 => .array (.object "GlassRaster$Piece")
  | _ => .int
abbrev wsX80 : List Cond := u_ws RX8 TX8 4
theorem nmX8 : ∀ a, a < 4 → ∀ b, b < 4 → a ≠ b → (TX8 a).2.1 ≠ (TX8 b).2.1 := by decide +kernel
theorem tyX8_ok : ∀ k, k < 4 → parseFieldDescriptor (TX8 k).2.2.1 = some (tyX8 k) := by decide +kernel
abbrev cX8_init : ByteArray := prog_10_method_1_code
def yX8_init : MethodName := ⟨RX8, "<init>", "()V"⟩
abbrev cX8_cutAt : ByteArray := prog_10_method_2_code
def yX8_cutAt : MethodName := ⟨RX8, "cutAt", "(I)V"⟩
abbrev cX8_split : ByteArray := prog_10_method_3_code
def yX8_split : MethodName := ⟨RX8, "split", "(Z)V"⟩
abbrev cX8_firstPieceAt : ByteArray := prog_10_method_4_code
def yX8_firstPieceAt : MethodName := ⟨RX8, "firstPieceAt", "(II)I"⟩
def RX9 : String := "GlassRaster$Spot"
def TX9 : u_T := fun k => match k with
  | 0 => ("GlassRaster$Spot", "x", "I", false)
  | 1 => ("GlassRaster$Spot", "y", "I", false)
  | 2 => ("GlassRaster$Spot", "z", "I", false)
  | 3 => ("GlassRaster$Spot", "u", "I", false)
  | 4 => ("GlassRaster$Spot", "v", "I", false)
  | 5 => ("GlassRaster$Spot", "red", "I", false)
  | 6 => ("GlassRaster$Spot", "green", "I", false)
  | 7 => ("GlassRaster$Spot", "blue", "I", false)
  | 8 => ("GlassRaster$Spot", "screenX", "I", false)
  | 9 => ("GlassRaster$Spot", "screenY", "I", false)
  | 10 => ("GlassRaster$Spot", "depth", "I", false)
  | _ => ("GlassRaster$Spot", "weight", "I", false)
def tyX9 : Nat → FieldType := fun k => match k with
  | 0 => .int
  | 1 => .int
  | 2 => .int
  | 3 => .int
  | 4 => .int
  | 5 => .int
  | 6 => .int
  | 7 => .int
  | 8 => .int
  | 9 => .int
  | 10 => .int
  | _ => .int
abbrev wsX90 : List Cond := u_ws RX9 TX9 12
theorem nmX9 : ∀ a, a < 12 → ∀ b, b < 12 → a ≠ b → (TX9 a).2.1 ≠ (TX9 b).2.1 := by decide +kernel
theorem tyX9_ok : ∀ k, k < 12 → parseFieldDescriptor (TX9 k).2.2.1 = some (tyX9 k) := by decide +kernel
abbrev cX9_init : ByteArray := prog_11_method_1_code
def yX9_init : MethodName := ⟨RX9, "<init>", "()V"⟩
abbrev cX9_copy : ByteArray := prog_11_method_2_code
def yX9_copy : MethodName := ⟨RX9, "copy", "(LGlassRaster$Spot;)V"⟩
abbrev cX9_cut : ByteArray := prog_11_method_3_code
def yX9_cut : MethodName := ⟨RX9, "cut", "(LGlassRaster$Spot;LGlassRaster$Spot;I)V"⟩
abbrev cX9_between : ByteArray := prog_11_method_4_code
def yX9_between : MethodName := ⟨RX9, "between", "(IIJJ)I"⟩
abbrev cX9_isFarOut : ByteArray := prog_11_method_5_code
def yX9_isFarOut : MethodName := ⟨RX9, "isFarOut", "()Z"⟩
def RX10 : String := "GlassRaster"
def TX10 : u_T := fun k => match k with
  | 0 => ("GlassRaster", "cornerRow", "[LGlassRaster$Corner;", true)
  | 1 => ("GlassRaster", "paneRow", "[LGlassRaster$Pane;", true)
  | 2 => ("GlassRaster", "patternRow", "[LGlassRaster$Pattern;", true)
  | 3 => ("GlassRaster", "camera", "LGlassRaster$Camera;", true)
  | 4 => ("GlassRaster", "shape", "LGlassRaster$Shape;", true)
  | 5 => ("GlassRaster", "picture", "LGlassRaster$Screen;", true)
  | 6 => ("GlassRaster", "now", "LGlassRaster$Screen;", true)
  | 7 => ("GlassRaster", "without", "LGlassRaster$Screen;", true)
  | 8 => ("GlassRaster", "colourSet", "LGlassRaster$ColourSet;", true)
  | 9 => ("GlassRaster", "pointsByPane", "[I", true)
  | 10 => ("GlassRaster", "wholeScreen", "LGlassRaster$Box;", true)
  | 11 => ("GlassRaster", "smallBox", "LGlassRaster$Box;", true)
  | 12 => ("GlassRaster", "cornerCount", "I", false)
  | 13 => ("GlassRaster", "paneCount", "I", false)
  | _ => ("GlassRaster", "background", "I", false)
def tyX10 : Nat → FieldType := fun k => match k with
  | 0 => .array (.object "GlassRaster$Corner")
  | 1 => .array (.object "GlassRaster$Pane")
  | 2 => .array (.object "GlassRaster$Pattern")
  | 3 => .object "GlassRaster$Camera"
  | 4 => .object "GlassRaster$Shape"
  | 5 => .object "GlassRaster$Screen"
  | 6 => .object "GlassRaster$Screen"
  | 7 => .object "GlassRaster$Screen"
  | 8 => .object "GlassRaster$ColourSet"
  | 9 => .array .int
  | 10 => .object "GlassRaster$Box"
  | 11 => .object "GlassRaster$Box"
  | 12 => .int
  | 13 => .int
  | _ => .int
abbrev wsX100 : List Cond := u_ws RX10 TX10 15
theorem nmX10 : ∀ a, a < 15 → ∀ b, b < 15 → a ≠ b → (TX10 a).2.1 ≠ (TX10 b).2.1 := by decide +kernel
theorem tyX10_ok : ∀ k, k < 15 → parseFieldDescriptor (TX10 k).2.2.1 = some (tyX10 k) := by decide +kernel
abbrev cX10_init : ByteArray := prog_1_method_1_code
def yX10_init : MethodName := ⟨RX10, "<init>", "()V"⟩
abbrev cX10_addCorner : ByteArray := prog_1_method_2_code
def yX10_addCorner : MethodName := ⟨RX10, "addCorner", "(IIIIII)I"⟩
abbrev cX10_moveCorner : ByteArray := prog_1_method_3_code
def yX10_moveCorner : MethodName := ⟨RX10, "moveCorner", "(IIII)I"⟩
abbrev cX10_setColour : ByteArray := prog_1_method_4_code
def yX10_setColour : MethodName := ⟨RX10, "setColour", "(II)I"⟩
abbrev cX10_addPane : ByteArray := prog_1_method_5_code
def yX10_addPane : MethodName := ⟨RX10, "addPane", "(IIIIZZ)I"⟩
abbrev cX10_show : ByteArray := prog_1_method_6_code
def yX10_show : MethodName := ⟨RX10, "show", "(IZ)Z"⟩
abbrev cX10_setPattern : ByteArray := prog_1_method_7_code
def yX10_setPattern : MethodName := ⟨RX10, "setPattern", "(IIII)I"⟩
abbrev cX10_setRepeats : ByteArray := prog_1_method_8_code
def yX10_setRepeats : MethodName := ⟨RX10, "setRepeats", "(IZ)Z"⟩
abbrev cX10_setCamera : ByteArray := prog_1_method_9_code
def yX10_setCamera : MethodName := ⟨RX10, "setCamera", "(IIIII)I"⟩
abbrev cX10_setLens : ByteArray := prog_1_method_10_code
def yX10_setLens : MethodName := ⟨RX10, "setLens", "(II)I"⟩
abbrev cX10_setBackground : ByteArray := prog_1_method_11_code
def yX10_setBackground : MethodName := ⟨RX10, "setBackground", "(I)I"⟩
abbrev cX10_corners : ByteArray := prog_1_method_12_code
def yX10_corners : MethodName := ⟨RX10, "corners", "()I"⟩
abbrev cX10_panes : ByteArray := prog_1_method_13_code
def yX10_panes : MethodName := ⟨RX10, "panes", "()I"⟩
abbrev cX10_seen : ByteArray := prog_1_method_14_code
def yX10_seen : MethodName := ⟨RX10, "seen", "(II)I"⟩
abbrev cX10_polygonOf : ByteArray := prog_1_method_15_code
def yX10_polygonOf : MethodName := ⟨RX10, "polygonOf", "(I)I"⟩
abbrev cX10_screenOf : ByteArray := prog_1_method_17_code
def yX10_screenOf : MethodName := ⟨RX10, "screenOf", "(III)I"⟩
abbrev cX10_piecesOf : ByteArray := prog_1_method_18_code
def yX10_piecesOf : MethodName := ⟨RX10, "piecesOf", "(I)I"⟩
abbrev cX10_pointsOf : ByteArray := prog_1_method_19_code
def yX10_pointsOf : MethodName := ⟨RX10, "pointsOf", "(I)I"⟩
abbrev cX10_liesIn : ByteArray := prog_1_method_20_code
def yX10_liesIn : MethodName := ⟨RX10, "liesIn", "(III)Z"⟩
abbrev cX10_depthOf : ByteArray := prog_1_method_21_code
def yX10_depthOf : MethodName := ⟨RX10, "depthOf", "(III)I"⟩
abbrev cX10_colourOf : ByteArray := prog_1_method_22_code
def yX10_colourOf : MethodName := ⟨RX10, "colourOf", "(III)I"⟩
abbrev cX10_paint : ByteArray := prog_1_method_24_code
def yX10_paint : MethodName := ⟨RX10, "paint", "()I"⟩
abbrev cX10_stale : ByteArray := prog_1_method_25_code
def yX10_stale : MethodName := ⟨RX10, "stale", "()I"⟩
abbrev cX10_colourAt : ByteArray := prog_1_method_27_code
def yX10_colourAt : MethodName := ⟨RX10, "colourAt", "(II)I"⟩
abbrev cX10_depthAt : ByteArray := prog_1_method_28_code
def yX10_depthAt : MethodName := ⟨RX10, "depthAt", "(II)I"⟩
abbrev cX10_paneAt : ByteArray := prog_1_method_29_code
def yX10_paneAt : MethodName := ⟨RX10, "paneAt", "(II)I"⟩
abbrev cX10_pointsWith : ByteArray := prog_1_method_30_code
def yX10_pointsWith : MethodName := ⟨RX10, "pointsWith", "(I)I"⟩
abbrev cX10_colours : ByteArray := prog_1_method_31_code
def yX10_colours : MethodName := ⟨RX10, "colours", "()I"⟩
abbrev cX10_seenOf : ByteArray := prog_1_method_33_code
def yX10_seenOf : MethodName := ⟨RX10, "seenOf", "(I)I"⟩
abbrev cX10_greatest : ByteArray := prog_1_method_34_code
def yX10_greatest : MethodName := ⟨RX10, "greatest", "()I"⟩
abbrev cX10_digest : ByteArray := prog_1_method_37_code
def yX10_digest : MethodName := ⟨RX10, "digest", "()J"⟩
abbrev cX10_digestPane : ByteArray := prog_1_method_38_code
def yX10_digestPane : MethodName := ⟨RX10, "digestPane", "(JI)J"⟩
abbrev cX10_isWithin : ByteArray := prog_1_method_39_code
def yX10_isWithin : MethodName := ⟨RX10, "isWithin", "(III)Z"⟩
abbrev cX10_requireCorner : ByteArray := prog_1_method_40_code
def yX10_requireCorner : MethodName := ⟨RX10, "requireCorner", "(I)V"⟩
abbrev cX10_requirePane : ByteArray := prog_1_method_41_code
def yX10_requirePane : MethodName := ⟨RX10, "requirePane", "(I)V"⟩
abbrev cX10_requireSpot : ByteArray := prog_1_method_42_code
def yX10_requireSpot : MethodName := ⟨RX10, "requireSpot", "(I)V"⟩
abbrev cX10_requirePattern : ByteArray := prog_1_method_43_code
def yX10_requirePattern : MethodName := ⟨RX10, "requirePattern", "(I)V"⟩
abbrev cX10_requireCameraRow : ByteArray := prog_1_method_44_code
def yX10_requireCameraRow : MethodName := ⟨RX10, "requireCameraRow", "(I)V"⟩
abbrev cX10_requirePoint : ByteArray := prog_1_method_45_code
def yX10_requirePoint : MethodName := ⟨RX10, "requirePoint", "(II)V"⟩
abbrev cX10_requirePlace : ByteArray := prog_1_method_46_code
def yX10_requirePlace : MethodName := ⟨RX10, "requirePlace", "(III)V"⟩
abbrev cX10_requireColour : ByteArray := prog_1_method_47_code
def yX10_requireColour : MethodName := ⟨RX10, "requireColour", "(I)V"⟩
abbrev cX10_cutDown : ByteArray := prog_1_method_48_code
def yX10_cutDown : MethodName := ⟨RX10, "cutDown", "(JJ)J"⟩
abbrev cX10_cutToScreenLimit : ByteArray := prog_1_method_49_code
def yX10_cutToScreenLimit : MethodName := ⟨RX10, "cutToScreenLimit", "(I)I"⟩
abbrev cX10_redOf : ByteArray := prog_1_method_50_code
def yX10_redOf : MethodName := ⟨RX10, "redOf", "(I)I"⟩
abbrev cX10_greenOf : ByteArray := prog_1_method_51_code
def yX10_greenOf : MethodName := ⟨RX10, "greenOf", "(I)I"⟩
abbrev cX10_blueOf : ByteArray := prog_1_method_52_code
def yX10_blueOf : MethodName := ⟨RX10, "blueOf", "(I)I"⟩
abbrev cX10_mixed : ByteArray := prog_1_method_53_code
def yX10_mixed : MethodName := ⟨RX10, "mixed", "(III)I"⟩
abbrev cX10_halfOfBoth : ByteArray := prog_1_method_54_code
def yX10_halfOfBoth : MethodName := ⟨RX10, "halfOfBoth", "(II)I"⟩
abbrev cX10_cornersInFront : ByteArray := prog_1_method_55_code
def yX10_cornersInFront : MethodName := ⟨RX10, "cornersInFront", "()I"⟩
abbrev cX10_formShape : ByteArray := prog_1_method_56_code
def yX10_formShape : MethodName := ⟨RX10, "formShape", "(I)V"⟩
abbrev cX10_colourHere : ByteArray := prog_1_method_57_code
def yX10_colourHere : MethodName := ⟨RX10, "colourHere", "(LGlassRaster$Pane;LGlassRaster$Piece;)I"⟩
abbrev cX10_countStaleTiles : ByteArray := prog_1_method_58_code
def yX10_countStaleTiles : MethodName := ⟨RX10, "countStaleTiles", "()I"⟩
abbrev cX10_spanTile : ByteArray := prog_1_method_59_code
def yX10_spanTile : MethodName := ⟨RX10, "spanTile", "(I)V"⟩
abbrev cX10_draw : ByteArray := prog_1_method_60_code
def yX10_draw : MethodName := ⟨RX10, "draw", "(LGlassRaster$Screen;LGlassRaster$Box;I)V"⟩
abbrev cX10_drawPane : ByteArray := prog_1_method_61_code
def yX10_drawPane : MethodName := ⟨RX10, "drawPane", "(LGlassRaster$Screen;LGlassRaster$Box;I)Z"⟩
abbrev cX10_drawPiece : ByteArray := prog_1_method_62_code
def yX10_drawPiece : MethodName := ⟨RX10, "drawPiece", "(LGlassRaster$Screen;LGlassRaster$Box;ILGlassRaster$Piece;)Z"⟩
abbrev cX10_paintPoint : ByteArray := prog_1_method_63_code
def yX10_paintPoint : MethodName := ⟨RX10, "paintPoint", "(LGlassRaster$Screen;IILGlassRaster$Piece;)Z"⟩
def RX11 : String := "GlassRasterLaw$Scene"
def TX11 : u_T := fun k => match k with
  | 0 => ("GlassRasterLaw$Scene", "m", "LGlassRaster;", true)
  | 1 => ("GlassRasterLaw$Scene", "s", "[I", true)
  | 2 => ("GlassRasterLaw$Scene", "draws", "I", false)
  | 3 => ("GlassRasterLaw$Scene", "corners", "I", false)
  | 4 => ("GlassRasterLaw$Scene", "panes", "I", false)
  | 5 => ("GlassRasterLaw$Scene", "corner", "[[I", true)
  | 6 => ("GlassRasterLaw$Scene", "pane", "[[I", true)
  | 7 => ("GlassRasterLaw$Scene", "is", "[[Z", true)
  | 8 => ("GlassRasterLaw$Scene", "camera", "[[I", true)
  | 9 => ("GlassRasterLaw$Scene", "pattern", "[[I", true)
  | 10 => ("GlassRasterLaw$Scene", "repeats", "[Z", true)
  | 11 => ("GlassRasterLaw$Scene", "near", "I", false)
  | 12 => ("GlassRasterLaw$Scene", "focus", "I", false)
  | _ => ("GlassRasterLaw$Scene", "background", "I", false)
def tyX11 : Nat → FieldType := fun k => match k with
  | 0 => .object "GlassRaster"
  | 1 => .array .int
  | 2 => .int
  | 3 => .int
  | 4 => .int
  | 5 => .array (.array .int)
  | 6 => .array (.array .int)
  | 7 => .array (.array .boolean)
  | 8 => .array (.array .int)
  | 9 => .array (.array .int)
  | 10 => .array .boolean
  | 11 => .int
  | 12 => .int
  | _ => .int
abbrev wsX110 : List Cond := u_ws RX11 TX11 14
theorem nmX11 : ∀ a, a < 14 → ∀ b, b < 14 → a ≠ b → (TX11 a).2.1 ≠ (TX11 b).2.1 := by decide +kernel
theorem tyX11_ok : ∀ k, k < 14 → parseFieldDescriptor (TX11 k).2.2.1 = some (tyX11 k) := by decide +kernel
abbrev cX11_init : ByteArray := prog_13_method_1_code
def yX11_init : MethodName := ⟨RX11, "<init>", "([II)V"⟩
abbrev cX11_draw : ByteArray := prog_13_method_2_code
def yX11_draw : MethodName := ⟨RX11, "draw", "(I)I"⟩
abbrev cX11_between : ByteArray := prog_13_method_3_code
def yX11_between : MethodName := ⟨RX11, "between", "(II)I"⟩
abbrev cX11_colour : ByteArray := prog_13_method_4_code
def yX11_colour : MethodName := ⟨RX11, "colour", "()I"⟩
abbrev cX11_addCorner : ByteArray := prog_13_method_5_code
def yX11_addCorner : MethodName := ⟨RX11, "addCorner", "()Z"⟩
abbrev cX11_addPane : ByteArray := prog_13_method_6_code
def yX11_addPane : MethodName := ⟨RX11, "addPane", "()Z"⟩
abbrev cX11_colourPattern : ByteArray := prog_13_method_7_code
def yX11_colourPattern : MethodName := ⟨RX11, "colourPattern", "()Z"⟩
abbrev cX11_build : ByteArray := prog_13_method_8_code
def yX11_build : MethodName := ⟨RX11, "build", "(II)Z"⟩
abbrev cX11_seen : ByteArray := prog_13_method_9_code
def yX11_seen : MethodName := ⟨RX11, "seen", "(II)I"⟩
abbrev cX11_inFront : ByteArray := prog_13_method_10_code
def yX11_inFront : MethodName := ⟨RX11, "inFront", "()I"⟩
abbrev cX11_turnCamera : ByteArray := prog_13_method_11_code
def yX11_turnCamera : MethodName := ⟨RX11, "turnCamera", "(I)Z"⟩
abbrev cX11_setLens : ByteArray := prog_13_method_12_code
def yX11_setLens : MethodName := ⟨RX11, "setLens", "()Z"⟩
abbrev cX11_move : ByteArray := prog_13_method_13_code
def yX11_move : MethodName := ⟨RX11, "move", "(I)Z"⟩
abbrev cX11_change : ByteArray := prog_13_method_14_code
def yX11_change : MethodName := ⟨RX11, "change", "()Z"⟩
def RX12 : String := "GlassRasterModel"
def TX12 : u_T := fun k => match k with
  | _ => ("", "", "", false)
def tyX12 : Nat → FieldType := fun k => match k with
  | _ => .int
abbrev wsX120 : List Cond := u_ws RX12 TX12 0
theorem nmX12 : ∀ a, a < 0 → ∀ b, b < 0 → a ≠ b → (TX12 a).2.1 ≠ (TX12 b).2.1 := by decide +kernel
theorem tyX12_ok : ∀ k, k < 0 → parseFieldDescriptor (TX12 k).2.2.1 = some (tyX12 k) := by decide +kernel
def RJ9 : String := "java/lang/Math"
abbrev cJ9_floorDiv_7cf53 : ByteArray := prog_19_method_47_code
def yJ9_floorDiv_7cf53 : MethodName := ⟨RJ9, "floorDiv", "(II)I"⟩
abbrev cJ9_floorDiv_f86c9 : ByteArray := prog_19_method_49_code
def yJ9_floorDiv_f86c9 : MethodName := ⟨RJ9, "floorDiv", "(JJ)J"⟩
abbrev cJ9_abs_067f4 : ByteArray := prog_19_method_61_code
def yJ9_abs_067f4 : MethodName := ⟨RJ9, "abs", "(J)J"⟩
abbrev cJ9_max_7cf53 : ByteArray := prog_19_method_65_code
def yJ9_max_7cf53 : MethodName := ⟨RJ9, "max", "(II)I"⟩
abbrev cJ9_min_7cf53 : ByteArray := prog_19_method_69_code
def yJ9_min_7cf53 : MethodName := ⟨RJ9, "min", "(II)I"⟩
def RJ0 : String := "java/lang/String"
def RJ10 : String := "java/lang/System"
def RJ7 : String := "java/util/Arrays"
abbrev cJ7_fill_53178 : ByteArray := prog_24_method_103_code
def yJ7_fill_53178 : MethodName := ⟨RJ7, "fill", "([II)V"⟩
def RL : String := "GlassRasterLaw"
abbrev cL_below : ByteArray := method_2_code
def yL_below : MethodName := ⟨RL, "below", "(II)I"⟩
abbrev cL_cell : ByteArray := method_3_code
def yL_cell : MethodName := ⟨RL, "cell", "([II)I"⟩
abbrev cL_law : ByteArray := code
def yL_law : MethodName := ⟨RL, "law", "([I)Z"⟩
abbrev vwCl : List vw_C := [(RX0, TX0, 4), (RX1, TX1, 3), (RX2, TX2, 2), (RX3, TX3, 6), (RX4, TX4, 7), (RX5, TX5, 2), (RX6, TX6, 9), (RX7, TX7, 3), (RX8, TX8, 4), (RX9, TX9, 12), (RX10, TX10, 15), (RX11, TX11, 14)]
end
section
/-! THE WORLD: ids of cells, what each is, the memory, the list of all cells -/
/-- what the cell of an id is: (tag, length): tags 0..11 the classes in the order of vwCl, 20 int[], 21 long[], 22 boolean[], 23..27 arrays of objects, 28 int[][] -/
def gK_tbl : List (Nat × Nat) := [(10, 0), (23, 40), (24, 30), (25, 4), (1, 0), (20, 12), (8, 0), (26, 3), (9, 0), (9, 0), (9, 0), (26, 4), (9, 0), (9, 0), (9, 0), (9, 0), (27, 2), (6, 0), (0, 0), (9, 0), (9, 0), (9, 0), (6, 0), (0, 0), (9, 0), (9, 0), (9, 0), (7, 0), (20, 960), (20, 960), (20, 960), (7, 0), (20, 960), (20, 960), (20, 960), (7, 0), (20, 960), (20, 960), (20, 960), (2, 0), (20, 2048), (20, 30), (0, 0), (0, 0), (3, 0), (3, 0), (3, 0), (3, 0), (3, 0), (3, 0), (3, 0), (3, 0), (3, 0), (3, 0), (3, 0), (3, 0), (3, 0), (3, 0), (3, 0), (3, 0), (3, 0), (3, 0), (3, 0), (3, 0), (3, 0), (3, 0), (3, 0), (3, 0), (3, 0), (3, 0), (3, 0), (3, 0), (3, 0), (3, 0), (3, 0), (3, 0), (3, 0), (3, 0), (3, 0), (3, 0), (3, 0), (3, 0), (3, 0), (3, 0), (4, 0), (4, 0), (4, 0), (4, 0), (4, 0), (4, 0), (4, 0), (4, 0), (4, 0), (4, 0), (4, 0), (4, 0), (4, 0), (4, 0), (4, 0), (4, 0), (4, 0), (4, 0), (4, 0), (4, 0), (4, 0), (4, 0), (4, 0), (4, 0), (4, 0), (4, 0), (4, 0), (4, 0), (4, 0), (4, 0), (5, 0), (20, 64), (5, 0), (20, 64), (5, 0), (20, 64), (5, 0), (20, 64), (11, 0), (28, 40), (28, 30), (29, 30), (28, 3), (28, 4), (22, 4), (20, 64), (20, 64), (20, 64), (20, 64), (20, 6), (20, 6), (20, 6), (20, 6), (20, 6), (20, 6), (20, 6), (20, 6), (20, 6), (20, 6), (20, 6), (20, 6), (20, 6), (20, 6), (20, 6), (20, 6), (20, 6), (20, 6), (20, 6), (20, 6), (20, 6), (20, 6), (20, 6), (20, 6), (20, 6), (20, 6), (20, 6), (20, 6), (20, 6), (20, 6), (20, 6), (20, 6), (20, 6), (20, 6), (20, 6), (20, 6), (20, 6), (20, 6), (20, 6), (20, 6), (20, 4), (20, 4), (20, 4), (20, 4), (20, 4), (20, 4), (20, 4), (20, 4), (20, 4), (20, 4), (20, 4), (20, 4), (20, 4), (20, 4), (20, 4), (20, 4), (20, 4), (20, 4), (20, 4), (20, 4), (20, 4), (20, 4), (20, 4), (20, 4), (20, 4), (20, 4), (20, 4), (20, 4), (20, 4), (20, 4), (22, 3), (22, 3), (22, 3), (22, 3), (22, 3), (22, 3), (22, 3), (22, 3), (22, 3), (22, 3), (22, 3), (22, 3), (22, 3), (22, 3), (22, 3), (22, 3), (22, 3), (22, 3), (22, 3), (22, 3), (22, 3), (22, 3), (22, 3), (22, 3), (22, 3), (22, 3), (22, 3), (22, 3), (22, 3), (22, 3), (20, 4), (20, 4), (20, 4), (30, 6), (30, 4), (31, 3), (30, 3)]
def gK (g : Nat) : Nat × Nat := gK_tbl.getD g (99, 0)
def gT (g : Nat) : Nat := (gK g).1
def gN (g : Nat) : Nat := (gK g).2
def gn : Nat := 236
def gm : Nat := 240
theorem gT_lm {g : Nat} (h : gT g ≠ 99) : g < gm := by
  rcases Nat.lt_or_ge g gm with q | q
  · exact q
  · exact absurd (show gT g = 99 by unfold gT gK; rw [List.getD_eq_getElem?_getD, List.getElem?_eq_none (by exact q)]; rfl) h
theorem gT_lt {g : Nat} (h : gT g < 30) : g < gn := by
  have h1 : g < gm := gT_lm (by omega)
  rcases Nat.lt_or_ge g gn with q | q
  · exact q
  · have h2 : g = 236 ∨ g = 237 ∨ g = 238 ∨ g = 239 := by unfold gm at h1; unfold gn at q; omega
    rcases h2 with rfl | rfl | rfl | rfl <;> exact absurd h (by decide +kernel)
/-- the id that a fixed array of references holds at a place -/
def gR (g j : Nat) : Nat := if g = 1 then 44 + j else if g = 2 then 84 + j else if g = 3 then 114 + 2 * j else if g = 7 then 8 + j else if g = 11 then 12 + j else if g = 16 then 17 + 5 * j else if g = 123 then 133 + j else if g = 124 then 173 + j else if g = 125 then 203 + j else if g = 126 then 233 + j else if g = 127 then 129 + j else 0
abbrev GM := (Nat → Nat → Int32) × (Nat → Nat → Int64) × (Nat → Nat → Nat)
def gI (M : GM) (g k : Nat) : Int32 := M.1 g k
def gL (M : GM) (g k : Nat) : Int64 := M.2.1 g k
def gP (M : GM) (g k : Nat) : Nat := M.2.2 g k
def u2 {α : Type} (f : Nat → Nat → α) (g k : Nat) (v : α) : Nat → Nat → α := fun g9 k9 => if g9 = g ∧ k9 = k then v else f g9 k9
def sI (M : GM) (g k : Nat) (v : Int32) : GM := (u2 M.1 g k v, M.2)
def sL (M : GM) (g k : Nat) (v : Int64) : GM := (M.1, u2 M.2.1 g k v, M.2.2)
def sP (M : GM) (g k : Nat) (v : Nat) : GM := (M.1, M.2.1, u2 M.2.2 g k v)
/-- n ints of the row g from k on, by f -/
def sC (M : GM) (g k n : Nat) (f : Nat → Int32) : GM := (fun g9 k9 => if g9 = g ∧ k ≤ k9 ∧ k9 < k + n then f (k9 - k) else M.1 g9 k9, M.2)
/-- class ids and slots, array classes by tag, addresses of ids, the least address, the rows just made that are in no place yet (236 + t), the script (its address, length, ints) -/
abbrev GZ := va_G × (Nat → ClassId) × (Nat → Nat) × Nat × List Nat × Nat × Nat × (Nat → Int32)
abbrev gD (z : GZ) : va_G := z.1
abbrev gcy (z : GZ) : Nat → ClassId := z.2.1
abbrev gad (z : GZ) : Nat → Nat := z.2.2.1
abbrev gB (z : GZ) : Nat := z.2.2.2.1
abbrev gtz (z : GZ) : List Nat := z.2.2.2.2.1
abbrev gsa (z : GZ) : Nat := z.2.2.2.2.2.1
abbrev gsl (z : GZ) : Nat := z.2.2.2.2.2.2.1
abbrev gsx (z : GZ) : Nat → Int32 := z.2.2.2.2.2.2.2
def gE (z : GZ) (M : GM) (g : Nat) : va_E := match gT g with
  | 0 => .inr (0, [.int (gI M g 0), .int (gI M g 1), .int (gI M g 2), .int (gI M g 3)])
  | 1 => .inr (1, [.ref (gad z (g + 1)), .int (gI M g 1), .int (gI M g 2)])
  | 2 => .inr (2, [.ref (gad z (g + 1)), .int (gI M g 1)])
  | 3 => .inr (3, [.int (gI M g 0), .int (gI M g 1), .int (gI M g 2), .int (gI M g 3), .int (gI M g 4), .int (gI M g 5)])
  | 4 => .inr (4, [.int (gI M g 0), .int (gI M g 1), .int (gI M g 2), .int (gI M g 3), .int (gI M g 4), .int (gI M g 5), .int (gI M g 6)])
  | 5 => .inr (5, [.ref (gad z (g + 1)), .int (gI M g 1)])
  | 6 => .inr (6, [.ref (gad z (g + 1)), .ref (gad z (gP M g 1)), .ref (gad z (gP M g 2)), .ref (gad z (gP M g 3)), .long (gL M g 4), .int (gI M g 5), .long (gL M g 6), .long (gL M g 7), .long (gL M g 8)])
  | 7 => .inr (7, [.ref (gad z (g + 1)), .ref (gad z (g + 2)), .ref (gad z (g + 3))])
  | 8 => .inr (8, [.ref (gad z (g + 1)), .ref (gad z (g + 5)), .ref (gad z (g + 10)), .int (gI M g 3)])
  | 9 => .inr (9, [.int (gI M g 0), .int (gI M g 1), .int (gI M g 2), .int (gI M g 3), .int (gI M g 4), .int (gI M g 5), .int (gI M g 6), .int (gI M g 7), .int (gI M g 8), .int (gI M g 9), .int (gI M g 10), .int (gI M g 11)])
  | 10 => .inr (10, [.ref (gad z 1), .ref (gad z 2), .ref (gad z 3), .ref (gad z 4), .ref (gad z 6), .ref (gad z 27), .ref (gad z 31), .ref (gad z 35), .ref (gad z 39), .ref (gad z 41), .ref (gad z 42), .ref (gad z 43), .int (gI M g 12), .int (gI M g 13), .int (gI M g 14)])
  | 11 => .inr (11, [.ref (gad z 0), .ref (gsa z), .int (gI M g 2), .int (gI M g 3), .int (gI M g 4), .ref (gad z 123), .ref (gad z 124), .ref (gad z 125), .ref (gad z 126), .ref (gad z 127), .ref (gad z 128), .int (gI M g 11), .int (gI M g 12), .int (gI M g 13)])
  | 20 => .inl (gcy z 20, (gN g, .inl (fun j => gI M g j)))
  | 21 => .inl (gcy z 21, (gN g, .inr (.inl (fun j => gL M g j))))
  | 22 => .inl (gcy z 22, (gN g, .inl (fun j => gI M g j)))
  | 23 => .inl (gcy z 23, (gN g, .inr (.inr (.inr (.inr (fun j => some (gad z (gR g j))))))))
  | 24 => .inl (gcy z 24, (gN g, .inr (.inr (.inr (.inr (fun j => some (gad z (gR g j))))))))
  | 25 => .inl (gcy z 25, (gN g, .inr (.inr (.inr (.inr (fun j => some (gad z (gR g j))))))))
  | 26 => .inl (gcy z 26, (gN g, .inr (.inr (.inr (.inr (fun j => some (gad z (gR g j))))))))
  | 27 => .inl (gcy z 27, (gN g, .inr (.inr (.inr (.inr (fun j => some (gad z (gR g j))))))))
  | 28 => .inl (gcy z 28, (gN g, .inr (.inr (.inr (.inr (fun j => some (gad z (gR g j))))))))
  | 29 => .inl (gcy z 29, (gN g, .inr (.inr (.inr (.inr (fun j => some (gad z (gR g j))))))))
  | 30 => .inl (gcy z 20, (gN g, .inl (fun j => gI M g j)))
  | 31 => .inl (gcy z 22, (gN g, .inl (fun j => gI M g j)))
  | _ => .inr (0, [])
theorem gE_0 {z : GZ} {M : GM} {g : Nat} (h : gT g = 0) : gE z M g = .inr (0, [.int (gI M g 0), .int (gI M g 1), .int (gI M g 2), .int (gI M g 3)]) := by unfold gE; simp only [h]
theorem gE_1 {z : GZ} {M : GM} {g : Nat} (h : gT g = 1) : gE z M g = .inr (1, [.ref (gad z (g + 1)), .int (gI M g 1), .int (gI M g 2)]) := by unfold gE; simp only [h]
theorem gE_2 {z : GZ} {M : GM} {g : Nat} (h : gT g = 2) : gE z M g = .inr (2, [.ref (gad z (g + 1)), .int (gI M g 1)]) := by unfold gE; simp only [h]
theorem gE_3 {z : GZ} {M : GM} {g : Nat} (h : gT g = 3) : gE z M g = .inr (3, [.int (gI M g 0), .int (gI M g 1), .int (gI M g 2), .int (gI M g 3), .int (gI M g 4), .int (gI M g 5)]) := by unfold gE; simp only [h]
theorem gE_4 {z : GZ} {M : GM} {g : Nat} (h : gT g = 4) : gE z M g = .inr (4, [.int (gI M g 0), .int (gI M g 1), .int (gI M g 2), .int (gI M g 3), .int (gI M g 4), .int (gI M g 5), .int (gI M g 6)]) := by unfold gE; simp only [h]
theorem gE_5 {z : GZ} {M : GM} {g : Nat} (h : gT g = 5) : gE z M g = .inr (5, [.ref (gad z (g + 1)), .int (gI M g 1)]) := by unfold gE; simp only [h]
theorem gE_6 {z : GZ} {M : GM} {g : Nat} (h : gT g = 6) : gE z M g = .inr (6, [.ref (gad z (g + 1)), .ref (gad z (gP M g 1)), .ref (gad z (gP M g 2)), .ref (gad z (gP M g 3)), .long (gL M g 4), .int (gI M g 5), .long (gL M g 6), .long (gL M g 7), .long (gL M g 8)]) := by unfold gE; simp only [h]
theorem gE_7 {z : GZ} {M : GM} {g : Nat} (h : gT g = 7) : gE z M g = .inr (7, [.ref (gad z (g + 1)), .ref (gad z (g + 2)), .ref (gad z (g + 3))]) := by unfold gE; simp only [h]
theorem gE_8 {z : GZ} {M : GM} {g : Nat} (h : gT g = 8) : gE z M g = .inr (8, [.ref (gad z (g + 1)), .ref (gad z (g + 5)), .ref (gad z (g + 10)), .int (gI M g 3)]) := by unfold gE; simp only [h]
theorem gE_9 {z : GZ} {M : GM} {g : Nat} (h : gT g = 9) : gE z M g = .inr (9, [.int (gI M g 0), .int (gI M g 1), .int (gI M g 2), .int (gI M g 3), .int (gI M g 4), .int (gI M g 5), .int (gI M g 6), .int (gI M g 7), .int (gI M g 8), .int (gI M g 9), .int (gI M g 10), .int (gI M g 11)]) := by unfold gE; simp only [h]
theorem gE_10 {z : GZ} {M : GM} {g : Nat} (h : gT g = 10) : gE z M g = .inr (10, [.ref (gad z 1), .ref (gad z 2), .ref (gad z 3), .ref (gad z 4), .ref (gad z 6), .ref (gad z 27), .ref (gad z 31), .ref (gad z 35), .ref (gad z 39), .ref (gad z 41), .ref (gad z 42), .ref (gad z 43), .int (gI M g 12), .int (gI M g 13), .int (gI M g 14)]) := by unfold gE; simp only [h]
theorem gE_11 {z : GZ} {M : GM} {g : Nat} (h : gT g = 11) : gE z M g = .inr (11, [.ref (gad z 0), .ref (gsa z), .int (gI M g 2), .int (gI M g 3), .int (gI M g 4), .ref (gad z 123), .ref (gad z 124), .ref (gad z 125), .ref (gad z 126), .ref (gad z 127), .ref (gad z 128), .int (gI M g 11), .int (gI M g 12), .int (gI M g 13)]) := by unfold gE; simp only [h]
theorem gE_20 {z : GZ} {M : GM} {g : Nat} (h : gT g = 20) : gE z M g = .inl (gcy z 20, (gN g, .inl (fun j => gI M g j))) := by unfold gE; simp only [h]
theorem gE_21 {z : GZ} {M : GM} {g : Nat} (h : gT g = 21) : gE z M g = .inl (gcy z 21, (gN g, .inr (.inl (fun j => gL M g j)))) := by unfold gE; simp only [h]
theorem gE_22 {z : GZ} {M : GM} {g : Nat} (h : gT g = 22) : gE z M g = .inl (gcy z 22, (gN g, .inl (fun j => gI M g j))) := by unfold gE; simp only [h]
theorem gE_23 {z : GZ} {M : GM} {g : Nat} (h : gT g = 23) : gE z M g = .inl (gcy z 23, (gN g, .inr (.inr (.inr (.inr (fun j => some (gad z (gR g j)))))))) := by unfold gE; simp only [h]
theorem gE_24 {z : GZ} {M : GM} {g : Nat} (h : gT g = 24) : gE z M g = .inl (gcy z 24, (gN g, .inr (.inr (.inr (.inr (fun j => some (gad z (gR g j)))))))) := by unfold gE; simp only [h]
theorem gE_25 {z : GZ} {M : GM} {g : Nat} (h : gT g = 25) : gE z M g = .inl (gcy z 25, (gN g, .inr (.inr (.inr (.inr (fun j => some (gad z (gR g j)))))))) := by unfold gE; simp only [h]
theorem gE_26 {z : GZ} {M : GM} {g : Nat} (h : gT g = 26) : gE z M g = .inl (gcy z 26, (gN g, .inr (.inr (.inr (.inr (fun j => some (gad z (gR g j)))))))) := by unfold gE; simp only [h]
theorem gE_27 {z : GZ} {M : GM} {g : Nat} (h : gT g = 27) : gE z M g = .inl (gcy z 27, (gN g, .inr (.inr (.inr (.inr (fun j => some (gad z (gR g j)))))))) := by unfold gE; simp only [h]
theorem gE_28 {z : GZ} {M : GM} {g : Nat} (h : gT g = 28) : gE z M g = .inl (gcy z 28, (gN g, .inr (.inr (.inr (.inr (fun j => some (gad z (gR g j)))))))) := by unfold gE; simp only [h]
theorem gE_29 {z : GZ} {M : GM} {g : Nat} (h : gT g = 29) : gE z M g = .inl (gcy z 29, (gN g, .inr (.inr (.inr (.inr (fun j => some (gad z (gR g j)))))))) := by unfold gE; simp only [h]
theorem gE_30 {z : GZ} {M : GM} {g : Nat} (h : gT g = 30) : gE z M g = .inl (gcy z 20, (gN g, .inl (fun j => gI M g j))) := by unfold gE; simp only [h]
theorem gE_31 {z : GZ} {M : GM} {g : Nat} (h : gT g = 31) : gE z M g = .inl (gcy z 22, (gN g, .inl (fun j => gI M g j))) := by unfold gE; simp only [h]
/-- the ids of a world: all that have a place, then the rows just made -/
def gL9 (z : GZ) : List Nat := List.range gn ++ (gtz z).map (fun t => 236 + t)
def gW (z : GZ) (M : GM) : va_W := (gL9 z).map (fun g => (gad z g, gE z M g))
theorem gL9_get (z : GZ) {g : Nat} (h : g < gn) : (gL9 z)[g]? = some g := by
  unfold gL9
  rw [List.getElem?_append_left (by rw [List.length_range]; exact h), List.getElem?_range h]
theorem gL9_of {z : GZ} {k g : Nat} (h : (gL9 z)[k]? = some g) : (k < gn ∧ g = k) ∨ (gn ≤ k ∧ gn ≤ g) := by
  unfold gL9 at h
  rcases Nat.lt_or_ge k gn with q | q
  · rw [List.getElem?_append_left (by rw [List.length_range]; exact q), List.getElem?_range q] at h
    exact Or.inl ⟨q, (Option.some.inj h).symm⟩
  · rw [List.getElem?_append_right (by rw [List.length_range]; exact q), List.getElem?_map] at h
    cases h2 : (gtz z)[k - (List.range gn).length]? with
    | none => rw [h2] at h; cases h
    | some t => rw [h2] at h; cases h; exact Or.inr ⟨q, Nat.le_add_right _ _⟩
theorem gW_get (z : GZ) (M : GM) {g : Nat} (h : g < gn) : (gW z M)[g]? = some (gad z g, gE z M g) := by unfold gW; rw [List.getElem?_map, gL9_get z h]; rfl
theorem gW_at {z : GZ} {M : GM} {g t : Nat} {e : va_E} (ht : gT g = t) (h9 : t < 30) (he : gE z M g = e) : (gW z M)[g]? = some (gad z g, e) := by rw [gW_get z M (gT_lt (by rw [ht]; exact h9)), he]
theorem gE_row {z : GZ} {M M' : GM} {g : Nat} (h1 : ∀ k, gI M' g k = gI M g k) (h2 : ∀ k, gL M' g k = gL M g k) (h3 : ∀ k, gP M' g k = gP M g k) : gE z M' g = gE z M g := by
  unfold gE
  simp only [h1, h2, h3]
theorem gW_set {z : GZ} {M M' : GM} {g : Nat} {e : va_E} (hg : gT g < 30) (he : gE z M' g = e) (ho : ∀ g9, g9 ≠ g → gE z M' g9 = gE z M g9) : (gW z M).set g (gad z g, e) = gW z M' := by
  have hg := gT_lt hg
  apply List.ext_getElem?
  intro j
  rw [List.getElem?_set]
  by_cases hj : g = j
  · subst hj
    rw [if_pos rfl]
    split
    · rw [gW_get z M' hg, he]
    · rename_i hl
      exact absurd ((List.getElem?_eq_some_iff.mp (gW_get z M hg)).1) hl
  · rw [if_neg hj]
    unfold gW
    rw [List.getElem?_map, List.getElem?_map]
    cases h : (gL9 z)[j]? with
    | none => rfl
    | some g9 =>
      have h2 : g9 ≠ g := by
        rcases gL9_of h with ⟨-, q⟩ | ⟨-, q⟩ <;> omega
      show some (gad z g9, gE z M g9) = some (gad z g9, gE z M' g9)
      rw [ho g9 h2]
theorem sI_eq (M : GM) (g k : Nat) (v : Int32) : gI (sI M g k v) g k = v := by simp [gI, sI, u2]
theorem sI_ne (M : GM) (g : Nat) {k k9 : Nat} (v : Int32) (h : k9 ≠ k) : gI (sI M g k v) g k9 = gI M g k9 := by simp [gI, sI, u2, h]
theorem sI_o (M : GM) {g g9 : Nat} (k k9 : Nat) (v : Int32) (h : g9 ≠ g) : gI (sI M g k v) g9 k9 = gI M g9 k9 := by simp [gI, sI, u2, h]
theorem sL_eq (M : GM) (g k : Nat) (v : Int64) : gL (sL M g k v) g k = v := by simp [gL, sL, u2]
theorem sL_ne (M : GM) (g : Nat) {k k9 : Nat} (v : Int64) (h : k9 ≠ k) : gL (sL M g k v) g k9 = gL M g k9 := by simp [gL, sL, u2, h]
theorem sL_o (M : GM) {g g9 : Nat} (k k9 : Nat) (v : Int64) (h : g9 ≠ g) : gL (sL M g k v) g9 k9 = gL M g9 k9 := by simp [gL, sL, u2, h]
theorem sP_eq (M : GM) (g k : Nat) (v : Nat) : gP (sP M g k v) g k = v := by simp [gP, sP, u2]
theorem sP_ne (M : GM) (g : Nat) {k k9 : Nat} (v : Nat) (h : k9 ≠ k) : gP (sP M g k v) g k9 = gP M g k9 := by simp [gP, sP, u2, h]
theorem sP_o (M : GM) {g g9 : Nat} (k k9 : Nat) (v : Nat) (h : g9 ≠ g) : gP (sP M g k v) g9 k9 = gP M g9 k9 := by simp [gP, sP, u2, h]
theorem gE_sI {z : GZ} {M : GM} {g k : Nat} {v : Int32} : ∀ g9, g9 ≠ g → gE z (sI M g k v) g9 = gE z M g9 := fun g9 h => gE_row (fun k9 => sI_o M k k9 v h) (fun _ => rfl) (fun _ => rfl)
theorem gE_sL {z : GZ} {M : GM} {g k : Nat} {v : Int64} : ∀ g9, g9 ≠ g → gE z (sL M g k v) g9 = gE z M g9 := fun g9 h => gE_row (fun _ => rfl) (fun k9 => sL_o M k k9 v h) (fun _ => rfl)
theorem gE_sP {z : GZ} {M : GM} {g k : Nat} {v : Nat} : ∀ g9, g9 ≠ g → gE z (sP M g k v) g9 = gE z M g9 := fun g9 h => gE_row (fun _ => rfl) (fun _ => rfl) (fun k9 => sP_o M k k9 v h)
theorem gE_sC {z : GZ} {M : GM} {g k n : Nat} {f : Nat → Int32} : ∀ g9, g9 ≠ g → gE z (sC M g k n f) g9 = gE z M g9 := fun g9 h => gE_row (fun k9 => by simp [gI, sC, h]) (fun _ => rfl) (fun _ => rfl)
/-- every reference that Piece keeps is a Spot -/
def gOK (M : GM) : Prop := ∀ g k, gT (gP M g k) = 9
theorem gOK_sP {M : GM} {g k v : Nat} (h : gOK M) (hv : gT v = 9) : gOK (sP M g k v) := by
  intro a b
  by_cases q : a = g ∧ b = k
  · obtain ⟨rfl, rfl⟩ := q
    rw [sP_eq]; exact hv
  · have : gP (sP M g k v) a b = gP M a b := by simp [gP, sP, u2, q]
    rw [this]; exact h a b
theorem gT_1_rows {g : Nat} (h : gT g = 1) : gT (g + 1) = 20 := (by decide +kernel : ∀ g, g < gn → gT g = 1 → gT (g + 1) = 20) g (gT_lt (by rw [h]; decide)) h
theorem gN_1_rows {g : Nat} (h : gT g = 1) : gN (g + 1) = 12 := (by decide +kernel : ∀ g, g < gn → gT g = 1 → gN (g + 1) = 12) g (gT_lt (by rw [h]; decide)) h
theorem gT_2_places {g : Nat} (h : gT g = 2) : gT (g + 1) = 20 := (by decide +kernel : ∀ g, g < gn → gT g = 2 → gT (g + 1) = 20) g (gT_lt (by rw [h]; decide)) h
theorem gN_2_places {g : Nat} (h : gT g = 2) : gN (g + 1) = 2048 := (by decide +kernel : ∀ g, g < gn → gT g = 2 → gN (g + 1) = 2048) g (gT_lt (by rw [h]; decide)) h
theorem gT_5_tints {g : Nat} (h : gT g = 5) : gT (g + 1) = 20 := (by decide +kernel : ∀ g, g < gn → gT g = 5 → gT (g + 1) = 20) g (gT_lt (by rw [h]; decide)) h
theorem gN_5_tints {g : Nat} (h : gT g = 5) : gN (g + 1) = 64 := (by decide +kernel : ∀ g, g < gn → gT g = 5 → gN (g + 1) = 64) g (gT_lt (by rw [h]; decide)) h
theorem gT_6_box {g : Nat} (h : gT g = 6) : gT (g + 1) = 0 := (by decide +kernel : ∀ g, g < gn → gT g = 6 → gT (g + 1) = 0) g (gT_lt (by rw [h]; decide)) h
theorem gT_7_colours {g : Nat} (h : gT g = 7) : gT (g + 1) = 20 := (by decide +kernel : ∀ g, g < gn → gT g = 7 → gT (g + 1) = 20) g (gT_lt (by rw [h]; decide)) h
theorem gN_7_colours {g : Nat} (h : gT g = 7) : gN (g + 1) = 960 := (by decide +kernel : ∀ g, g < gn → gT g = 7 → gN (g + 1) = 960) g (gT_lt (by rw [h]; decide)) h
theorem gT_7_depths {g : Nat} (h : gT g = 7) : gT (g + 2) = 20 := (by decide +kernel : ∀ g, g < gn → gT g = 7 → gT (g + 2) = 20) g (gT_lt (by rw [h]; decide)) h
theorem gN_7_depths {g : Nat} (h : gT g = 7) : gN (g + 2) = 960 := (by decide +kernel : ∀ g, g < gn → gT g = 7 → gN (g + 2) = 960) g (gT_lt (by rw [h]; decide)) h
theorem gT_7_panes {g : Nat} (h : gT g = 7) : gT (g + 3) = 20 := (by decide +kernel : ∀ g, g < gn → gT g = 7 → gT (g + 3) = 20) g (gT_lt (by rw [h]; decide)) h
theorem gN_7_panes {g : Nat} (h : gT g = 7) : gN (g + 3) = 960 := (by decide +kernel : ∀ g, g < gn → gT g = 7 → gN (g + 3) = 960) g (gT_lt (by rw [h]; decide)) h
theorem gT_8_ends {g : Nat} (h : gT g = 8) : gT (g + 1) = 26 := (by decide +kernel : ∀ g, g < gn → gT g = 8 → gT (g + 1) = 26) g (gT_lt (by rw [h]; decide)) h
theorem gN_8_ends {g : Nat} (h : gT g = 8) : gN (g + 1) = 3 := (by decide +kernel : ∀ g, g < gn → gT g = 8 → gN (g + 1) = 3) g (gT_lt (by rw [h]; decide)) h
theorem gT_8_pieces {g : Nat} (h : gT g = 8) : gT (g + 10) = 27 := (by decide +kernel : ∀ g, g < gn → gT g = 8 → gT (g + 10) = 27) g (gT_lt (by rw [h]; decide)) h
theorem gN_8_pieces {g : Nat} (h : gT g = 8) : gN (g + 10) = 2 := (by decide +kernel : ∀ g, g < gn → gT g = 8 → gN (g + 10) = 2) g (gT_lt (by rw [h]; decide)) h
theorem gT_8_spots {g : Nat} (h : gT g = 8) : gT (g + 5) = 26 := (by decide +kernel : ∀ g, g < gn → gT g = 8 → gT (g + 5) = 26) g (gT_lt (by rw [h]; decide)) h
theorem gN_8_spots {g : Nat} (h : gT g = 8) : gN (g + 5) = 4 := (by decide +kernel : ∀ g, g < gn → gT g = 8 → gN (g + 5) = 4) g (gT_lt (by rw [h]; decide)) h
theorem gR_23 {g j : Nat} (h : gT g = 23) (hj : j < gN g) : gT (gR g j) = 3 := (by decide +kernel : ∀ g, g < gn → gT g = 23 → ∀ j, j < gN g → gT (gR g j) = 3) g (gT_lt (by rw [h]; decide)) h j hj
theorem gR_24 {g j : Nat} (h : gT g = 24) (hj : j < gN g) : gT (gR g j) = 4 := (by decide +kernel : ∀ g, g < gn → gT g = 24 → ∀ j, j < gN g → gT (gR g j) = 4) g (gT_lt (by rw [h]; decide)) h j hj
theorem gR_25 {g j : Nat} (h : gT g = 25) (hj : j < gN g) : gT (gR g j) = 5 := (by decide +kernel : ∀ g, g < gn → gT g = 25 → ∀ j, j < gN g → gT (gR g j) = 5) g (gT_lt (by rw [h]; decide)) h j hj
theorem gR_26 {g j : Nat} (h : gT g = 26) (hj : j < gN g) : gT (gR g j) = 9 := (by decide +kernel : ∀ g, g < gn → gT g = 26 → ∀ j, j < gN g → gT (gR g j) = 9) g (gT_lt (by rw [h]; decide)) h j hj
theorem gR_27 {g j : Nat} (h : gT g = 27) (hj : j < gN g) : gT (gR g j) = 6 := (by decide +kernel : ∀ g, g < gn → gT g = 27 → ∀ j, j < gN g → gT (gR g j) = 6) g (gT_lt (by rw [h]; decide)) h j hj
theorem gR_28 {g j : Nat} (h : gT g = 28) (hj : j < gN g) : gT (gR g j) = 20 := (by decide +kernel : ∀ g, g < gn → gT g = 28 → ∀ j, j < gN g → gT (gR g j) = 20) g (gT_lt (by rw [h]; decide)) h j hj
theorem gR_29 {g j : Nat} (h : gT g = 29) (hj : j < gN g) : gT (gR g j) = 22 := (by decide +kernel : ∀ g, g < gn → gT g = 29 → ∀ j, j < gN g → gT (gR g j) = 22) g (gT_lt (by rw [h]; decide)) h j hj
/-- an index within, to compute with -/
def gIn (i : Int32) (n : Nat) : Bool := !(decide (i < 0) || decide (n ≤ i.toNatClampNeg))
theorem gIn_in {i : Int32} {n : Nat} (h : gIn i n = true) : vp_in i n := by
  unfold gIn at h
  intro q
  rcases q with q | q <;> simp [q] at h
theorem gIn_lt {i : Int32} {n : Nat} (h : gIn i n = true) : i.toNatClampNeg < n := Nat.not_le.mp fun q => gIn_in h (Or.inr q)
/-- a truth value -/
def gTf (v : Int32) : Bool := decide (v = 0) || decide (v = 1)
theorem gTf_of {v : Int32} (h : gTf v = true) : v = 0 ∨ v = 1 := by simpa [gTf] using h
def bnd {α β : Type} (a : α) (k : α → β) : β := k a
theorem bnd_e {α β : Type} {a x : α} {k : α → β} {o : β} (e : x = a) (h : bnd a k = o) : k x = o := by subst e; exact h
def bndO {α β : Type} (a : Option α) (k : α → Option β) : Option β := match a with
  | some v => k v
  | none => none
theorem bndO_e {α β : Type} {a : Option α} {k : α → Option β} {o : β} (h : bndO a k = some o) : ∃ v, a = some v ∧ k v = some o := by
  cases a with
  | none => cases h
  | some v => exact ⟨v, rfl, h⟩
def bndT {ε α β : Type} (a : Option (ε ⊕ α)) (x : ε → Option β) (k : α → Option β) : Option β := match a with
  | some (.inl v) => x v
  | some (.inr v) => k v
  | none => none
theorem bndT_e {ε α β : Type} {a : Option (ε ⊕ α)} {x : ε → Option β} {k : α → Option β} {o : β} (h : bndT a x k = some o) : (∃ v, a = some (.inl v) ∧ x v = some o) ∨ ∃ v, a = some (.inr v) ∧ k v = some o := by
  cases a with
  | none => cases h
  | some v => cases v with
    | inl v => exact Or.inl ⟨v, rfl, h⟩
    | inr v => exact Or.inr ⟨v, rfl, h⟩
/-- behind a loop: on from its end, or a value that the method returns out of it -/
def bndL {ε α β : Type} (a : Option (ε ⊕ α)) (k : ε → Option β) (r : α → Option β) : Option β := bndT a k r
def grd {β : Type} (b : Bool) (t : Option β) : Option β := match b with
  | true => t
  | false => none
theorem grd_e {β : Type} {b : Bool} {t : Option β} {o : β} (h : grd b t = some o) : b = true ∧ t = some o := by
  cases b with
  | false => cases h
  | true => exact ⟨rfl, h⟩
theorem ite_t {α : Sort _} {c : Prop} [Decidable c] {a b o : α} (hc : c) (h : (if c then a else b) = o) : a = o := (if_pos hc).symm.trans h
theorem ite_f {α : Sort _} {c : Prop} [Decidable c] {a b o : α} (hc : ¬ c) (h : (if c then a else b) = o) : b = o := (if_neg hc).symm.trans h
end
section
/-! WORDS, CONTEXTS, ROWS -/
def GW : List Cond := lw_tbl.filter goodWord
theorem gw_mem {w : Cond} (i : Nat) (h : lw_tbl[i]? = some w) (hg : goodWord w = true) : w ∈ GW := List.mem_filter.mpr ⟨List.mem_of_getElem? h, hg⟩
theorem gw_good {w : Cond} (h : w ∈ GW) : (w.onTables && w.keeps) = true ∨ ∃ ty, w = .arrayClass ty := good_of_word (List.mem_filter.mp h).2
def gws (y : MethodName) (cc : ByteArray) (nL : Nat) (ret : Option FieldType) : List Cond := .code y cc nL ret :: GW
theorem gws_good {Ts : List Cond} {y : MethodName} {cc : ByteArray} {nL : Nat} {ret : Option FieldType} (hT : ∀ w ∈ GW, w ∈ Ts) (hc : Cond.code y cc nL ret ∈ GW) : GoodIn Ts (gws y cc nL ret) := fun w h => (List.mem_cons.mp h).elim (fun e => e ▸ ⟨hT _ hc, gw_good hc⟩) (fun h => ⟨hT _ h, gw_good h⟩)
def gTys (z : GZ) : List (ClassId × FieldType) := [(gcy z 20, .int), (gcy z 21, .long), (gcy z 22, .boolean), (gcy z 23, .object RX3), (gcy z 24, .object RX4), (gcy z 25, .object RX5), (gcy z 26, .object RX9), (gcy z 27, .object RX6), (gcy z 28, .array .int), (gcy z 29, .array .boolean)]
def gNest (U : State) : Prop := va_Nw (.methodLinkNest RX1 53 yX10_redOf RX10) U ∧ va_Nw (.methodLinkNest RX1 60 yX10_greenOf RX10) U ∧ va_Nw (.methodLinkNest RX1 66 yX10_blueOf RX10) U ∧ va_Nw (.methodLinkNest RX1 74 yX10_cutDown RX10) U ∧ va_Nw (.methodLinkNest RX9 49 yX10_isWithin RX10) U ∧ va_Nw (.methodLinkNest RX0 33 yX10_isWithin RX10) U ∧ va_Nw (.methodLinkNest RX11 54 yL_cell RL) U ∧ va_Nw (.methodLinkNest RX11 60 yL_below RL) U
theorem gNest.warm {s U : State} (hW : s.WarmedH U.vm) (h : gNest s) : gNest U := by
  obtain ⟨h0, h1, h2, h3, h4, h5, h6, h7⟩ := h
  exact ⟨va_Nw.warmM hW h0, va_Nw.warmM hW h1, va_Nw.warmM hW h2, va_Nw.warmM hW h3, va_Nw.warmM hW h4, va_Nw.warmM hW h5, va_Nw.warmM hW h6, va_Nw.warmM hW h7⟩
theorem gNest.same {s U : State} (hW : s.vm = U.vm) (h : gNest s) : gNest U := by
  obtain ⟨h0, h1, h2, h3, h4, h5, h6, h7⟩ := h
  exact ⟨va_Nw.same rfl hW h0, va_Nw.same rfl hW h1, va_Nw.same rfl hW h2, va_Nw.same rfl hW h3, va_Nw.same rfl hW h4, va_Nw.same rfl hW h5, va_Nw.same rfl hW h6, va_Nw.same rfl hW h7⟩
def gStrL : List (Nat × String) := [(391, "no such corner"), (405, "x, y or z is not -2000 to 2000"), (393, "no such pane"), (401, "x is not 0 to 39"), (403, "y is not 0 to 23"), (399, "row is not 0 to 2"), (395, "no such corner of the polygon"), (240, "what is not 0 to 3"), (408, "colour is not 0 to 16777215"), (92, "u or v is not 0 to 2047"), (103, "there are 40 corners"), (128, "two corners are the same"), (130, "pattern is not -1 to 3"), (132, "there are 30 panes"), (397, "pattern is not 0 to 3"), (158, "column or row is not 0 to 7"), (170, "a, b or c is not -4096 to 4096"), (172, "t is not -5000 to 5000"), (182, "near is not 1 to 1000"), (184, "focus is not 1 to 500")]
/-- the classes of the rows of rows -/
def gRR (z : GZ) (U : State) : Prop := (∃ kA : Class, U.vm.classes[gcy z 28]? = some kA ∧ kA.kind = .array (gcy z 20) (.array .int)) ∧ ∃ kA : Class, U.vm.classes[gcy z 29]? = some kA ∧ kA.kind = .array (gcy z 22) (.array .boolean)
theorem gRR.moved {z : GZ} {u U : State} (hvm : u.vm.Alike U.vm) (h : gRR z u) : gRR z U := by
  obtain ⟨⟨k1, h1, h2⟩, ⟨k3, h3, h4⟩⟩ := h
  obtain ⟨k1', hk1, he1⟩ := hvm.2.2 _ _ h1
  obtain ⟨k3', hk3, he3⟩ := hvm.2.2 _ _ h3
  exact ⟨⟨k1', hk1, by rw [he1]; exact h2⟩, ⟨k3', hk3, by rw [he3]; exact h4⟩⟩
/-- the script -/
def gSc (z : GZ) (U : State) : Prop := (va_X (gsa z) (gsl z) (gsx z) U U.heap ∧ ¬ gB z ≤ gsa z) ∧ gRR z U
theorem va_Xlt {b L : Nat} {f : Nat → Int32} {U : State} {H : Heap} (h : va_X b L f U H) : b < H.size := by
  obtain ⟨scr, h1, -⟩ := h
  exact (Array.getElem?_eq_some_iff.mp h1).1
theorem gSc.to {z : GZ} {s U : State} (hW : s.WarmedH U.vm) (hh : ∀ q : Nat, q < s.heap.size → ¬ gB z ≤ q → U.heap[q]? = s.heap[q]?) (h : gSc z s) : gSc z U := ⟨⟨va_X.moved hW.alike (h.1.1.kept (hh _ (va_Xlt h.1.1) h.1.2)), h.1.2⟩, h.2.moved hW.alike⟩
def gStr (U : State) : Prop := ∀ q ∈ gStrL, ∃ sa, vk_R RX10 q.1 q.2 sa U
def gFaceL : List Cond := [.castable "java/lang/IllegalArgumentException" "java/lang/IllegalArgumentException", .castable "java/lang/IllegalStateException" "java/lang/IllegalStateException", .castable "java/lang/IndexOutOfBoundsException" "java/lang/IndexOutOfBoundsException", .declares ⟨"java/lang/RuntimeException", "<init>", "()V"⟩, .declares ⟨"java/lang/RuntimeException", "<init>", "(Ljava/lang/String;)V"⟩, .declares ⟨"java/lang/Exception", "<init>", "()V"⟩, .declares ⟨"java/lang/Exception", "<init>", "(Ljava/lang/String;)V"⟩, .declares ⟨"java/lang/Throwable", "<init>", "()V"⟩, .declares ⟨"java/lang/Throwable", "<init>", "(Ljava/lang/String;)V"⟩]
def gFaceOK (w : Cond) : Prop := (∃ a b, w = .castable a b) ∨ ∃ y, w = .declares y
theorem gFaceL_ok : ∀ w ∈ gFaceL, gFaceOK w := by
  intro w hw
  simp only [gFaceL, List.mem_cons, List.not_mem_nil, or_false] at hw
  rcases hw with rfl | rfl | rfl | rfl | rfl | rfl | rfl | rfl | rfl
  all_goals first | exact Or.inl ⟨_, _, rfl⟩ | exact Or.inr ⟨_, rfl⟩
theorem gFace_moved {w : Cond} (hw : gFaceOK w) {u U : State} (hvm : u.vm.Alike U.vm) (h : va_Nw w u) : va_Nw w U := by
  have tr : ∀ {c : Cond}, c.onTables = true → c.before #[] (u.setVm U.vm) = true → c.before #[] U = true := by
    intro c hc h
    have e := Cond.onTables_vm (A := #[]) (A' := #[]) (U := u) (U' := U) U.vm c hc
    have hU : U.setVm U.vm = U := rfl
    rw [hU] at e
    rw [← e]
    exact h
  rcases hw with ⟨a, b, rfl⟩ | ⟨y, rfl⟩
  · exact tr rfl (by rw [Cond.castable_setVm hvm]; exact h)
  · exact tr rfl (by rw [Cond.declares_setVm hvm]; exact h)
theorem gFace_use {w : Cond} (hw : gFaceOK w) {A : Array Value} {U : State} (h : va_Nw w U) : w.before A U = true := by
  rcases hw with ⟨a, b, rfl⟩ | ⟨y, rfl⟩
  · exact va_Nw.use rfl h
  · exact va_Nw.use rfl h
def gKK (z : GZ) (U : State) : Prop := va_K (gD z) vwCl (gTys z) U ∧ gNest U ∧ gStr U ∧ vx_Zq Bundle.tN "UNASSIGNED_STACK" Bundle.steD (fun q => gB z ≤ q) U U.heap ∧ vx_Zq Bundle.tN "SUPPRESSED_SENTINEL" Bundle.listD (fun q => gB z ≤ q) U U.heap ∧ ((∀ M, va_D (fun q => gB z ≤ q) (gW z M)) ∧ gSc z U) ∧ ∀ w ∈ gFaceL, va_Nw w U
theorem gKK.to {z : GZ} {s U : State} (hW : s.WarmedH U.vm) (hh : ∀ q : Nat, q < s.heap.size → ¬ gB z ≤ q → U.heap[q]? = s.heap[q]?) (h : gKK z s) : gKK z U := by
  obtain ⟨h1, h2, h3, h4, h5, h6, h7⟩ := h
  exact ⟨va_K.moved hW.alike h1, gNest.warm hW h2, fun q hq => by obtain ⟨sa, w⟩ := h3 q hq; exact ⟨sa, vk_R.warm hW w⟩, vx_Zq.moved hW.alike (h4.kept hh), vx_Zq.moved hW.alike (h5.kept hh), ⟨h6.1, h6.2.to hW hh⟩, fun w hw => gFace_moved (gFaceL_ok w hw) hW.alike (h7 w hw)⟩
def gPre (z : GZ) (M : GM) (U : State) : Prop := va_P (gD z) vwCl (gW z M) U.heap ∧ gOK M ∧ gKK z U
def gPost (z : GZ) (M : GM) (st t : State) : Prop := va_P (gD z) vwCl (gW z M) t.heap ∧ gOK M ∧ va_F (fun q => gB z ≤ q) st t
theorem gPre.blind (z : GZ) (M : GM) (As : List Value) : FrameBlind (va_Pc As (gPre z M)) := by
  intro a U g mk h
  obtain ⟨e, h1, h2, h3, h4, h5, h6, h7, h8, h9⟩ := h
  have hv : (U.calling g mk a).vm = U.vm := rfl
  have hh : (U.calling g mk a).heap = U.heap := rfl
  refine ⟨e, h1, h2, va_K.moved (u := U) (U := U.calling g mk a) (Vm.Alike.refl U.vm) h3, gNest.same hv.symm h4, fun q hq => by obtain ⟨sa, w⟩ := h5 q hq; exact ⟨sa, vk_R.same hv w⟩, ?_, ?_, ⟨h8.1, ⟨va_X.moved (u := U) (U := U.calling g mk a) (Vm.Alike.refl U.vm) h8.2.1.1, h8.2.1.2⟩, gRR.moved (u := U) (U := U.calling g mk a) (Vm.Alike.refl U.vm) h8.2.2⟩, fun w hw => gFace_moved (u := U) (U := U.calling g mk a) (gFaceL_ok w hw) (Vm.Alike.refl U.vm) (h9 w hw)⟩
  · exact vx_Zq.moved (u := U) (U := U.calling g mk a) (Vm.Alike.refl U.vm) h6
  · exact vx_Zq.moved (u := U) (U := U.calling g mk a) (Vm.Alike.refl U.vm) h7
/-- what a method does: from the memory M with these arguments it returns r and leaves M1 -/
def gMet (l : Launch) (z : GZ) (y : MethodName) (cc : ByteArray) (nL : Nat) (ret : Option FieldType) (d : Nat) (As : List Value) (M : GM) (r : Option Value) (M1 : GM) : Prop :=
  Met l y (gws y cc nL ret) { frames := d, cells := 0, slots := 0, locals := 31 * d } (va_Pc As (gPre z M)) (fun _ st o t => o = .returned r ∧ gPost z M1 st t) 0 0 (fun q => gB z ≤ q)
/-- the classes that are thrown, by number -/
def gEx (n : Nat) : String := if n = 1 then "java/lang/IllegalArgumentException" else if n = 2 then "java/lang/IllegalStateException" else "java/lang/IndexOutOfBoundsException"
/-- .. it throws -/
def gMetX (l : Launch) (z : GZ) (y : MethodName) (cc : ByteArray) (nL : Nat) (ret : Option FieldType) (d : Nat) (As : List Value) (M : GM) (n : Nat) (M1 : GM) : Prop :=
  vx_Met l y (gws y cc nL ret) { frames := d, cells := 1, slots := 6, locals := 31 * d } (va_Pc As (gPre z M)) (fun _ _ _ _ => False) (fun E st t => E = gEx n ∧ gPost z M1 st t) 1 6 (fun q => gB z ≤ q)
abbrev GX := Program × Launch × Env × Room × State × MethodId × Array Value × List Frame × Method × Code × (State → Prop) × Nat × Nat × GZ
abbrev xp (x : GX) := x.1
abbrev xl (x : GX) := x.2.1
abbrev xe (x : GX) := x.2.2.1
abbrev xR (x : GX) := x.2.2.2.1
abbrev xs (x : GX) := x.2.2.2.2.1
abbrev xm (x : GX) := x.2.2.2.2.2.1
abbrev xargs (x : GX) := x.2.2.2.2.2.2.1
abbrev xbelow (x : GX) := x.2.2.2.2.2.2.2.1
abbrev xmeth (x : GX) := x.2.2.2.2.2.2.2.2.1
abbrev xc (x : GX) := x.2.2.2.2.2.2.2.2.2.1
abbrev xQ (x : GX) := x.2.2.2.2.2.2.2.2.2.2.1
abbrev xcells (x : GX) := x.2.2.2.2.2.2.2.2.2.2.2.1
abbrev xslots (x : GX) := x.2.2.2.2.2.2.2.2.2.2.2.2.1
abbrev xz (x : GX) := x.2.2.2.2.2.2.2.2.2.2.2.2.2
/-- the fixed facts of a walk: machine, code, locals, own class, words, room for d calls below -/
def GC (x : GX) (cc : ByteArray) (nL : Nat) (own : String) (d : Nat) : Prop :=
  (xp x).tables.exec = Jvm.exec ∧ (xc x).code = cc ∧ (xc x).maxLocals = nL ∧ (xs x).vm.findClass own = some (xm x).cls ∧ (∀ w ∈ GW, w.before (xargs x) (xs x) = true) ∧ (xmeth x).locks = false ∧ gKK (xz x) (xs x) ∧ d ≤ (xR x).frames ∧ 31 * d ≤ (xR x).locals ∧ xcells x ≤ (xR x).cells ∧ xslots x ≤ (xR x).slots ∧ (xl x).stackTraces = false
/-- from this point, with this memory, the machine comes to an end as the walk wants -/
def WG (x : GX) (M : GM) (lv : List (Nat × Value)) (pc : Nat) (st : List Value) : Prop :=
  ∀ (H : Heap) (locs : List Loc) (ls : Array Slot), va_P (gD (xz x)) vwCl (gW (xz x) M) H → gOK M → va_S (fun q => gB (xz x) ≤ q) (xs x).heap H locs → lv_has ls (xc x).maxLocals lv → W (xp x) (xl x) (xe x) (xR x) (xs x) (xm x) (xargs x) (xbelow x) (xmeth x) (xc x) H locs (xcells x) (xslots x) (xQ x) (F0 (xm x) pc ls st)
section GR
variable {x : GX} {cc : ByteArray} {nL d pc : Nat} {own : String} {M : GM} {lv : List (Nat × Value)} {st : List Value}
theorem GC.hD (X : GC x cc nL own d) (M : GM) : va_D (fun q => gB (xz x) ≤ q) (gW (xz x) M) := X.2.2.2.2.2.2.1.2.2.2.2.2.1.1 M
theorem GC.hK (X : GC x cc nL own d) : va_K (gD (xz x)) vwCl (gTys (xz x)) (xs x) := X.2.2.2.2.2.2.1.1
theorem GC.hw (X : GC x cc nL own d) {w : Cond} (h : w ∈ GW) : w.before (xargs x) (xs x) = true := X.2.2.2.2.1 w h
theorem GC.hX (X : GC x cc nL own d) : va_X (gsa (xz x)) (gsl (xz x)) (gsx (xz x)) (xs x) (xs x).heap := X.2.2.2.2.2.2.1.2.2.2.2.2.1.2.1.1
theorem GC.hXB (X : GC x cc nL own d) : ¬ gB (xz x) ≤ gsa (xz x) := X.2.2.2.2.2.2.1.2.2.2.2.2.1.2.1.2
theorem GC.hRR (X : GC x cc nL own d) : gRR (xz x) (xs x) := X.2.2.2.2.2.2.1.2.2.2.2.2.1.2.2
theorem g_sld (X : GC x cc nL own d) {L9 : Nat} {f : Nat → Int32} (hsc : gsl (xz x) = L9 ∧ gsx (xz x) = f) {i : Int32} (hi : gIn i L9 = true) (dec : decode cc pc = .ok (.iaload, 1)) (go : WG x M lv (pc + 1) (.int (f i.toNatClampNeg) :: st)) : WG x M lv pc (.int i :: .ref (gsa (xz x)) :: st) := by
  obtain ⟨rfl, rfl⟩ := hsc
  exact fun H locs ls hP hO hS hl => va_sld X.1 X.2.1 X.hX (va_Xlt X.hX) X.hXB hS (gIn_in hi) dec (go H locs ls hP hO hS hl)
theorem g_slen (X : GC x cc nL own d) {L9 : Nat} {f : Nat → Int32} (hsc : gsl (xz x) = L9 ∧ gsx (xz x) = f) (dec : decode cc pc = .ok (.arraylength, 1)) (go : WG x M lv (pc + 1) (.int (Int32.ofNat L9) :: st)) : WG x M lv pc (.ref (gsa (xz x)) :: st) := by
  obtain ⟨rfl, rfl⟩ := hsc
  exact fun H locs ls hP hO hS hl => va_slen X.1 X.2.1 X.hX (va_Xlt X.hX) X.hXB hS dec (go H locs ls hP hO hS hl)
theorem g_lv (ks : List Nat) {lv' : List (Nat × Value)} (h : lv_pick lv ks = lv') (go : WG x M lv' pc st) : WG x M lv pc st := fun H locs ls hP hO hS hl => go H locs ls hP hO hS (lv_sub hl ks h)
theorem g_topi {v : Int32} (go : ∀ y : Int32, y = v → WG x M lv pc (.int y :: st)) : WG x M lv pc (.int v :: st) := go v rfl
theorem g_topl {v : Int64} (go : ∀ y : Int64, y = v → WG x M lv pc (.long y :: st)) : WG x M lv pc (.long v :: st) := go v rfl
theorem g_topd {v : UInt64} (go : ∀ y : UInt64, y = v → WG x M lv pc (.double y :: st)) : WG x M lv pc (.double v :: st) := go v rfl
theorem g_topr {z : GZ} {v : Nat} (go : ∀ y : Nat, y = v → WG x M lv pc (.ref (gad z y) :: st)) : WG x M lv pc (.ref (gad z v) :: st) := go v rfl
theorem g_mem {M1 : GM} (go : ∀ y : GM, y = M1 → WG x y lv pc st) : WG x M1 lv pc st := go M1 rfl
theorem g_iconst (X : GC x cc nL own d) {n : Int} {v : Int32} (dec : decode cc pc = .ok (.iconst n, 1)) (hv : Int32.ofInt n = v) (go : WG x M lv (pc + 1) (.int v :: st)) : WG x M lv pc (st) := fun H locs ls hP hO hS hl => lv_iconst X.1 X.2.1 dec hv (go H locs ls hP hO hS hl)
theorem g_bipush (X : GC x cc nL own d) {n : Int} {v : Int32} (dec : decode cc pc = .ok (.bipush n, 2)) (hv : (Int8.ofInt n).toInt32 = v) (go : WG x M lv (pc + 2) (.int v :: st)) : WG x M lv pc (st) := fun H locs ls hP hO hS hl => lv_bipush X.1 X.2.1 dec hv (go H locs ls hP hO hS hl)
theorem g_sipush (X : GC x cc nL own d) {n : Int} {v : Int32} (dec : decode cc pc = .ok (.sipush n, 3)) (hv : (Int16.ofInt n).toInt32 = v) (go : WG x M lv (pc + 3) (.int v :: st)) : WG x M lv pc (st) := fun H locs ls hP hO hS hl => lv_sipush X.1 X.2.1 dec hv (go H locs ls hP hO hS hl)
theorem g_lconst (X : GC x cc nL own d) {n : Fin 2} {v : Int64} (dec : decode cc pc = .ok (.lconst n, 1)) (hv : Int64.ofNat (n : Nat) = v) (go : WG x M lv (pc + 1) (.long v :: st)) : WG x M lv pc (st) := fun H locs ls hP hO hS hl => lv_lconst X.1 X.2.1 dec hv (go H locs ls hP hO hS hl)
theorem g_iload_n (X : GC x cc nL own d) {k : Fin 4} {i j : Nat} {v : Int32} (dec : decode cc pc = .ok (.iload_n k, 1)) (hi : (k : Nat) = i) (hk : lv[j]? = some (i, .int v)) (go : WG x M lv (pc + 1) (.int v :: st)) : WG x M lv pc (st) := fun H locs ls hP hO hS hl => lv_iload_n X.1 X.2.1 dec hi (lv_at hl j hk) (go H locs ls hP hO hS hl)
theorem g_iload (X : GC x cc nL own d) {i j : Nat} {v : Int32} (dec : decode cc pc = .ok (.iload i, 2)) (hk : lv[j]? = some (i, .int v)) (go : WG x M lv (pc + 2) (.int v :: st)) : WG x M lv pc (st) := fun H locs ls hP hO hS hl => lv_iload X.1 X.2.1 dec (lv_at hl j hk) (go H locs ls hP hO hS hl)
theorem g_lload_n (X : GC x cc nL own d) {k : Fin 4} {i j : Nat} {v : Int64} (dec : decode cc pc = .ok (.lload_n k, 1)) (hi : (k : Nat) = i) (hk : lv[j]? = some (i, .long v)) (go : WG x M lv (pc + 1) (.long v :: st)) : WG x M lv pc (st) := fun H locs ls hP hO hS hl => lv_lload_n X.1 X.2.1 dec hi (lv_at hl j hk) (go H locs ls hP hO hS hl)
theorem g_lload (X : GC x cc nL own d) {i j : Nat} {v : Int64} (dec : decode cc pc = .ok (.lload i, 2)) (hk : lv[j]? = some (i, .long v)) (go : WG x M lv (pc + 2) (.long v :: st)) : WG x M lv pc (st) := fun H locs ls hP hO hS hl => lv_lload X.1 X.2.1 dec (lv_at hl j hk) (go H locs ls hP hO hS hl)
theorem g_dload_n (X : GC x cc nL own d) {k : Fin 4} {i j : Nat} {v : UInt64} (dec : decode cc pc = .ok (.dload_n k, 1)) (hi : (k : Nat) = i) (hk : lv[j]? = some (i, .double v)) (go : WG x M lv (pc + 1) (.double v :: st)) : WG x M lv pc (st) := fun H locs ls hP hO hS hl => lv_dload_n X.1 X.2.1 dec hi (lv_at hl j hk) (go H locs ls hP hO hS hl)
theorem g_dload (X : GC x cc nL own d) {i j : Nat} {v : UInt64} (dec : decode cc pc = .ok (.dload i, 2)) (hk : lv[j]? = some (i, .double v)) (go : WG x M lv (pc + 2) (.double v :: st)) : WG x M lv pc (st) := fun H locs ls hP hO hS hl => lv_dload X.1 X.2.1 dec (lv_at hl j hk) (go H locs ls hP hO hS hl)
theorem g_aload_n (X : GC x cc nL own d) {k : Fin 4} {i j : Nat} {v : Nat} (dec : decode cc pc = .ok (.aload_n k, 1)) (hi : (k : Nat) = i) (hk : lv[j]? = some (i, .ref v)) (go : WG x M lv (pc + 1) (.ref v :: st)) : WG x M lv pc (st) := fun H locs ls hP hO hS hl => lv_aload_n X.1 X.2.1 dec hi (lv_at hl j hk) (go H locs ls hP hO hS hl)
theorem g_aload (X : GC x cc nL own d) {i j : Nat} {v : Nat} (dec : decode cc pc = .ok (.aload i, 2)) (hk : lv[j]? = some (i, .ref v)) (go : WG x M lv (pc + 2) (.ref v :: st)) : WG x M lv pc (st) := fun H locs ls hP hO hS hl => lv_aload X.1 X.2.1 dec (lv_at hl j hk) (go H locs ls hP hO hS hl)
theorem g_istore_n (X : GC x cc nL own d) {k : Fin 4} {i : Nat} {v : Int32} {lv' : List (Nat × Value)} (dec : decode cc pc = .ok (.istore_n k, 1)) (hi : (k : Nat) = i) (hn : i < nL) (hf : (i, Value.int v) :: lv.filter (fun q => !(q.1 == i) && !(q.1 + 1 == i && q.2.category == 2)) = lv') (go : WG x M lv' (pc + 1) st) : WG x M lv pc (.int v :: st) := fun H locs ls hP hO hS hl => lv_istore_n X.1 X.2.1 dec hi hl (by rw [X.2.2.1]; exact hn) hf (fun ls1 hl1 => go H locs ls1 hP hO hS hl1)
theorem g_istore (X : GC x cc nL own d) {i : Nat} {v : Int32} {lv' : List (Nat × Value)} (dec : decode cc pc = .ok (.istore i, 2)) (hn : i < nL) (hf : (i, Value.int v) :: lv.filter (fun q => !(q.1 == i) && !(q.1 + 1 == i && q.2.category == 2)) = lv') (go : WG x M lv' (pc + 2) st) : WG x M lv pc (.int v :: st) := fun H locs ls hP hO hS hl => lv_istore X.1 X.2.1 dec hl (by rw [X.2.2.1]; exact hn) hf (fun ls1 hl1 => go H locs ls1 hP hO hS hl1)
theorem g_astore_n (X : GC x cc nL own d) {k : Fin 4} {i : Nat} {v : Nat} {lv' : List (Nat × Value)} (dec : decode cc pc = .ok (.astore_n k, 1)) (hi : (k : Nat) = i) (hn : i < nL) (hf : (i, Value.ref v) :: lv.filter (fun q => !(q.1 == i) && !(q.1 + 1 == i && q.2.category == 2)) = lv') (go : WG x M lv' (pc + 1) st) : WG x M lv pc (.ref v :: st) := fun H locs ls hP hO hS hl => lv_astore_n X.1 X.2.1 dec hi hl (by rw [X.2.2.1]; exact hn) hf (fun ls1 hl1 => go H locs ls1 hP hO hS hl1)
theorem g_astore (X : GC x cc nL own d) {i : Nat} {v : Nat} {lv' : List (Nat × Value)} (dec : decode cc pc = .ok (.astore i, 2)) (hn : i < nL) (hf : (i, Value.ref v) :: lv.filter (fun q => !(q.1 == i) && !(q.1 + 1 == i && q.2.category == 2)) = lv') (go : WG x M lv' (pc + 2) st) : WG x M lv pc (.ref v :: st) := fun H locs ls hP hO hS hl => lv_astore X.1 X.2.1 dec hl (by rw [X.2.2.1]; exact hn) hf (fun ls1 hl1 => go H locs ls1 hP hO hS hl1)
theorem g_lstore_n (X : GC x cc nL own d) {k : Fin 4} {i : Nat} {v : Int64} {lv' : List (Nat × Value)} (dec : decode cc pc = .ok (.lstore_n k, 1)) (hi : (k : Nat) = i) (hn : i + 1 < nL) (hf : (i, Value.long v) :: lv.filter (fun q => !(q.1 == i) && (!(q.1 == i + 1) && !(q.1 + 1 == i && q.2.category == 2))) = lv') (go : WG x M lv' (pc + 1) st) : WG x M lv pc (.long v :: st) := fun H locs ls hP hO hS hl => lv_lstore_n X.1 X.2.1 dec hi hl (by rw [X.2.2.1]; exact hn) hf (fun ls1 hl1 => go H locs ls1 hP hO hS hl1)
theorem g_lstore (X : GC x cc nL own d) {i : Nat} {v : Int64} {lv' : List (Nat × Value)} (dec : decode cc pc = .ok (.lstore i, 2)) (hn : i + 1 < nL) (hf : (i, Value.long v) :: lv.filter (fun q => !(q.1 == i) && (!(q.1 == i + 1) && !(q.1 + 1 == i && q.2.category == 2))) = lv') (go : WG x M lv' (pc + 2) st) : WG x M lv pc (.long v :: st) := fun H locs ls hP hO hS hl => lv_lstore X.1 X.2.1 dec hl (by rw [X.2.2.1]; exact hn) hf (fun ls1 hl1 => go H locs ls1 hP hO hS hl1)
theorem g_dstore_n (X : GC x cc nL own d) {k : Fin 4} {i : Nat} {v : UInt64} {lv' : List (Nat × Value)} (dec : decode cc pc = .ok (.dstore_n k, 1)) (hi : (k : Nat) = i) (hn : i + 1 < nL) (hf : (i, Value.double v) :: lv.filter (fun q => !(q.1 == i) && (!(q.1 == i + 1) && !(q.1 + 1 == i && q.2.category == 2))) = lv') (go : WG x M lv' (pc + 1) st) : WG x M lv pc (.double v :: st) := fun H locs ls hP hO hS hl => lv_dstore_n X.1 X.2.1 dec hi hl (by rw [X.2.2.1]; exact hn) hf (fun ls1 hl1 => go H locs ls1 hP hO hS hl1)
theorem g_dstore (X : GC x cc nL own d) {i : Nat} {v : UInt64} {lv' : List (Nat × Value)} (dec : decode cc pc = .ok (.dstore i, 2)) (hn : i + 1 < nL) (hf : (i, Value.double v) :: lv.filter (fun q => !(q.1 == i) && (!(q.1 == i + 1) && !(q.1 + 1 == i && q.2.category == 2))) = lv') (go : WG x M lv' (pc + 2) st) : WG x M lv pc (.double v :: st) := fun H locs ls hP hO hS hl => lv_dstore X.1 X.2.1 dec hl (by rw [X.2.2.1]; exact hn) hf (fun ls1 hl1 => go H locs ls1 hP hO hS hl1)
theorem g_iinc (X : GC x cc nL own d) {i j : Nat} {n : Int} {v w : Int32} {lv' : List (Nat × Value)} (dec : decode cc pc = .ok (.iinc i n, 3)) (hk : lv[j]? = some (i, .int v)) (hv : v + Int32.ofInt n = w) (hn : i < nL) (hf : ∀ w9 : Int32, (i, Value.int w9) :: lv.filter (fun q => !(q.1 == i) && !(q.1 + 1 == i && q.2.category == 2)) = (i, Value.int w9) :: lv') (go : ∀ w9 : Int32, w9 = w → WG x M ((i, .int w9) :: lv') (pc + 3) st) : WG x M lv pc st := fun H locs ls hP hO hS hl => lv_iinc X.1 X.2.1 dec hl hk hv (by rw [X.2.2.1]; exact hn) (hf w) (fun ls1 hl1 => go w rfl H locs ls1 hP hO hS hl1)
theorem g_iadd (X : GC x cc nL own d) {a b : Int32} (dec : decode cc pc = .ok (.iadd, 1))  (go : WG x M lv (pc + 1) (.int (a + b) :: st)) : WG x M lv pc (.int b :: .int a :: st) := fun H locs ls hP hO hS hl => lv_iadd X.1 X.2.1 dec (go H locs ls hP hO hS hl)
theorem g_isub (X : GC x cc nL own d) {a b : Int32} (dec : decode cc pc = .ok (.isub, 1))  (go : WG x M lv (pc + 1) (.int (a - b) :: st)) : WG x M lv pc (.int b :: .int a :: st) := fun H locs ls hP hO hS hl => lv_isub X.1 X.2.1 dec (go H locs ls hP hO hS hl)
theorem g_imul (X : GC x cc nL own d) {a b : Int32} (dec : decode cc pc = .ok (.imul, 1))  (go : WG x M lv (pc + 1) (.int (a * b) :: st)) : WG x M lv pc (.int b :: .int a :: st) := fun H locs ls hP hO hS hl => lv_imul X.1 X.2.1 dec (go H locs ls hP hO hS hl)
theorem g_iand (X : GC x cc nL own d) {a b : Int32} (dec : decode cc pc = .ok (.iand, 1))  (go : WG x M lv (pc + 1) (.int (a &&& b) :: st)) : WG x M lv pc (.int b :: .int a :: st) := fun H locs ls hP hO hS hl => lv_iand X.1 X.2.1 dec (go H locs ls hP hO hS hl)
theorem g_ior (X : GC x cc nL own d) {a b : Int32} (dec : decode cc pc = .ok (.ior, 1))  (go : WG x M lv (pc + 1) (.int (a ||| b) :: st)) : WG x M lv pc (.int b :: .int a :: st) := fun H locs ls hP hO hS hl => lv_ior X.1 X.2.1 dec (go H locs ls hP hO hS hl)
theorem g_ixor (X : GC x cc nL own d) {a b : Int32} (dec : decode cc pc = .ok (.ixor, 1))  (go : WG x M lv (pc + 1) (.int (a ^^^ b) :: st)) : WG x M lv pc (.int b :: .int a :: st) := fun H locs ls hP hO hS hl => lv_ixor X.1 X.2.1 dec (go H locs ls hP hO hS hl)
theorem g_ishl (X : GC x cc nL own d) {a b : Int32} (dec : decode cc pc = .ok (.ishl, 1))  (go : WG x M lv (pc + 1) (.int (a <<< (b &&& 31)) :: st)) : WG x M lv pc (.int b :: .int a :: st) := fun H locs ls hP hO hS hl => lv_ishl X.1 X.2.1 dec (go H locs ls hP hO hS hl)
theorem g_ishr (X : GC x cc nL own d) {a b : Int32} (dec : decode cc pc = .ok (.ishr, 1))  (go : WG x M lv (pc + 1) (.int (a >>> (b &&& 31)) :: st)) : WG x M lv pc (.int b :: .int a :: st) := fun H locs ls hP hO hS hl => lv_ishr X.1 X.2.1 dec (go H locs ls hP hO hS hl)
theorem g_ladd (X : GC x cc nL own d) {a b : Int64} (dec : decode cc pc = .ok (.ladd, 1))  (go : WG x M lv (pc + 1) (.long (a + b) :: st)) : WG x M lv pc (.long b :: .long a :: st) := fun H locs ls hP hO hS hl => lv_ladd X.1 X.2.1 dec (go H locs ls hP hO hS hl)
theorem g_lsub (X : GC x cc nL own d) {a b : Int64} (dec : decode cc pc = .ok (.lsub, 1))  (go : WG x M lv (pc + 1) (.long (a - b) :: st)) : WG x M lv pc (.long b :: .long a :: st) := fun H locs ls hP hO hS hl => lv_lsub X.1 X.2.1 dec (go H locs ls hP hO hS hl)
theorem g_lmul (X : GC x cc nL own d) {a b : Int64} (dec : decode cc pc = .ok (.lmul, 1))  (go : WG x M lv (pc + 1) (.long (a * b) :: st)) : WG x M lv pc (.long b :: .long a :: st) := fun H locs ls hP hO hS hl => lv_lmul X.1 X.2.1 dec (go H locs ls hP hO hS hl)
theorem g_lxor (X : GC x cc nL own d) {a b : Int64} (dec : decode cc pc = .ok (.lxor, 1))  (go : WG x M lv (pc + 1) (.long (a ^^^ b) :: st)) : WG x M lv pc (.long b :: .long a :: st) := fun H locs ls hP hO hS hl => lv_lxor X.1 X.2.1 dec (go H locs ls hP hO hS hl)
theorem g_idiv (X : GC x cc nL own d) {a b : Int32} (dec : decode cc pc = .ok (.idiv, 1)) (hne : ¬ b = 0) (go : WG x M lv (pc + 1) (.int (a / b) :: st)) : WG x M lv pc (.int b :: .int a :: st) := fun H locs ls hP hO hS hl => lv_idiv X.1 X.2.1 dec hne (go H locs ls hP hO hS hl)
theorem g_irem (X : GC x cc nL own d) {a b : Int32} (dec : decode cc pc = .ok (.irem, 1)) (hne : ¬ b = 0) (go : WG x M lv (pc + 1) (.int (a - a / b * b) :: st)) : WG x M lv pc (.int b :: .int a :: st) := fun H locs ls hP hO hS hl => lv_irem X.1 X.2.1 dec hne (go H locs ls hP hO hS hl)
theorem g_ldiv (X : GC x cc nL own d) {a b : Int64} (dec : decode cc pc = .ok (.ldiv, 1)) (hne : ¬ b = 0) (go : WG x M lv (pc + 1) (.long (a / b) :: st)) : WG x M lv pc (.long b :: .long a :: st) := fun H locs ls hP hO hS hl => lv_ldiv X.1 X.2.1 dec hne (go H locs ls hP hO hS hl)
theorem g_lrem (X : GC x cc nL own d) {a b : Int64} (dec : decode cc pc = .ok (.lrem, 1)) (hne : ¬ b = 0) (go : WG x M lv (pc + 1) (.long (a - a / b * b) :: st)) : WG x M lv pc (.long b :: .long a :: st) := fun H locs ls hP hO hS hl => lv_lrem X.1 X.2.1 dec hne (go H locs ls hP hO hS hl)
theorem g_ineg (X : GC x cc nL own d) {a : Int32} (dec : decode cc pc = .ok (.ineg, 1))  (go : WG x M lv (pc + 1) (.int (-a) :: st)) : WG x M lv pc (.int a :: st) := fun H locs ls hP hO hS hl => lv_ineg X.1 X.2.1 dec (go H locs ls hP hO hS hl)
theorem g_lneg (X : GC x cc nL own d) {a : Int64} (dec : decode cc pc = .ok (.lneg, 1))  (go : WG x M lv (pc + 1) (.long (-a) :: st)) : WG x M lv pc (.long a :: st) := fun H locs ls hP hO hS hl => lv_lneg X.1 X.2.1 dec (go H locs ls hP hO hS hl)
theorem g_iushr (X : GC x cc nL own d) {a b : Int32} (dec : decode cc pc = .ok (.iushr, 1))  (go : WG x M lv (pc + 1) (.int ((a.toUInt32 >>> (b.toUInt32 &&& Int32.toUInt32 31)).toInt32) :: st)) : WG x M lv pc (.int b :: .int a :: st) := fun H locs ls hP hO hS hl => lv_iushr X.1 X.2.1 dec rfl (go H locs ls hP hO hS hl)
theorem g_i2l (X : GC x cc nL own d) {a : Int32} (dec : decode cc pc = .ok (.i2l, 1))  (go : WG x M lv (pc + 1) (.long a.toInt64 :: st)) : WG x M lv pc (.int a :: st) := fun H locs ls hP hO hS hl => lv_i2l X.1 X.2.1 dec rfl (go H locs ls hP hO hS hl)
theorem g_l2i (X : GC x cc nL own d) {a : Int64} (dec : decode cc pc = .ok (.l2i, 1))  (go : WG x M lv (pc + 1) (.int a.toInt32 :: st)) : WG x M lv pc (.long a :: st) := fun H locs ls hP hO hS hl => lv_l2i X.1 X.2.1 dec rfl (go H locs ls hP hO hS hl)
theorem g_i2d (X : GC x cc nL own d) {a : Int32} (dec : decode cc pc = .ok (.i2d, 1))  (go : WG x M lv (pc + 1) (.double (FP.i2d a) :: st)) : WG x M lv pc (.int a :: st) := fun H locs ls hP hO hS hl => lv_i2d X.1 X.2.1 dec (go H locs ls hP hO hS hl)
theorem g_l2d (X : GC x cc nL own d) {a : Int64} (dec : decode cc pc = .ok (.l2d, 1))  (go : WG x M lv (pc + 1) (.double (FP.l2d a) :: st)) : WG x M lv pc (.long a :: st) := fun H locs ls hP hO hS hl => lv_l2d X.1 X.2.1 dec (go H locs ls hP hO hS hl)
theorem g_ddiv (X : GC x cc nL own d) {a b : UInt64} (dec : decode cc pc = .ok (.ddiv, 1)) (hne : vf_n64 (FP.ddiv a b)) (go : WG x M lv (pc + 1) (.double (FP.ddiv a b) :: st)) : WG x M lv pc (.double b :: .double a :: st) := fun H locs ls hP hO hS hl => lv_ddiv X.1 X.2.1 dec hne (go H locs ls hP hO hS hl)
theorem g_dcmp (X : GC x cc nL own d) {a b : UInt64} {op : CmpOp} (dec : decode cc pc = .ok (.dcmp op, 1))  (go : WG x M lv (pc + 1) (.int (Op.cmpValue (FP.dcmp a b) op) :: st)) : WG x M lv pc (.double b :: .double a :: st) := fun H locs ls hP hO hS hl => lv_dcmp X.1 X.2.1 dec (go H locs ls hP hO hS hl)
theorem g_lcmp (X : GC x cc nL own d) {a b : Int64} (dec : decode cc pc = .ok (.lcmp, 1)) (go : WG x M lv (pc + 1) (.int (lg_cmp a b) :: st)) : WG x M lv pc (.long b :: .long a :: st) := fun H locs ls hP hO hS hl => W.lcmp X.1 X.2.1 dec (go H locs ls hP hO hS hl)
theorem g_dup (X : GC x cc nL own d) {a : Value} (dec : decode cc pc = .ok (.dup, 1)) (h1 : a.category = 1) (go : WG x M lv (pc + 1) (a :: a :: st)) : WG x M lv pc (a :: st) := fun H locs ls hP hO hS hl => lv_dup X.1 X.2.1 dec h1 (go H locs ls hP hO hS hl)
theorem g_pop (X : GC x cc nL own d) {a : Value} (dec : decode cc pc = .ok (.pop, 1)) (h1 : a.category = 1) (go : WG x M lv (pc + 1) (st)) : WG x M lv pc (a :: st) := fun H locs ls hP hO hS hl => lv_pop X.1 X.2.1 dec h1 (go H locs ls hP hO hS hl)
theorem g_dup_x1 (X : GC x cc nL own d) {a b : Value} (dec : decode cc pc = .ok (.dup_x1, 1)) (h1 : a.category = 1) (h2 : b.category = 1) (go : WG x M lv (pc + 1) (a :: b :: a :: st)) : WG x M lv pc (a :: b :: st) := fun H locs ls hP hO hS hl => lv_dup_x1 X.1 X.2.1 dec h1 h2 (go H locs ls hP hO hS hl)
theorem g_dup2 (X : GC x cc nL own d) {a b : Value} (dec : decode cc pc = .ok (.dup2, 1)) (h1 : a.category = 1) (h2 : b.category = 1) (go : WG x M lv (pc + 1) (a :: b :: a :: b :: st)) : WG x M lv pc (a :: b :: st) := fun H locs ls hP hO hS hl => lv_dup2_11 X.1 X.2.1 dec h1 h2 (go H locs ls hP hO hS hl)
theorem g_if_eq (X : GC x cc nL own d) {a : Int32} {off : Int} {tgt : Nat} (dec : decode cc pc = .ok (.ifCond .eq off, 3)) (ht : (pc : Int) + off = (tgt : Int)) (kt : a = 0 → WG x M lv tgt st) (kf : ¬ a = 0 → WG x M lv (pc + 3) st) : WG x M lv pc (.int a :: st) := fun H locs ls hP hO hS hl => lv_if_eq X.1 X.2.1 dec ht (fun h => kt h H locs ls hP hO hS hl) (fun h => kf h H locs ls hP hO hS hl)
theorem g_icmp_eq (X : GC x cc nL own d) {a b : Int32} {off : Int} {tgt : Nat} (dec : decode cc pc = .ok (.if_icmp .eq off, 3)) (ht : (pc : Int) + off = (tgt : Int)) (kt : a = b → WG x M lv tgt st) (kf : ¬ a = b → WG x M lv (pc + 3) st) : WG x M lv pc (.int b :: .int a :: st) := fun H locs ls hP hO hS hl => lv_icmp_eq X.1 X.2.1 dec ht (fun h => kt h H locs ls hP hO hS hl) (fun h => kf h H locs ls hP hO hS hl)
theorem g_if_ne (X : GC x cc nL own d) {a : Int32} {off : Int} {tgt : Nat} (dec : decode cc pc = .ok (.ifCond .ne off, 3)) (ht : (pc : Int) + off = (tgt : Int)) (kt : ¬ a = 0 → WG x M lv tgt st) (kf : a = 0 → WG x M lv (pc + 3) st) : WG x M lv pc (.int a :: st) := fun H locs ls hP hO hS hl => lv_if_ne X.1 X.2.1 dec ht (fun h => kt h H locs ls hP hO hS hl) (fun h => kf h H locs ls hP hO hS hl)
theorem g_icmp_ne (X : GC x cc nL own d) {a b : Int32} {off : Int} {tgt : Nat} (dec : decode cc pc = .ok (.if_icmp .ne off, 3)) (ht : (pc : Int) + off = (tgt : Int)) (kt : ¬ a = b → WG x M lv tgt st) (kf : a = b → WG x M lv (pc + 3) st) : WG x M lv pc (.int b :: .int a :: st) := fun H locs ls hP hO hS hl => lv_icmp_ne X.1 X.2.1 dec ht (fun h => kt h H locs ls hP hO hS hl) (fun h => kf h H locs ls hP hO hS hl)
theorem g_if_lt (X : GC x cc nL own d) {a : Int32} {off : Int} {tgt : Nat} (dec : decode cc pc = .ok (.ifCond .lt off, 3)) (ht : (pc : Int) + off = (tgt : Int)) (kt : a < 0 → WG x M lv tgt st) (kf : ¬ a < 0 → WG x M lv (pc + 3) st) : WG x M lv pc (.int a :: st) := fun H locs ls hP hO hS hl => lv_if_lt X.1 X.2.1 dec ht (fun h => kt h H locs ls hP hO hS hl) (fun h => kf h H locs ls hP hO hS hl)
theorem g_icmp_lt (X : GC x cc nL own d) {a b : Int32} {off : Int} {tgt : Nat} (dec : decode cc pc = .ok (.if_icmp .lt off, 3)) (ht : (pc : Int) + off = (tgt : Int)) (kt : a < b → WG x M lv tgt st) (kf : ¬ a < b → WG x M lv (pc + 3) st) : WG x M lv pc (.int b :: .int a :: st) := fun H locs ls hP hO hS hl => lv_icmp_lt X.1 X.2.1 dec ht (fun h => kt h H locs ls hP hO hS hl) (fun h => kf h H locs ls hP hO hS hl)
theorem g_if_ge (X : GC x cc nL own d) {a : Int32} {off : Int} {tgt : Nat} (dec : decode cc pc = .ok (.ifCond .ge off, 3)) (ht : (pc : Int) + off = (tgt : Int)) (kt : 0 ≤ a → WG x M lv tgt st) (kf : ¬ 0 ≤ a → WG x M lv (pc + 3) st) : WG x M lv pc (.int a :: st) := fun H locs ls hP hO hS hl => lv_if_ge X.1 X.2.1 dec ht (fun h => kt h H locs ls hP hO hS hl) (fun h => kf h H locs ls hP hO hS hl)
theorem g_icmp_ge (X : GC x cc nL own d) {a b : Int32} {off : Int} {tgt : Nat} (dec : decode cc pc = .ok (.if_icmp .ge off, 3)) (ht : (pc : Int) + off = (tgt : Int)) (kt : b ≤ a → WG x M lv tgt st) (kf : ¬ b ≤ a → WG x M lv (pc + 3) st) : WG x M lv pc (.int b :: .int a :: st) := fun H locs ls hP hO hS hl => lv_icmp_ge X.1 X.2.1 dec ht (fun h => kt h H locs ls hP hO hS hl) (fun h => kf h H locs ls hP hO hS hl)
theorem g_if_gt (X : GC x cc nL own d) {a : Int32} {off : Int} {tgt : Nat} (dec : decode cc pc = .ok (.ifCond .gt off, 3)) (ht : (pc : Int) + off = (tgt : Int)) (kt : 0 < a → WG x M lv tgt st) (kf : ¬ 0 < a → WG x M lv (pc + 3) st) : WG x M lv pc (.int a :: st) := fun H locs ls hP hO hS hl => lv_if_gt X.1 X.2.1 dec ht (fun h => kt h H locs ls hP hO hS hl) (fun h => kf h H locs ls hP hO hS hl)
theorem g_icmp_gt (X : GC x cc nL own d) {a b : Int32} {off : Int} {tgt : Nat} (dec : decode cc pc = .ok (.if_icmp .gt off, 3)) (ht : (pc : Int) + off = (tgt : Int)) (kt : b < a → WG x M lv tgt st) (kf : ¬ b < a → WG x M lv (pc + 3) st) : WG x M lv pc (.int b :: .int a :: st) := fun H locs ls hP hO hS hl => lv_icmp_gt X.1 X.2.1 dec ht (fun h => kt h H locs ls hP hO hS hl) (fun h => kf h H locs ls hP hO hS hl)
theorem g_if_le (X : GC x cc nL own d) {a : Int32} {off : Int} {tgt : Nat} (dec : decode cc pc = .ok (.ifCond .le off, 3)) (ht : (pc : Int) + off = (tgt : Int)) (kt : a ≤ 0 → WG x M lv tgt st) (kf : ¬ a ≤ 0 → WG x M lv (pc + 3) st) : WG x M lv pc (.int a :: st) := fun H locs ls hP hO hS hl => lv_if_le X.1 X.2.1 dec ht (fun h => kt h H locs ls hP hO hS hl) (fun h => kf h H locs ls hP hO hS hl)
theorem g_icmp_le (X : GC x cc nL own d) {a b : Int32} {off : Int} {tgt : Nat} (dec : decode cc pc = .ok (.if_icmp .le off, 3)) (ht : (pc : Int) + off = (tgt : Int)) (kt : a ≤ b → WG x M lv tgt st) (kf : ¬ a ≤ b → WG x M lv (pc + 3) st) : WG x M lv pc (.int b :: .int a :: st) := fun H locs ls hP hO hS hl => lv_icmp_le X.1 X.2.1 dec ht (fun h => kt h H locs ls hP hO hS hl) (fun h => kf h H locs ls hP hO hS hl)
theorem g_goto (X : GC x cc nL own d) {off : Int} {tgt : Nat} (dec : decode cc pc = .ok (.goto off, 3)) (ht : (pc : Int) + off = (tgt : Int)) (go : WG x M lv tgt st) : WG x M lv pc st := fun H locs ls hP hO hS hl => lv_goto X.1 X.2.1 dec ht (go H locs ls hP hO hS hl)
theorem g_swOut (X : GC x cc nL own d) {dflt lo hi : Int} {offs : Array Int} {len : Nat} {v : Int32} {tgt : Nat} (dec : decode cc pc = .ok (.tableswitch dflt lo hi offs, len)) (h : v.toInt < lo ∨ hi < v.toInt) (ht : (pc : Int) + dflt = (tgt : Int)) (go : WG x M lv tgt st) : WG x M lv pc (.int v :: st) := fun H locs ls hP hO hS hl => lv_tableOut X.1 X.2.1 dec h ht (go H locs ls hP hO hS hl)
theorem g_swIn (X : GC x cc nL own d) {dflt lo hi : Int} {offs : Array Int} {len : Nat} {v : Int32} {off : Int} {tgt : Nat} (dec : decode cc pc = .ok (.tableswitch dflt lo hi offs, len)) (h1 : ¬ v.toInt < lo) (h2 : ¬ hi < v.toInt) (ho : offs[(v.toInt - lo).toNat]? = some off) (ht : (pc : Int) + off = (tgt : Int)) (go : WG x M lv tgt st) : WG x M lv pc (.int v :: st) := fun H locs ls hP hO hS hl => lv_tableIn X.1 X.2.1 dec h1 h2 ho ht (go H locs ls hP hO hS hl)
theorem g_ldc (X : GC x cc nL own d) {i : Nat} {v : Int32} (hw : Cond.constant own i v ∈ GW) (dec : decode cc pc = .ok (.ldc i, 2)) (go : WG x M lv (pc + 2) (.int v :: st)) : WG x M lv pc st := fun H locs ls hP hO hS hl => lv_ldc X.1 X.2.1 X.2.2.2.1 (X.hw hw) dec (go H locs ls hP hO hS hl)
theorem g_ldcw (X : GC x cc nL own d) {i : Nat} {v : Int32} (hw : Cond.constant own i v ∈ GW) (dec : decode cc pc = .ok (.ldc_w i, 3)) (go : WG x M lv (pc + 3) (.int v :: st)) : WG x M lv pc st := fun H locs ls hP hO hS hl => lv_ldcw X.1 X.2.1 X.2.2.2.1 (X.hw hw) dec (go H locs ls hP hO hS hl)
theorem g_ldc2 (X : GC x cc nL own d) {i : Nat} {v : Int64} (hw : Cond.constantLong own i v ∈ GW) (dec : decode cc pc = .ok (.ldc2_w i, 3)) (go : WG x M lv (pc + 3) (.long v :: st)) : WG x M lv pc st := fun H locs ls hP hO hS hl => lv_ldc2 X.1 X.2.1 X.2.2.2.1 (X.hw hw) dec (go H locs ls hP hO hS hl)
theorem g_ldc2d (X : GC x cc nL own d) {i : Nat} {v : UInt64} (hw : Cond.constantDouble own i v ∈ GW) (dec : decode cc pc = .ok (.ldc2_w i, 3)) (go : WG x M lv (pc + 3) (.double v :: st)) : WG x M lv pc st := fun H locs ls hP hO hS hl => lv_ldc2d X.1 X.2.1 X.2.2.2.1 (X.hw hw) dec (go H locs ls hP hO hS hl)
theorem g_get (X : GC x cc nL own d) {g t k index N : Nat} {C : String} {T : u_T} {fs : List Value} {v : Value} (ht : gT g = t) (h9 : t < 30) (he : gE (xz x) M g = .inr (t, fs)) (hc : vwCl[t]? = some (C, T, N)) (hin : ∀ w ∈ u_ws C T N, w ∈ GW) (hk : k < N) (hlink : Cond.fieldLink own index C (T k).2.1 (T k).2.2.1 ∈ GW) (hsm : (T k).1 = C) (hv : fs[k]? = some v) (dec : decode cc pc = .ok (.getfield index, 3)) (go : WG x M lv (pc + 3) (v :: st)) : WG x M lv pc (.ref (gad (xz x) g) :: st) :=
  fun H locs ls hP hO hS hl => va_get X.1 X.2.1 (Ts := GW) X.2.2.2.2.1 hin X.2.2.2.1 X.hK hP g (gW_at ht h9 he) hc k hk (X.hw hlink) (fun _ h => by rw [← hsm]; exact h) hv dec (go H locs ls hP hO hS hl)
theorem g_put (X : GC x cc nL own d) {g t k index N : Nat} {C : String} {T : u_T} {ty0 : Nat → FieldType} {fs : List Value} {v : Value} {M1 : GM} (ht : gT g = t) (h9 : t < 30) (he : gE (xz x) M g = .inr (t, fs)) (he1 : gE (xz x) M1 g = .inr (t, fs.set k v)) (ho : ∀ g9, g9 ≠ g → gE (xz x) M1 g9 = gE (xz x) M g9) (hO1 : gOK M → gOK M1) (hc : vwCl[t]? = some (C, T, N)) (hin : ∀ w ∈ u_ws C T N, w ∈ GW) (hty : ∀ k, k < N → parseFieldDescriptor (T k).2.2.1 = some (ty0 k)) (hnm : ∀ a, a < N → ∀ b, b < N → a ≠ b → (T a).2.1 ≠ (T b).2.1) (hk : k < N) (hlink : Cond.fieldLink own index C (T k).2.1 (T k).2.2.1 ∈ GW) (hsm : (T k).1 = C) (hfin : (T k).2.2.2 = false) {ty : FieldType} (hd : parseFieldDescriptor (T k).2.2.1 = some ty) (hn : narrow ty v = v) (hfit : fits ty v = true) (hl0 : k < fs.length) (dec : decode cc pc = .ok (.putfield index, 3)) (go : WG x M1 lv (pc + 3) st) : WG x M lv pc (v :: .ref (gad (xz x) g) :: st) :=
  fun H locs ls hP hO hS hl => va_put X.1 X.2.1 (Ts := GW) X.2.2.2.2.1 hin ty0 hty hnm X.2.2.2.1 X.hK hP (X.hD M) hS g (gW_at ht h9 he) hc k hk (X.hw hlink) (fun _ h => by rw [← hsm]; exact h) hfin hd hn hfit hl0 dec (fun H1 locs1 hP1 _ hS1 => go H1 locs1 ls (by rw [gW_set (by rw [ht]; exact h9) he1 ho] at hP1; exact hP1) (hO1 hO) hS1 hl)
theorem g_iald (X : GC x cc nL own d) {g : Nat} {i : Int32} (ht : gT g = 20) (hi : gIn i (gN g) = true) (dec : decode cc pc = .ok (.iaload, 1)) (go : WG x M lv (pc + 1) (.int (gI M g i.toNatClampNeg) :: st)) : WG x M lv pc (.int i :: .ref (gad (xz x) g) :: st) :=
  fun H locs ls hP hO hS hl => va_iald X.1 X.2.1 X.hK hP g 0 (gW_at ht (by decide) (gE_20 ht)) rfl (gIn_in hi) dec (go H locs ls hP hO hS hl)
theorem g_zald (X : GC x cc nL own d) {g : Nat} {i : Int32} (ht : gT g = 22) (hi : gIn i (gN g) = true) (dec : decode cc pc = .ok (.baload, 1)) (go : WG x M lv (pc + 1) (.int (gI M g i.toNatClampNeg) :: st)) : WG x M lv pc (.int i :: .ref (gad (xz x) g) :: st) :=
  fun H locs ls hP hO hS hl => va_zald X.1 X.2.1 X.hK hP g 2 (gW_at ht (by decide) (gE_22 ht)) rfl (gIn_in hi) dec (go H locs ls hP hO hS hl)
theorem g_lald (X : GC x cc nL own d) {g : Nat} {i : Int32} (ht : gT g = 21) (hi : gIn i (gN g) = true) (dec : decode cc pc = .ok (.laload, 1)) (go : WG x M lv (pc + 1) (.long (gL M g i.toNatClampNeg) :: st)) : WG x M lv pc (.int i :: .ref (gad (xz x) g) :: st) :=
  fun H locs ls hP hO hS hl => va_lald X.1 X.2.1 X.hK hP g 1 (gW_at ht (by decide) (gE_21 ht)) rfl (gIn_in hi) dec (go H locs ls hP hO hS hl)
theorem g_iast (X : GC x cc nL own d) {g : Nat} {i v : Int32} (ht : gT g = 20) (hi : gIn i (gN g) = true) (dec : decode cc pc = .ok (.iastore, 1)) (go : WG x (sI M g i.toNatClampNeg v) lv (pc + 1) st) : WG x M lv pc (.int v :: .int i :: .ref (gad (xz x) g) :: st) :=
  fun H locs ls hP hO hS hl => va_iast X.1 X.2.1 X.hK hP (X.hD M) hS g 0 (gW_at ht (by decide) (gE_20 ht)) rfl (gIn_in hi) dec (fun H1 locs1 hP1 _ hS1 => go H1 locs1 ls (by
    rw [gW_set (M' := sI M g i.toNatClampNeg v) (by rw [ht]; decide) (by rw [gE_20 ht]; refine congrArg (fun f => Sum.inl (gcy (xz x) 20, gN g, Sum.inl f)) (funext fun j => ?_); by_cases h : j = i.toNatClampNeg <;> simp [h, upd, gI, sI, u2]) gE_sI] at hP1; exact hP1) hO hS1 hl)
theorem gT_nar {v : Int32} (h : v = 0 ∨ v = 1) : vp_nar .boolean v = v ∧ narrow .boolean (.int v) = .int v ∧ fits .boolean (.int v) = true := by
  rcases h with rfl | rfl <;> exact ⟨by decide +kernel, by decide +kernel, by decide +kernel⟩
theorem g_zast (X : GC x cc nL own d) {g : Nat} {i v : Int32} (ht : gT g = 22) (hi : gIn i (gN g) = true) (hv : v = 0 ∨ v = 1) (dec : decode cc pc = .ok (.bastore, 1)) (go : WG x (sI M g i.toNatClampNeg v) lv (pc + 1) st) : WG x M lv pc (.int v :: .int i :: .ref (gad (xz x) g) :: st) :=
  fun H locs ls hP hO hS hl => va_zast X.1 X.2.1 X.hK hP (X.hD M) hS g 2 (gW_at ht (by decide) (gE_22 ht)) rfl (gIn_in hi) dec (fun H1 locs1 hP1 _ hS1 => go H1 locs1 ls (by
    rw [(gT_nar hv).1, gW_set (M' := sI M g i.toNatClampNeg v) (by rw [ht]; decide) (by rw [gE_22 ht]; refine congrArg (fun f => Sum.inl (gcy (xz x) 22, gN g, Sum.inl f)) (funext fun j => ?_); by_cases h : j = i.toNatClampNeg <;> simp [h, upd, gI, sI, u2]) gE_sI] at hP1; exact hP1) hO hS1 hl)
theorem g_last (X : GC x cc nL own d) {g : Nat} {i : Int32} {v : Int64} (ht : gT g = 21) (hi : gIn i (gN g) = true) (dec : decode cc pc = .ok (.lastore, 1)) (go : WG x (sL M g i.toNatClampNeg v) lv (pc + 1) st) : WG x M lv pc (.long v :: .int i :: .ref (gad (xz x) g) :: st) :=
  fun H locs ls hP hO hS hl => va_last X.1 X.2.1 X.hK hP (X.hD M) hS g 1 (gW_at ht (by decide) (gE_21 ht)) rfl (gIn_in hi) dec (fun H1 locs1 hP1 _ hS1 => go H1 locs1 ls (by
    rw [gW_set (M' := sL M g i.toNatClampNeg v) (by rw [ht]; decide) (by rw [gE_21 ht]; refine congrArg (fun f => Sum.inl (gcy (xz x) 21, gN g, Sum.inr (Sum.inl f))) (funext fun j => ?_); by_cases h : j = i.toNatClampNeg <;> simp [h, vp_updL, gL, sL, u2]) gE_sL] at hP1; exact hP1) hO hS1 hl)
theorem g_aald_of (X : GC x cc nL own d) {g t t0 : Nat} {i : Int32} {ty : FieldType} (ht : gT g = t) (h9 : t < 30) (he : gE (xz x) M g = .inl (gcy (xz x) t, (gN g, .inr (.inr (.inr (.inr (fun j => some (gad (xz x) (gR g j)))))))) ) (h0 : (gTys (xz x))[t0]? = some (gcy (xz x) t, ty)) (hr : refKind ty = true) (hi : gIn i (gN g) = true) (dec : decode cc pc = .ok (.aaload, 1)) (go : WG x M lv (pc + 1) (.ref (gad (xz x) (gR g i.toNatClampNeg)) :: st)) : WG x M lv pc (.int i :: .ref (gad (xz x) g) :: st) :=
  fun H locs ls hP hO hS hl => W.aald (v := .ref (gad (xz x) (gR g i.toNatClampNeg))) (ty := ty) X.1 X.2.1 (hP g _ (gW_at ht h9 he)) ((X.hK.2 t0 _ h0).1 (gN g) (fun j => va_rf (some (gad (xz x) (gR g j))))) hr (fun q => by cases q) (by show ¬ (i < 0 ∨ (arrV _ _ _).slots.size ≤ _); rw [arrV_size]; exact gIn_in hi) (by show (arrV _ _ _).slots[_]? = _; rw [arrV_read _ _ (gIn_lt hi)]; rfl) rfl rfl dec (go H locs ls hP hO hS hl)
theorem g_aald_23 (X : GC x cc nL own d) {g : Nat} {i : Int32} (ht : gT g = 23) (hi : gIn i (gN g) = true) (dec : decode cc pc = .ok (.aaload, 1)) (go : WG x M lv (pc + 1) (.ref (gad (xz x) (gR g i.toNatClampNeg)) :: st)) : WG x M lv pc (.int i :: .ref (gad (xz x) g) :: st) := g_aald_of X (t0 := 3) ht (by decide) (gE_23 ht) rfl rfl hi dec go
theorem g_aald_24 (X : GC x cc nL own d) {g : Nat} {i : Int32} (ht : gT g = 24) (hi : gIn i (gN g) = true) (dec : decode cc pc = .ok (.aaload, 1)) (go : WG x M lv (pc + 1) (.ref (gad (xz x) (gR g i.toNatClampNeg)) :: st)) : WG x M lv pc (.int i :: .ref (gad (xz x) g) :: st) := g_aald_of X (t0 := 4) ht (by decide) (gE_24 ht) rfl rfl hi dec go
theorem g_aald_25 (X : GC x cc nL own d) {g : Nat} {i : Int32} (ht : gT g = 25) (hi : gIn i (gN g) = true) (dec : decode cc pc = .ok (.aaload, 1)) (go : WG x M lv (pc + 1) (.ref (gad (xz x) (gR g i.toNatClampNeg)) :: st)) : WG x M lv pc (.int i :: .ref (gad (xz x) g) :: st) := g_aald_of X (t0 := 5) ht (by decide) (gE_25 ht) rfl rfl hi dec go
theorem g_aald_26 (X : GC x cc nL own d) {g : Nat} {i : Int32} (ht : gT g = 26) (hi : gIn i (gN g) = true) (dec : decode cc pc = .ok (.aaload, 1)) (go : WG x M lv (pc + 1) (.ref (gad (xz x) (gR g i.toNatClampNeg)) :: st)) : WG x M lv pc (.int i :: .ref (gad (xz x) g) :: st) := g_aald_of X (t0 := 6) ht (by decide) (gE_26 ht) rfl rfl hi dec go
theorem g_aald_27 (X : GC x cc nL own d) {g : Nat} {i : Int32} (ht : gT g = 27) (hi : gIn i (gN g) = true) (dec : decode cc pc = .ok (.aaload, 1)) (go : WG x M lv (pc + 1) (.ref (gad (xz x) (gR g i.toNatClampNeg)) :: st)) : WG x M lv pc (.int i :: .ref (gad (xz x) g) :: st) := g_aald_of X (t0 := 7) ht (by decide) (gE_27 ht) rfl rfl hi dec go
theorem g_aald_28 (X : GC x cc nL own d) {g : Nat} {i : Int32} (ht : gT g = 28) (hi : gIn i (gN g) = true) (dec : decode cc pc = .ok (.aaload, 1)) (go : WG x M lv (pc + 1) (.ref (gad (xz x) (gR g i.toNatClampNeg)) :: st)) : WG x M lv pc (.int i :: .ref (gad (xz x) g) :: st) := g_aald_of X (t0 := 8) ht (by decide) (gE_28 ht) rfl rfl hi dec go
theorem g_aald_29 (X : GC x cc nL own d) {g : Nat} {i : Int32} (ht : gT g = 29) (hi : gIn i (gN g) = true) (dec : decode cc pc = .ok (.aaload, 1)) (go : WG x M lv (pc + 1) (.ref (gad (xz x) (gR g i.toNatClampNeg)) :: st)) : WG x M lv pc (.int i :: .ref (gad (xz x) g) :: st) := g_aald_of X (t0 := 9) ht (by decide) (gE_29 ht) rfl rfl hi dec go
theorem g_alen_20 (X : GC x cc nL own d) {g : Nat} (ht : gT g = 20) (dec : decode cc pc = .ok (.arraylength, 1)) (go : WG x M lv (pc + 1) (.int (Int32.ofNat (gN g)) :: st)) : WG x M lv pc (.ref (gad (xz x) g) :: st) := fun H locs ls hP hO hS hl => va_alen X.1 X.2.1 X.hK hP g 0 (gW_at ht (by decide) (gE_20 ht)) rfl rfl dec (go H locs ls hP hO hS hl)
theorem g_alen_21 (X : GC x cc nL own d) {g : Nat} (ht : gT g = 21) (dec : decode cc pc = .ok (.arraylength, 1)) (go : WG x M lv (pc + 1) (.int (Int32.ofNat (gN g)) :: st)) : WG x M lv pc (.ref (gad (xz x) g) :: st) := fun H locs ls hP hO hS hl => va_alen X.1 X.2.1 X.hK hP g 1 (gW_at ht (by decide) (gE_21 ht)) rfl rfl dec (go H locs ls hP hO hS hl)
theorem g_alen_22 (X : GC x cc nL own d) {g : Nat} (ht : gT g = 22) (dec : decode cc pc = .ok (.arraylength, 1)) (go : WG x M lv (pc + 1) (.int (Int32.ofNat (gN g)) :: st)) : WG x M lv pc (.ref (gad (xz x) g) :: st) := fun H locs ls hP hO hS hl => va_alen X.1 X.2.1 X.hK hP g 2 (gW_at ht (by decide) (gE_22 ht)) rfl rfl dec (go H locs ls hP hO hS hl)
theorem g_alen_23 (X : GC x cc nL own d) {g : Nat} (ht : gT g = 23) (dec : decode cc pc = .ok (.arraylength, 1)) (go : WG x M lv (pc + 1) (.int (Int32.ofNat (gN g)) :: st)) : WG x M lv pc (.ref (gad (xz x) g) :: st) := fun H locs ls hP hO hS hl => va_alen X.1 X.2.1 X.hK hP g 3 (gW_at ht (by decide) (gE_23 ht)) rfl rfl dec (go H locs ls hP hO hS hl)
theorem g_alen_24 (X : GC x cc nL own d) {g : Nat} (ht : gT g = 24) (dec : decode cc pc = .ok (.arraylength, 1)) (go : WG x M lv (pc + 1) (.int (Int32.ofNat (gN g)) :: st)) : WG x M lv pc (.ref (gad (xz x) g) :: st) := fun H locs ls hP hO hS hl => va_alen X.1 X.2.1 X.hK hP g 4 (gW_at ht (by decide) (gE_24 ht)) rfl rfl dec (go H locs ls hP hO hS hl)
theorem g_alen_25 (X : GC x cc nL own d) {g : Nat} (ht : gT g = 25) (dec : decode cc pc = .ok (.arraylength, 1)) (go : WG x M lv (pc + 1) (.int (Int32.ofNat (gN g)) :: st)) : WG x M lv pc (.ref (gad (xz x) g) :: st) := fun H locs ls hP hO hS hl => va_alen X.1 X.2.1 X.hK hP g 5 (gW_at ht (by decide) (gE_25 ht)) rfl rfl dec (go H locs ls hP hO hS hl)
theorem g_alen_26 (X : GC x cc nL own d) {g : Nat} (ht : gT g = 26) (dec : decode cc pc = .ok (.arraylength, 1)) (go : WG x M lv (pc + 1) (.int (Int32.ofNat (gN g)) :: st)) : WG x M lv pc (.ref (gad (xz x) g) :: st) := fun H locs ls hP hO hS hl => va_alen X.1 X.2.1 X.hK hP g 6 (gW_at ht (by decide) (gE_26 ht)) rfl rfl dec (go H locs ls hP hO hS hl)
theorem g_alen_27 (X : GC x cc nL own d) {g : Nat} (ht : gT g = 27) (dec : decode cc pc = .ok (.arraylength, 1)) (go : WG x M lv (pc + 1) (.int (Int32.ofNat (gN g)) :: st)) : WG x M lv pc (.ref (gad (xz x) g) :: st) := fun H locs ls hP hO hS hl => va_alen X.1 X.2.1 X.hK hP g 7 (gW_at ht (by decide) (gE_27 ht)) rfl rfl dec (go H locs ls hP hO hS hl)
theorem g_alen_28 (X : GC x cc nL own d) {g : Nat} (ht : gT g = 28) (dec : decode cc pc = .ok (.arraylength, 1)) (go : WG x M lv (pc + 1) (.int (Int32.ofNat (gN g)) :: st)) : WG x M lv pc (.ref (gad (xz x) g) :: st) := fun H locs ls hP hO hS hl => va_alen X.1 X.2.1 X.hK hP g 8 (gW_at ht (by decide) (gE_28 ht)) rfl rfl dec (go H locs ls hP hO hS hl)
theorem g_alen_29 (X : GC x cc nL own d) {g : Nat} (ht : gT g = 29) (dec : decode cc pc = .ok (.arraylength, 1)) (go : WG x M lv (pc + 1) (.int (Int32.ofNat (gN g)) :: st)) : WG x M lv pc (.ref (gad (xz x) g) :: st) := fun H locs ls hP hO hS hl => va_alen X.1 X.2.1 X.hK hP g 9 (gW_at ht (by decide) (gE_29 ht)) rfl rfl dec (go H locs ls hP hO hS hl)
end GR
end
section
/-! CONTRACTS, CALLS, THROWS -/
section GM1
variable {l : Launch} {z : GZ} {y : MethodName} {cc : ByteArray} {nL d : Nat} {As : List Value} {M M1 : GM}
theorem gOfW {y : MethodName} {ws ws' : List Cond} {rm : Room} {Pc : Array Value → State → Prop} {Qc : Array Value → State → Outcome → State → Prop} {mc ms : Nat} {free : Addr → Prop} {maxL : Nat} {ret : Option FieldType}
    (hy : plainFor y = true) (hw : ws = Cond.code y cc maxL ret :: ws')
    (body : ∀ p e s m args below meth c s₁, BodyLoose p l y (headSpec ws rm) cc maxL ret e s m args below meth c s₁ → c.maxLocals = maxL → Pc args s →
      W p l e (headSpec ws rm).room s m args below meth c s.heap [] 0 0 (MQ below Qc args s mc ms free) (entryFrame m args maxL)) : Met l y ws rm Pc Qc mc ms free := by
  refine MetFree.of_bodySF (code := cc) (maxLocals := maxL) (ret := ret) hy ?_ ?_
  · intro args s m h hn
    obtain ⟨meth, c, h1, h2, h3, h4, h5, h6, -, -⟩ := Cond.code_spec hn (atoms_spec (ws := ws) h _ (by rw [hw]; exact List.mem_cons_self))
    exact ⟨meth, c, h1, h2, h3, h4, h5, h6⟩
  · intro p e s m args below meth c s₁ B hml hP _
    obtain ⟨t, a1, o, b1, b2, b3⟩ := body p e s m args below meth c s₁ B hml hP s₁ (by rw [B.state]; rfl) (Stand.of_body B)
    exact ⟨t, o, a1, b1, b2, ⟨b3.1, b3.2⟩⟩
theorem gMet_of {ret : Option FieldType} {r : Option Value} (hy : plainFor y = true) (hn : (lg_sl As).length ≤ nL) (htr : l.stackTraces = false)
    (body : ∀ x : GX, GC x cc nL y.cls d → xz x = z → xl x = l → (∀ lv pc st, (∀ (H : Heap) (locs : List Loc) (ls : Array Slot), va_P (gD (xz x)) vwCl (gW (xz x) M1) H → gOK M1 → va_S (fun q => gB (xz x) ≤ q) (xs x).heap H locs → lv_has ls (xc x).maxLocals lv → (xmeth x).sig.returnType = ret → (∀ t : State, t.heap = H → gPost z M1 (xs x) t) → W (xp x) (xl x) (xe x) (xR x) (xs x) (xm x) (xargs x) (xbelow x) (xmeth x) (xc x) H locs 0 0 (MQ (xbelow x) (fun _ st o t => o = .returned r ∧ gPost z M1 st t) (xargs x) (xs x) 0 0 (fun q => gB z ≤ q)) (F0 (xm x) pc ls st)) → WG x M1 lv pc st) → WG x M (lv_args 0 As) 0 []) : gMet l z y cc nL ret d As M r M1 := by
  refine gOfW (cc := cc) (maxL := nL) (ret := ret) hy rfl ?_
  intro p e s m args below meth c s₁ B hml hv
  obtain ⟨rfl, hP, hO, hKK⟩ := hv
  have hts := atoms_spec (ws := gws y cc nL ret) B.pre
  have hl := lv_entry As (n := nL) hn
  rw [lg_entry_eq]
  generalize (lg_sl As ++ List.replicate (nL - (lg_sl As).length) Slot.unset).toArray = ls at hl ⊢
  have K := body (p, l, e, (headSpec (gws y cc nL ret) { frames := d, cells := 0, slots := 0, locals := 31 * d }).room, s, m, As.toArray, below, meth, c, MQ below (fun _ st o t => o = .returned r ∧ gPost z M1 st t) As.toArray s 0 0 (fun q => gB z ≤ q), 0, 0, z)
    ⟨B.exec, B.bytes, hml, findClass_of_methodNamed B.named, fun w hw => hts w (List.mem_cons_of_mem _ hw), B.notSynchronized, hKK, Nat.le_refl _, Nat.le_refl _, Nat.le_refl _, Nat.le_refl _, htr⟩ rfl rfl
    (fun lv pc st K H locs ls hP hO hS hl => K H locs ls hP hO hS hl B.returns (fun t ht => ⟨by rw [ht]; exact hP, hO, hS.F ht⟩))
  exact K s.heap [] ls hP hO va_S.rf (by rw [← hml] at hl; exact hl)
theorem gMet_ofI {ty : FieldType} {v : Int32} (hy : plainFor y = true) (hn : (lg_sl As).length ≤ nL) (htr : l.stackTraces = false) (hv : narrow ty (.int v) = .int v)
    (body : ∀ x : GX, GC x cc nL y.cls d → xz x = z → xl x = l → (∀ lv pc, decode cc pc = .ok (.ireturn, 1) → WG x M1 lv pc [.int v]) → WG x M (lv_args 0 As) 0 []) : gMet l z y cc nL (some ty) d As M (some (.int v)) M1 :=
  gMet_of hy hn htr (fun x X ez el hR => body x X ez el (fun lv pc dec => hR lv pc _ (fun H locs ls hP hO hS hl hr hq => W.zret X.1 X.2.1 hr hv (fun t ht _ => ⟨rfl, hq t ht⟩) (fun q h => by rw [← ez]; exact hS.2.2 q h) dec (hlocks := X.2.2.2.2.2.1))))
theorem gMet_ofL {v : Int64} (hy : plainFor y = true) (hn : (lg_sl As).length ≤ nL) (htr : l.stackTraces = false)
    (body : ∀ x : GX, GC x cc nL y.cls d → xz x = z → xl x = l → (∀ lv pc, decode cc pc = .ok (.lreturn, 1) → WG x M1 lv pc [.long v]) → WG x M (lv_args 0 As) 0 []) : gMet l z y cc nL (some .long) d As M (some (.long v)) M1 :=
  gMet_of hy hn htr (fun x X ez el hR => body x X ez el (fun lv pc dec => hR lv pc _ (fun H locs ls hP hO hS hl hr hq => W.lret X.1 X.2.1 hr (fun t ht _ => ⟨rfl, hq t ht⟩) (fun q h => by rw [← ez]; exact hS.2.2 q h) dec (hlocks := X.2.2.2.2.2.1))))
theorem gMet_ofD {v : UInt64} (hy : plainFor y = true) (hn : (lg_sl As).length ≤ nL) (htr : l.stackTraces = false)
    (body : ∀ x : GX, GC x cc nL y.cls d → xz x = z → xl x = l → (∀ lv pc, decode cc pc = .ok (.dreturn, 1) → WG x M1 lv pc [.double v]) → WG x M (lv_args 0 As) 0 []) : gMet l z y cc nL (some .double) d As M (some (.double v)) M1 :=
  gMet_of hy hn htr (fun x X ez el hR => body x X ez el (fun lv pc dec => hR lv pc _ (fun H locs ls hP hO hS hl hr hq => W.dret X.1 X.2.1 hr (fun t ht _ => ⟨rfl, hq t ht⟩) (fun q h => by rw [← ez]; exact hS.2.2 q h) dec (hlocks := X.2.2.2.2.2.1))))
theorem gMet_ofV (hy : plainFor y = true) (hn : (lg_sl As).length ≤ nL) (htr : l.stackTraces = false)
    (body : ∀ x : GX, GC x cc nL y.cls d → xz x = z → xl x = l → (∀ lv pc, decode cc pc = .ok (.return_, 1) → WG x M1 lv pc []) → WG x M (lv_args 0 As) 0 []) : gMet l z y cc nL none d As M none M1 :=
  gMet_of hy hn htr (fun x X ez el hR => body x X ez el (fun lv pc dec => hR lv pc _ (fun H locs ls hP hO hS hl hr hq => W.vret X.1 X.2.1 hr (fun t ht _ => ⟨rfl, hq t ht⟩) (fun q h => by rw [← ez]; exact hS.2.2 q h) dec (hlocks := X.2.2.2.2.2.1))))
/-- the class n may be thrown from here, with the memory M1 -/
def GThr (x : GX) (n : Nat) (M1 : GM) : Prop := ∃ (Qc : Array Value → State → Outcome → State → Prop) (XC : String → State → State → Prop) (mc ms : Nat), xQ x = vx_MQ (xbelow x) Qc XC (xargs x) (xs x) mc ms (fun q => gB (xz x) ≤ q) ∧ xcells x + 1 ≤ mc ∧ xslots x + 6 ≤ ms ∧ xcells x + 1 ≤ (xR x).cells ∧ xslots x + 6 ≤ (xR x).slots ∧ (∀ en ∈ (xc x).exceptionTable.toList, False) ∧ ∀ t : State, gPost (xz x) M1 (xs x) t → XC (gEx n) (xs x) t
theorem gMetX_of {ret : Option FieldType} {n : Nat} (hy : plainName y.cls = true) (hn : (lg_sl As).length ≤ nL) (htr : l.stackTraces = false)
    (body : ∀ x : GX, GC x cc nL y.cls d → xz x = z → xl x = l → GThr x n M1 → WG x M (lv_args 0 As) 0 []) : gMetX l z y cc nL ret d As M n M1 := by
  refine vx_ofW (cc := cc) (maxL := nL) (ret := ret) hy rfl ?_
  intro p e s m args below meth c s₁ B hml hnx hv
  obtain ⟨rfl, hP, hO, hKK⟩ := hv
  have hts := atoms_spec (ws := gws y cc nL ret) B.pre
  have hl := lv_entry As (n := nL) hn
  rw [lg_entry_eq]
  generalize (lg_sl As ++ List.replicate (nL - (lg_sl As).length) Slot.unset).toArray = ls at hl ⊢
  have K := body (p, l, e, (headSpec (gws y cc nL ret) { frames := d, cells := 1, slots := 6, locals := 31 * d }).room, s, m, As.toArray, below, meth, c, vx_MQ below (fun _ _ _ _ => False) (fun E st t => E = gEx n ∧ gPost z M1 st t) As.toArray s 1 6 (fun q => gB z ≤ q), 0, 0, z)
    ⟨B.exec, B.bytes, hml, findClass_of_methodNamed B.named, fun w hw => hts w (List.mem_cons_of_mem _ hw), B.notSynchronized, hKK, Nat.le_refl _, Nat.le_refl _, Nat.zero_le _, Nat.zero_le _, htr⟩ rfl rfl
    ⟨_, _, 1, 6, rfl, Nat.le_refl _, Nat.le_refl _, Nat.le_refl _, Nat.le_refl _, hnx, fun t ht => ⟨rfl, ht⟩⟩
  exact K s.heap [] ls hP hO va_S.rf (by rw [← hml] at hl; exact hl)
end GM1
section GCALL
variable {x : GX} {cc : ByteArray} {nL d pc : Nat} {own : String} {M : GM} {lv : List (Nat × Value)} {st : List Value}
theorem g_go {As rest st0 : List Value} {r : Option Value} {M1 : GM} {a : Array Value} {H : Heap} {locs : List Loc} {ls : Array Slot}
    (hr : va_Run (xp x) (xl x) (xe x) (xR x) (xs x) (xm x) (xargs x) (xbelow x) (xmeth x) (xc x) H locs (xcells x) (xslots x) 0 0 (F0 (xm x) pc ls st0) rest ((fun (_ : Array Value) (st : State) (o : Outcome) (t : State) => o = .returned r ∧ gPost (xz x) M1 st t) a) (fun q => gB (xz x) ≤ q))
    (hS : va_S (fun q => gB (xz x) ≤ q) (xs x).heap H locs) (hl : lv_has ls (xc x).maxLocals lv) (go : WG x M1 lv (pc + 3) (r.toList ++ rest)) : W (xp x) (xl x) (xe x) (xR x) (xs x) (xm x) (xargs x) (xbelow x) (xmeth x) (xc x) H locs (xcells x) (xslots x) (xQ x) (F0 (xm x) pc ls st0) := by
  intro T hT X'
  obtain ⟨v, st₀, t, T', L, h0, X1, hL, e1, e2, ⟨hv, hP1, hO1, hF1⟩, hgo⟩ := hr T hT X'
  cases hv
  have hS1 : va_S (fun q => gB (xz x) ≤ q) (xs x).heap T'.heap (locs ++ L) := by
    refine ⟨Nat.le_trans hS.1 (by rw [e1, ← h0]; exact hF1.1), fun q h1 h2 => ?_, fun q hq => ?_⟩
    · rw [e1, hF1.2 q (by rw [h0]; exact Nat.lt_of_lt_of_le h1 hS.1) h2, h0]
      exact hS.2.1 q h1 h2
    · rcases List.mem_append.mp hq with h | h
      · exact hS.2.2 q h
      · exact hL q h
  obtain ⟨t2, a1, b1⟩ := go T'.heap (locs ++ L) ls (by rw [e1]; exact hP1) hO1 hS1 hl T' rfl X1
  exact ⟨t2, hgo t2 a1, b1⟩
theorem gPre_call {H : Heap} {locs : List Loc} (X : GC x cc nL own d) (hP : va_P (gD (xz x)) vwCl (gW (xz x) M) H) (hO : gOK M) (hS : va_S (fun q => gB (xz x) ≤ q) (xs x).heap H locs) (U : State) (hU : U.heap = H) (hW : (xs x).WarmedH U.vm) : gPre (xz x) M U :=
  ⟨by rw [hU]; exact hP, hO, X.2.2.2.2.2.2.1.to hW (fun q h1 h2 => by rw [hU]; exact hS.2.1 q h1 h2)⟩
theorem g_recv {H : Heap} (X : GC x cc nL own d) (hP : va_P (gD (xz x)) vwCl (gW (xz x) M) H) {g t N : Nat} {C : String} {T : u_T} {fs : List Value} (ht : gT g = t) (h9 : t < 30) (he : gE (xz x) M g = .inr (t, fs)) (hc : vwCl[t]? = some (C, T, N)) : ∃ cellB : Cell, H[gad (xz x) g]? = some cellB ∧ cellB.vm.isStatics = false ∧ (xs x).vm.findClass C = some cellB.cls :=
  va_recv (q := (C, T, N)) X.hK hP hc (gW_at ht h9 he)
/-- room for a callee of depth d1 -/
theorem g_rm (X : GC x cc nL own d) {d1 nY : Nat} (hd : d1 + 1 ≤ d) (hn : nY ≤ 12) : d1 + 1 ≤ (xR x).frames ∧ 8 + (nY + 11) + 31 * d1 ≤ (xR x).locals :=
  ⟨Nat.le_trans hd X.2.2.2.2.2.2.2.1, by have := X.2.2.2.2.2.2.2.2.1; omega⟩
theorem g_callV (X : GC x cc nL own d) {y : MethodName} {bc : ByteArray} {nY d1 n idx g t N : Nat} {ret : Option FieldType} {As rest st0 : List Value} {r : Option Value} {M1 : GM} {C : String} {T : u_T} {fs : List Value}
    (hM : gMet (xl x) (xz x) y bc nY ret d1 (.ref (gad (xz x) g) :: As) M r M1) (ht : gT g = t) (h9 : t < 30) (he : gE (xz x) M g = .inr (t, fs)) (hc : vwCl[t]? = some (C, T, N))
    (hlk : Cond.methodLink own idx y ∈ GW) (hin : Cond.instanceMethod y ∈ GW) (hse : Cond.selects C y y ∈ GW) (hini : Cond.initialized C ∈ GW) (hcode : Cond.code y bc nY ret ∈ GW)
    (hy : y.cls = C ∧ y.cls ≠ "java/lang/invoke/MethodHandle" ∧ y.cls ≠ "java/lang/invoke/VarHandle" ∧ (parseMethodDescriptor y.desc).map (fun d => d.parameters.length) = some n) (hn : As.length = n) (hd : d1 + 1 ≤ d) (hnY : nY ≤ 12)
    (hst : st0 = As.reverse ++ .ref (gad (xz x) g) :: rest) (hsum : (rest.map fun v => v.category).sum ≤ 8) (dec : decode cc pc = .ok (.invokevirtual idx, 3)) (go : WG x M1 lv (pc + 3) (r.toList ++ rest)) : WG x M lv pc st0 := by
  intro H locs ls hP hO hS hl
  subst hst
  refine g_go (As := As) (a := (.ref (gad (xz x) g) :: As).toArray) (va_runV (As := As) (rest := rest) (Ts := GW) ⟨X.1, X.2.1, rfl, X.2.2.2.1, X.2.2.2.2.1⟩ hM (cwV n X.2.2.2.2.1 ?_ rfl rfl rfl hy (g_rm X hd hnY)) ⟨gPre.blind _ _ _, g_recv X hP ht h9 he hc, fun U hU hW => ⟨rfl, gPre_call X hP hO hS U hU hW⟩⟩ rfl hn hl.1 rfl (lv_room hsum) dec ⟨X.2.2.2.2.2.2.2.2.2.1, X.2.2.2.2.2.2.2.2.2.2.1⟩) hS hl go
  intro w hw
  rcases List.mem_append.mp (show w ∈ ([.methodLink own idx y, .instanceMethod y, .selects C y y, .initialized C] : List Cond) ++ gws y bc nY ret from hw) with h | h
  · have : w ∈ GW := by
      simp only [List.mem_cons, List.not_mem_nil, or_false] at h
      rcases h with rfl | rfl | rfl | rfl
      · exact hlk
      · exact hin
      · exact hse
      · exact hini
    exact ⟨this, gw_good this⟩
  · exact gws_good (fun w h => h) hcode w h
theorem g_callS (X : GC x cc nL own d) {y : MethodName} {bc : ByteArray} {nY d1 n idx : Nat} {ret : Option FieldType} {As rest st0 : List Value} {r : Option Value} {M1 : GM}
    (hM : gMet (xl x) (xz x) y bc nY ret d1 As M r M1)
    (hlk : Cond.methodLink own idx y ∈ GW) (hsta : Cond.static y ∈ GW) (hini : Cond.initialized y.cls ∈ GW) (hcode : Cond.code y bc nY ret ∈ GW)
    (hy : y.cls ≠ "java/lang/invoke/MethodHandle" ∧ y.cls ≠ "java/lang/invoke/VarHandle" ∧ (parseMethodDescriptor y.desc).map (fun d => d.parameters.length) = some n) (hn : As.length = n) (hd : d1 + 1 ≤ d) (hnY : nY ≤ 12)
    (hst : st0 = As.reverse ++ rest) (hsum : (rest.map fun v => v.category).sum ≤ 8) (dec : decode cc pc = .ok (.invokestatic idx, 3)) (go : WG x M1 lv (pc + 3) (r.toList ++ rest)) : WG x M lv pc st0 := by
  intro H locs ls hP hO hS hl
  subst hst
  exact g_go (As := As) (a := As.toArray) (va_runS (As := As) (rest := rest) (Ts := GW) ⟨X.1, X.2.1, rfl, X.2.2.2.1, X.2.2.2.2.1⟩ hM ⟨callB_of n X.2.2.2.2.1 (gws_good (fun w h => h) hcode) rfl rfl rfl (X.hw hini) (X.hw hlk) hy (g_rm X hd hnY), X.hw hsta⟩ ⟨gPre.blind _ _ _, fun U hU hW => ⟨rfl, gPre_call X hP hO hS U hU hW⟩⟩ rfl hn hl.1 rfl (lv_room hsum) dec ⟨X.2.2.2.2.2.2.2.2.2.1, X.2.2.2.2.2.2.2.2.2.2.1⟩) hS hl go
theorem g_callSN (X : GC x cc nL own d) {y : MethodName} {bc : ByteArray} {nY d1 n idx : Nat} {ret : Option FieldType} {As rest st0 : List Value} {r : Option Value} {M1 : GM} {host : String}
    (hM : gMet (xl x) (xz x) y bc nY ret d1 As M r M1)
    (hlk : gNest (xs x) → va_Nw (.methodLinkNest own idx y host) (xs x)) (hsta : Cond.static y ∈ GW) (hini : Cond.initialized y.cls ∈ GW) (hcode : Cond.code y bc nY ret ∈ GW)
    (hy : y.cls ≠ "java/lang/invoke/MethodHandle" ∧ y.cls ≠ "java/lang/invoke/VarHandle" ∧ (parseMethodDescriptor y.desc).map (fun d => d.parameters.length) = some n) (hn : As.length = n) (hd : d1 + 1 ≤ d) (hnY : nY ≤ 12)
    (hst : st0 = As.reverse ++ rest) (hsum : (rest.map fun v => v.category).sum ≤ 8) (dec : decode cc pc = .ok (.invokestatic idx, 3)) (go : WG x M1 lv (pc + 3) (r.toList ++ rest)) : WG x M lv pc st0 := by
  intro H locs ls hP hO hS hl
  subst hst
  exact g_go (As := As) (a := As.toArray) (va_runSN (As := As) (rest := rest) (Ts := GW) ⟨X.1, X.2.1, rfl, X.2.2.2.1, X.2.2.2.2.1⟩ hM ⟨va_cnB n X.2.2.2.2.1 (gws_good (fun w h => h) hcode) rfl rfl rfl (hlk X.2.2.2.2.2.2.1.2.1) (X.hw hini) hy (g_rm X hd hnY), X.hw hsta, trivial⟩ ⟨gPre.blind _ _ _, fun U hU hW => ⟨rfl, gPre_call X hP hO hS U hU hW⟩⟩ rfl hn hl.1 rfl (lv_room hsum) dec ⟨X.2.2.2.2.2.2.2.2.2.1, X.2.2.2.2.2.2.2.2.2.2.1⟩) hS hl go
theorem g_xgo {rest st0 : List Value} {n : Nat} {M1 : GM} {H : Heap} {locs : List Loc} {ls : Array Slot} (X : GC x cc nL own d)
    (hr : vx_Run (xp x) (xl x) (xe x) (xR x) (xs x) (xm x) (xargs x) (xbelow x) (xmeth x) (xc x) H locs (xcells x) (xslots x) 1 6 (F0 (xm x) pc ls st0) rest (fun _ _ _ => False) (fun E st t => E = gEx n ∧ gPost (xz x) M1 st t) (fun q => gB (xz x) ≤ q))
    (hS : va_S (fun q => gB (xz x) ≤ q) (xs x).heap H locs) (hT : GThr x n M1) : W (xp x) (xl x) (xe x) (xR x) (xs x) (xm x) (xargs x) (xbelow x) (xmeth x) (xc x) H locs (xcells x) (xslots x) (xQ x) (F0 (xm x) pc ls st0) := by
  intro T hTh X'
  obtain ⟨Qc, XC, mc, ms, hQ, hc1, hs1, -, -, hno, hxc⟩ := hT
  rcases hr T hTh X' with ⟨v, st₀, t, T', L, h0, X1, hL, e1, e2, hv, hgo⟩ | ⟨q, st₀, t, T', L, E, ce, h0, X1, hL, e1, e2, ⟨rfl, hP1, hO1, hF1⟩, hce, hcv, hcl, hgo⟩
  · exact hv.elim
  · have hS1 : va_S (fun q => gB (xz x) ≤ q) (xs x).heap T'.heap (locs ++ L) := by
      refine ⟨Nat.le_trans hS.1 (by rw [e1, ← h0]; exact hF1.1), fun q h1 h2 => ?_, fun q hq => ?_⟩
      · rw [e1, hF1.2 q (by rw [h0]; exact Nat.lt_of_lt_of_le h1 hS.1) h2, h0]
        exact hS.2.1 q h1 h2
      · rcases List.mem_append.mp hq with h | h
        · exact hS.2.2 q h
        · exact hL q h
    have K := vx_out (p := xp x) (l := xl x) (e := xe x) (R := xR x) (s := xs x) (m := xm x) (args := xargs x) (below := xbelow x) (meth := xmeth x) (c := xc x) (H := T'.heap) (locs := locs ++ L) (cells := xcells x + 1) (slots := xslots x + 6) (free := fun q => gB (xz x) ≤ q) (ls := ls) (rest := rest) (Qc := Qc) (XC := XC) (pc := pc) (E := gEx n) (ce := ce) (q := q) (mc := mc) (ms := ms)
      (fun en hen => (hno en hen).elim) X.2.2.2.2.2.1 (by rw [e1]; exact hce) hcv hcl (fun t1 ht1 _ => hxc t1 ⟨by rw [ht1, e1]; exact hP1, hO1, hS1.F ht1⟩) (fun q hq => hS1.2.2 q hq) hc1 hs1
    obtain ⟨t2, a1, b1⟩ := K T' rfl X1
    rw [hQ]
    exact ⟨t2, hgo.trans a1, b1⟩
theorem g_rx (hT : ∃ n M1, GThr x n M1) : xcells x + 1 ≤ (xR x).cells ∧ xslots x + 6 ≤ (xR x).slots := by
  obtain ⟨n, M1, Qc, XC, mc, ms, -, -, -, h1, h2, -⟩ := hT
  exact ⟨h1, h2⟩
theorem g_xV (X : GC x cc nL own d) {y : MethodName} {bc : ByteArray} {nY d1 n idx g t N k : Nat} {ret : Option FieldType} {As rest st0 : List Value} {M1 : GM} {C : String} {T : u_T} {fs : List Value}
    (hM : gMetX (xl x) (xz x) y bc nY ret d1 (.ref (gad (xz x) g) :: As) M k M1) (ht : gT g = t) (h9 : t < 30) (he : gE (xz x) M g = .inr (t, fs)) (hc : vwCl[t]? = some (C, T, N))
    (hlk : Cond.methodLink own idx y ∈ GW) (hin : Cond.instanceMethod y ∈ GW) (hse : Cond.selects C y y ∈ GW) (hini : Cond.initialized C ∈ GW) (hcode : Cond.code y bc nY ret ∈ GW)
    (hy : y.cls = C ∧ y.cls ≠ "java/lang/invoke/MethodHandle" ∧ y.cls ≠ "java/lang/invoke/VarHandle" ∧ (parseMethodDescriptor y.desc).map (fun d => d.parameters.length) = some n) (hn : As.length = n) (hd : d1 + 1 ≤ d) (hnY : nY ≤ 12)
    (hst : st0 = As.reverse ++ .ref (gad (xz x) g) :: rest) (hsum : (rest.map fun v => v.category).sum ≤ 8) (dec : decode cc pc = .ok (.invokevirtual idx, 3)) (hT : GThr x k M1) : WG x M lv pc st0 := by
  intro H locs ls hP hO hS hl
  subst hst
  refine g_xgo X (vx_runV (As := As) (rest := rest) (Ts := GW) ⟨X.1, X.2.1, rfl, X.2.2.2.1, X.2.2.2.2.1⟩ hM (cwV n X.2.2.2.2.1 ?_ rfl rfl rfl hy (g_rm X hd hnY)) ⟨gPre.blind _ _ _, g_recv X hP ht h9 he hc, fun U hU hW => ⟨rfl, gPre_call X hP hO hS U hU hW⟩⟩ rfl hn hl.1 rfl (lv_room hsum) dec (g_rx ⟨_, _, hT⟩)) hS hT
  intro w hw
  rcases List.mem_append.mp (show w ∈ ([.methodLink own idx y, .instanceMethod y, .selects C y y, .initialized C] : List Cond) ++ gws y bc nY ret from hw) with h | h
  · have : w ∈ GW := by
      simp only [List.mem_cons, List.not_mem_nil, or_false] at h
      rcases h with rfl | rfl | rfl | rfl
      · exact hlk
      · exact hin
      · exact hse
      · exact hini
    exact ⟨this, gw_good this⟩
  · exact gws_good (fun w h => h) hcode w h
theorem g_xS (X : GC x cc nL own d) {y : MethodName} {bc : ByteArray} {nY d1 n idx k : Nat} {ret : Option FieldType} {As rest st0 : List Value} {M1 : GM}
    (hM : gMetX (xl x) (xz x) y bc nY ret d1 As M k M1)
    (hlk : Cond.methodLink own idx y ∈ GW) (hsta : Cond.static y ∈ GW) (hini : Cond.initialized y.cls ∈ GW) (hcode : Cond.code y bc nY ret ∈ GW)
    (hy : y.cls ≠ "java/lang/invoke/MethodHandle" ∧ y.cls ≠ "java/lang/invoke/VarHandle" ∧ (parseMethodDescriptor y.desc).map (fun d => d.parameters.length) = some n) (hn : As.length = n) (hd : d1 + 1 ≤ d) (hnY : nY ≤ 12)
    (hst : st0 = As.reverse ++ rest) (hsum : (rest.map fun v => v.category).sum ≤ 8) (dec : decode cc pc = .ok (.invokestatic idx, 3)) (hT : GThr x k M1) : WG x M lv pc st0 := by
  intro H locs ls hP hO hS hl
  subst hst
  exact g_xgo X (vx_runS (As := As) (rest := rest) (Ts := GW) ⟨X.1, X.2.1, rfl, X.2.2.2.1, X.2.2.2.2.1⟩ hM ⟨callB_of n X.2.2.2.2.1 (gws_good (fun w h => h) hcode) rfl rfl rfl (X.hw hini) (X.hw hlk) hy (g_rm X hd hnY), X.hw hsta⟩ ⟨gPre.blind _ _ _, fun U hU hW => ⟨rfl, gPre_call X hP hO hS U hU hW⟩⟩ rfl hn hl.1 rfl (lv_room hsum) dec (g_rx ⟨_, _, hT⟩)) hS hT
/-- 'throw new E("text")' -/
theorem g_thr_hx {H : Heap} {locs : List Loc} (hP : va_P (gD (xz x)) vwCl (gW (xz x) M) H) (hO : gOK M) (hS : va_S (fun q => gB (xz x) ≤ q) (xs x).heap H locs) {XC : String → State → State → Prop} {n : Nat} (hxc : ∀ t : State, gPost (xz x) M (xs x) t → XC (gEx n) (xs x) t) : ∀ t : State, (xs x).vm.Alike t.vm → H.size ≤ t.heap.size → (∀ q : Nat, q < H.size → t.heap[q]? = H[q]?) → XC (gEx n) (xs x) t :=
  fun t _ hz hk => hxc t ⟨hP.kept (fun k q hq => hk q.1 ((hP k q hq).lt)), hO, Nat.le_trans hS.1 hz, fun q h1 h2 => by rw [hk q (Nat.lt_of_lt_of_le h1 hS.1)]; exact hS.2.1 q h1 h2⟩
theorem g_throw (X : GC x cc nL RX10 d) {ik is ic n : Nat} {text : String} {names : List String} (h6 : 6 ≤ d) (hlen : names.length = 2) (hcls : Bundle.fit (gEx n) = true) (hnames : ∀ n ∈ names, Bundle.fit n = true) (hk : Cond.classLink RX10 ik (gEx n) ∈ GW) (hini : Cond.initialized (gEx n) ∈ GW) (hstr : (is, text) ∈ gStrL)
    (hat : ∀ w ∈ (vx_atS RX10 ic (gEx n) names).filter goodWord, w ∈ GW) (hat2 : ∀ w ∈ (vx_atS RX10 ic (gEx n) names).filter (fun w => !goodWord w), w ∈ gFaceL) (hgood : ∀ w ∈ Cond.classLink RX10 ik (gEx n) :: Cond.initialized (gEx n) :: vx_atS RX10 ic (gEx n) names, vx_ot w = true)
    (hsum : (st.map fun v => v.category).sum ≤ 8)
    (d0 : decode cc pc = .ok (.new ik, 3)) (d3 : decode cc (pc + 3) = .ok (.dup, 1)) (d4 : (decode cc (pc + 4) = .ok (.ldc is, 2) ∧ decode cc (pc + 6) = .ok (.invokespecial ic, 3) ∧ decode cc (pc + 9) = .ok (.athrow, 1)) ∨ (decode cc (pc + 4) = .ok (.ldc_w is, 3) ∧ decode cc (pc + 7) = .ok (.invokespecial ic, 3) ∧ decode cc (pc + 10) = .ok (.athrow, 1))) (hT : GThr x n M) : WG x M lv pc st := by
  intro H locs ls hP hO hS hl
  obtain ⟨Qc, XC, mc, ms, hQ, hc1, hs1, hc2, hs2, hno, hxc⟩ := hT
  obtain ⟨sa, hsa⟩ := X.2.2.2.2.2.2.1.2.2.1 _ hstr
  have hf := X.2.2.2.2.2.2.1.2.2.2.2.2.2
  have hfr := X.2.2.2.2.2.2.2.1
  have hlo := X.2.2.2.2.2.2.2.2.1
  have hat3 : ∀ w ∈ vx_atS RX10 ic (gEx n) names, w.before (xargs x) (xs x) = true := vx_hat (fun w hw => X.hw (hat w hw)) hat2 (fun w hw => gFace_use (gFaceL_ok w hw) (hf w hw))
  rw [hQ]
  rcases d4 with ⟨d4, d6, d9⟩ | ⟨d4, d6, d9⟩
  · exact vx_throwS X.1 X.2.1 X.2.2.2.2.2.2.2.2.2.2.2 (A := fun q => gB (xz x) ≤ q) (names := names) X.2.2.2.1 hcls hnames (X.hw hk) (X.hw hini) hsa hat3 hgood X.2.2.2.2.2.2.1.2.2.2.1 X.2.2.2.2.2.2.1.2.2.2.2.1 hS hl.1 d0 d3 d4 d6 d9 (fun en hen => (hno en hen).elim) (by rw [hlen]; omega) (by rw [hlen]; omega) hc2 hs2 X.2.2.2.2.2.1 (g_thr_hx hP hO hS hxc) (fun q h => hS.2.2 q h) hc1 hs1
  · exact vx_throwSW X.1 X.2.1 X.2.2.2.2.2.2.2.2.2.2.2 (A := fun q => gB (xz x) ≤ q) (names := names) X.2.2.2.1 hcls hnames (X.hw hk) (X.hw hini) hsa hat3 hgood X.2.2.2.2.2.2.1.2.2.2.1 X.2.2.2.2.2.2.1.2.2.2.2.1 hS hl.1 d0 d3 d4 d6 d9 (fun en hen => (hno en hen).elim) (by rw [hlen]; omega) (by rw [hlen]; omega) hc2 hs2 X.2.2.2.2.2.1 (g_thr_hx hP hO hS hxc) (fun q h => hS.2.2 q h) hc1 hs1
end GCALL
end
section
/-! ROWS THAT ARE MADE AND PUT INTO THEIR PLACE -/
/-- the same cell, as far as it reaches -/
def CE (e e2 : va_E) : Prop := e = e2 ∨ (∃ (c : ClassId) (n : Nat) (f f2 : Nat → Int32), e = .inl (c, n, .inl f) ∧ e2 = .inl (c, n, .inl f2) ∧ ∀ j, j < n → f j = f2 j) ∨ ∃ (c : ClassId) (n : Nat) (f f2 : Nat → Option Nat), e = .inl (c, n, .inr (.inr (.inr (.inr f)))) ∧ e2 = .inl (c, n, .inr (.inr (.inr (.inr f2)))) ∧ ∀ j, j < n → f j = f2 j
theorem st_arr {c : ClassId} {n : Nat} {f f2 : Nat → Value} (h : ∀ j, j < n → f j = f2 j) : arrV c n f = arrV c n f2 := by
  unfold arrV
  exact congrArg (fun q : Fin n → Value => ({ cls := c, slots := Array.ofFn q, vm := .none } : Cell)) (funext fun j => h j.val j.isLt)
theorem ce_at {D : va_G} {a : Nat} {e e2 : va_E} {H : Heap} (h : CE e e2) (hat : va_at D vwCl (a, e) H) : va_at D vwCl (a, e2) H := by
  rcases h with rfl | ⟨c, n, f, f2, rfl, rfl, hf⟩ | ⟨c, n, f, f2, rfl, rfl, hf⟩
  · exact hat
  · have hat : H[a]? = some (vp_cell c (n, .inl f)) := hat
    show H[a]? = some (vp_cell c (n, .inl f2))
    rw [hat, vp_cell_i, vp_cell_i, st_arr (fun j hj => by rw [hf j hj])]
  · have hat : H[a]? = some (vp_cell c (n, .inr (.inr (.inr (.inr f))))) := hat
    show H[a]? = some (vp_cell c (n, .inr (.inr (.inr (.inr f2)))))
    rw [hat, vp_cell_q, vp_cell_q, st_arr (fun j hj => by rw [hf j hj])]
theorem gL9_mem {z : GZ} {g : Nat} : g ∈ gL9 z ↔ g < gn ∨ ∃ t, t ∈ gtz z ∧ 236 + t = g := by
  unfold gL9
  rw [List.mem_append, List.mem_range, List.mem_map]
theorem gL9_m {z : GZ} {g : Nat} (h : g ∈ gL9 z) (ht : ∀ t, t ∈ gtz z → t < 4) : g < 240 := by
  rcases gL9_mem.mp h with h | ⟨t, h1, rfl⟩
  · unfold gn at h; omega
  · have := ht t h1; omega
theorem gP_ids {z : GZ} {M : GM} {H : Heap} : va_P (gD z) vwCl (gW z M) H ↔ ∀ g, g ∈ gL9 z → va_at (gD z) vwCl (gad z g, gE z M g) H := by
  constructor
  · intro h g hg
    obtain ⟨i, hi⟩ := List.getElem?_of_mem hg
    exact h i _ (by unfold gW; rw [List.getElem?_map, hi]; rfl)
  · intro h k q hk
    unfold gW at hk
    rw [List.getElem?_map] at hk
    cases h2 : (gL9 z)[k]? with
    | none => rw [h2] at hk; cases hk
    | some g => rw [h2] at hk; cases hk; exact h g (List.mem_of_getElem? h2)
/-- the addresses are apart -/
def DI (z : GZ) : Prop := (gL9 z).Nodup ∧ (∀ g, g ∈ gL9 z → ∀ g9, g9 ∈ gL9 z → gad z g = gad z g9 → g = g9) ∧ ∀ g, g ∈ gL9 z → gB z ≤ gad z g
theorem DI.D {z : GZ} (h : DI z) : ∀ M, va_D (fun q => gB z ≤ q) (gW z M) := by
  intro M
  refine ⟨fun i j p q hi hj he => ?_, fun k q hk => ?_⟩
  · unfold gW at hi hj
    rw [List.getElem?_map] at hi hj
    cases h1 : (gL9 z)[i]? with
    | none => rw [h1] at hi; cases hi
    | some g =>
      cases h2 : (gL9 z)[j]? with
      | none => rw [h2] at hj; cases hj
      | some g9 =>
        rw [h1] at hi; rw [h2] at hj
        cases hi; cases hj
        have e : g = g9 := h.2.1 g (List.mem_of_getElem? h1) g9 (List.mem_of_getElem? h2) he
        subst e
        exact (List.getElem?_inj (List.getElem?_eq_some_iff.mp h1).1 h.1).mp (h1.trans h2.symm)
  · unfold gW at hk
    rw [List.getElem?_map] at hk
    cases h1 : (gL9 z)[k]? with
    | none => rw [h1] at hk; cases hk
    | some g => rw [h1] at hk; cases hk; exact h.2.2 g (List.mem_of_getElem? h1)
theorem DI.of {z : GZ} (hn : (gL9 z).Nodup) (hD : ∀ M, va_D (fun q => gB z ≤ q) (gW z M)) : DI z := by
  have hD := hD (fun _ _ => 0, fun _ _ => 0, fun _ _ => 0)
  have at_ : ∀ g i, (gL9 z)[i]? = some g → (gW z (fun _ _ => 0, fun _ _ => 0, fun _ _ => 0))[i]? = some (gad z g, gE z (fun _ _ => 0, fun _ _ => 0, fun _ _ => 0) g) := fun g i h => by unfold gW; rw [List.getElem?_map, h]; rfl
  refine ⟨hn, fun g hg g9 hg9 he => ?_, fun g hg => ?_⟩
  · obtain ⟨i, hi⟩ := List.getElem?_of_mem hg
    obtain ⟨j, hj⟩ := List.getElem?_of_mem hg9
    have e := hD.1 i j _ _ (at_ g i hi) (at_ g9 j hj) he
    subst e
    exact Option.some.inj (hi.symm.trans hj)
  · obtain ⟨i, hi⟩ := List.getElem?_of_mem hg
    exact hD.2 i _ (at_ g i hi)
/-- which rows have been made and are in no place yet -/
def TZ (z : GZ) (τ : List Nat) : Prop := gtz z = τ ∧ (gL9 z).Nodup ∧ ∀ t, t ∈ τ → t < 4
theorem TZ.nil {z : GZ} (h : gtz z = []) : TZ z [] := ⟨h, by unfold gL9; rw [h, List.map_nil, List.append_nil]; exact List.nodup_range, fun t h => absurd h List.not_mem_nil⟩
theorem TZ.mem {z : GZ} {τ : List Nat} (h : TZ z τ) {t : Nat} (ht : t ∈ τ) : 236 + t ∈ gL9 z := gL9_mem.mpr (Or.inr ⟨t, by rw [h.1]; exact ht, rfl⟩)
theorem TZ.lt {z : GZ} {τ : List Nat} (h : TZ z τ) {g : Nat} (hg : g ∈ gL9 z) : g < 240 := gL9_m hg (fun t ht => h.2.2 t (by rw [← h.1]; exact ht))
theorem GC.DI {x : GX} {cc : ByteArray} {nL d : Nat} {own : String} (X : GC x cc nL own d) {τ : List Nat} (h : TZ (xz x) τ) : DI (xz x) := DI.of h.2.1 X.hD
theorem gB_0 {g : Nat} (hg : g < 240) (h : gT g = 0) : 18 ≤ g ∧ g < 44 := (by decide +kernel : ∀ g, g < 240 → gT g = 0 → 18 ≤ g ∧ g < 44) g hg h
theorem gB_1 {g : Nat} (hg : g < 240) (h : gT g = 1) : 4 ≤ g ∧ g < 5 := (by decide +kernel : ∀ g, g < 240 → gT g = 1 → 4 ≤ g ∧ g < 5) g hg h
theorem gB_2 {g : Nat} (hg : g < 240) (h : gT g = 2) : 39 ≤ g ∧ g < 40 := (by decide +kernel : ∀ g, g < 240 → gT g = 2 → 39 ≤ g ∧ g < 40) g hg h
theorem gB_3 {g : Nat} (hg : g < 240) (h : gT g = 3) : 44 ≤ g ∧ g < 84 := (by decide +kernel : ∀ g, g < 240 → gT g = 3 → 44 ≤ g ∧ g < 84) g hg h
theorem gB_4 {g : Nat} (hg : g < 240) (h : gT g = 4) : 84 ≤ g ∧ g < 114 := (by decide +kernel : ∀ g, g < 240 → gT g = 4 → 84 ≤ g ∧ g < 114) g hg h
theorem gB_5 {g : Nat} (hg : g < 240) (h : gT g = 5) : 114 ≤ g ∧ g < 121 := (by decide +kernel : ∀ g, g < 240 → gT g = 5 → 114 ≤ g ∧ g < 121) g hg h
theorem gB_6 {g : Nat} (hg : g < 240) (h : gT g = 6) : 17 ≤ g ∧ g < 23 := (by decide +kernel : ∀ g, g < 240 → gT g = 6 → 17 ≤ g ∧ g < 23) g hg h
theorem gB_7 {g : Nat} (hg : g < 240) (h : gT g = 7) : 27 ≤ g ∧ g < 36 := (by decide +kernel : ∀ g, g < 240 → gT g = 7 → 27 ≤ g ∧ g < 36) g hg h
theorem gB_8 {g : Nat} (hg : g < 240) (h : gT g = 8) : 6 ≤ g ∧ g < 7 := (by decide +kernel : ∀ g, g < 240 → gT g = 8 → 6 ≤ g ∧ g < 7) g hg h
theorem gB_9 {g : Nat} (hg : g < 240) (h : gT g = 9) : 8 ≤ g ∧ g < 27 := (by decide +kernel : ∀ g, g < 240 → gT g = 9 → 8 ≤ g ∧ g < 27) g hg h
theorem gB_10 {g : Nat} (hg : g < 240) (h : gT g = 10) : 0 ≤ g ∧ g < 1 := (by decide +kernel : ∀ g, g < 240 → gT g = 10 → 0 ≤ g ∧ g < 1) g hg h
theorem gB_11 {g : Nat} (hg : g < 240) (h : gT g = 11) : 122 ≤ g ∧ g < 123 := (by decide +kernel : ∀ g, g < 240 → gT g = 11 → 122 ≤ g ∧ g < 123) g hg h
theorem gB_20 {g : Nat} (hg : g < 240) (h : gT g = 20) : 5 ≤ g ∧ g < 236 := (by decide +kernel : ∀ g, g < 240 → gT g = 20 → 5 ≤ g ∧ g < 236) g hg h
theorem gB_22 {g : Nat} (hg : g < 240) (h : gT g = 22) : 128 ≤ g ∧ g < 233 := (by decide +kernel : ∀ g, g < 240 → gT g = 22 → 128 ≤ g ∧ g < 233) g hg h
theorem gB_23 {g : Nat} (hg : g < 240) (h : gT g = 23) : 1 ≤ g ∧ g < 2 := (by decide +kernel : ∀ g, g < 240 → gT g = 23 → 1 ≤ g ∧ g < 2) g hg h
theorem gB_24 {g : Nat} (hg : g < 240) (h : gT g = 24) : 2 ≤ g ∧ g < 3 := (by decide +kernel : ∀ g, g < 240 → gT g = 24 → 2 ≤ g ∧ g < 3) g hg h
theorem gB_25 {g : Nat} (hg : g < 240) (h : gT g = 25) : 3 ≤ g ∧ g < 4 := (by decide +kernel : ∀ g, g < 240 → gT g = 25 → 3 ≤ g ∧ g < 4) g hg h
theorem gB_26 {g : Nat} (hg : g < 240) (h : gT g = 26) : 7 ≤ g ∧ g < 12 := (by decide +kernel : ∀ g, g < 240 → gT g = 26 → 7 ≤ g ∧ g < 12) g hg h
theorem gB_27 {g : Nat} (hg : g < 240) (h : gT g = 27) : 16 ≤ g ∧ g < 17 := (by decide +kernel : ∀ g, g < 240 → gT g = 27 → 16 ≤ g ∧ g < 17) g hg h
theorem gB_28 {g : Nat} (hg : g < 240) (h : gT g = 28) : 123 ≤ g ∧ g < 128 := (by decide +kernel : ∀ g, g < 240 → gT g = 28 → 123 ≤ g ∧ g < 128) g hg h
theorem gB_29 {g : Nat} (hg : g < 240) (h : gT g = 29) : 125 ≤ g ∧ g < 126 := (by decide +kernel : ∀ g, g < 240 → gT g = 29 → 125 ≤ g ∧ g < 126) g hg h
theorem gB_30 {g : Nat} (hg : g < 240) (h : gT g = 30) : 236 ≤ g ∧ g < 240 := (by decide +kernel : ∀ g, g < 240 → gT g = 30 → 236 ≤ g ∧ g < 240) g hg h
theorem gB_31 {g : Nat} (hg : g < 240) (h : gT g = 31) : 238 ≤ g ∧ g < 239 := (by decide +kernel : ∀ g, g < 240 → gT g = 31 → 238 ≤ g ∧ g < 239) g hg h
theorem gRb_23 {g j : Nat} (hg : g < 240) (h : gT g = 23) (hj : j < gN g) : gR g j < 122 := (by decide +kernel : ∀ g, g < 240 → gT g = 23 → ∀ j, j < gN g → gR g j < 122) g hg h j hj
theorem gRb_24 {g j : Nat} (hg : g < 240) (h : gT g = 24) (hj : j < gN g) : gR g j < 122 := (by decide +kernel : ∀ g, g < 240 → gT g = 24 → ∀ j, j < gN g → gR g j < 122) g hg h j hj
theorem gRb_25 {g j : Nat} (hg : g < 240) (h : gT g = 25) (hj : j < gN g) : gR g j < 122 := (by decide +kernel : ∀ g, g < 240 → gT g = 25 → ∀ j, j < gN g → gR g j < 122) g hg h j hj
theorem gRb_26 {g j : Nat} (hg : g < 240) (h : gT g = 26) (hj : j < gN g) : gR g j < 122 := (by decide +kernel : ∀ g, g < 240 → gT g = 26 → ∀ j, j < gN g → gR g j < 122) g hg h j hj
theorem gRb_27 {g j : Nat} (hg : g < 240) (h : gT g = 27) (hj : j < gN g) : gR g j < 122 := (by decide +kernel : ∀ g, g < 240 → gT g = 27 → ∀ j, j < gN g → gR g j < 122) g hg h j hj
theorem gTs {g : Nat} (hg : g < 240) : gT g = 0 ∨ gT g = 1 ∨ gT g = 2 ∨ gT g = 3 ∨ gT g = 4 ∨ gT g = 5 ∨ gT g = 6 ∨ gT g = 7 ∨ gT g = 8 ∨ gT g = 9 ∨ gT g = 10 ∨ gT g = 11 ∨ gT g = 20 ∨ gT g = 22 ∨ gT g = 23 ∨ gT g = 24 ∨ gT g = 25 ∨ gT g = 26 ∨ gT g = 27 ∨ gT g = 28 ∨ gT g = 29 ∨ gT g = 30 ∨ gT g = 31 := (by decide +kernel : ∀ g, g < 240 → gT g = 0 ∨ gT g = 1 ∨ gT g = 2 ∨ gT g = 3 ∨ gT g = 4 ∨ gT g = 5 ∨ gT g = 6 ∨ gT g = 7 ∨ gT g = 8 ∨ gT g = 9 ∨ gT g = 10 ∨ gT g = 11 ∨ gT g = 20 ∨ gT g = 22 ∨ gT g = 23 ∨ gT g = 24 ∨ gT g = 25 ∨ gT g = 26 ∨ gT g = 27 ∨ gT g = 28 ∨ gT g = 29 ∨ gT g = 30 ∨ gT g = 31) g hg
theorem gE_re {z z' : GZ} {M M' : GM} {g : Nat} (hg : g < 240) (hO : gOK M) (h1 : gcy z' = gcy z) (hs : gsa z' = gsa z) (ha : ∀ g9, g9 < 133 → gad z' g9 = gad z g9) (hr : (gT g = 28 ∨ gT g = 29) → ∀ j, j < gN g → gad z' (gR g j) = gad z (gR g j)) (hI : ∀ k, gI M' g k = gI M g k) (hL : ∀ k, gL M' g k = gL M g k) (hP : ∀ k, gP M' g k = gP M g k) : CE (gE z M g) (gE z' M' g) := by
  have hp : ∀ k, gP M g k < 133 := fun k => by
    have h9 := hO g k
    have h8 : gP M g k < 240 := gT_lm (by rw [h9]; decide)
    have := gB_9 h8 h9
    omega
  rcases gTs hg with h | h | h | h | h | h | h | h | h | h | h | h | h | h | h | h | h | h | h | h | h | h | h
  · have hb := gB_0 hg h
    rw [gE_0 h, gE_0 h]
    exact Or.inl (by simp only [hI, hL, hP, hs])
  · have hb := gB_1 hg h
    rw [gE_1 h, gE_1 h]
    exact Or.inl (by simp only [hI, hL, hP, hs, ha (g + 1) (by omega)])
  · have hb := gB_2 hg h
    rw [gE_2 h, gE_2 h]
    exact Or.inl (by simp only [hI, hL, hP, hs, ha (g + 1) (by omega)])
  · have hb := gB_3 hg h
    rw [gE_3 h, gE_3 h]
    exact Or.inl (by simp only [hI, hL, hP, hs])
  · have hb := gB_4 hg h
    rw [gE_4 h, gE_4 h]
    exact Or.inl (by simp only [hI, hL, hP, hs])
  · have hb := gB_5 hg h
    rw [gE_5 h, gE_5 h]
    exact Or.inl (by simp only [hI, hL, hP, hs, ha (g + 1) (by omega)])
  · have hb := gB_6 hg h
    rw [gE_6 h, gE_6 h]
    exact Or.inl (by simp only [hI, hL, hP, hs, ha (g + 1) (by omega), ha _ (hp _)])
  · have hb := gB_7 hg h
    rw [gE_7 h, gE_7 h]
    exact Or.inl (by simp only [hI, hL, hP, hs, ha (g + 1) (by omega), ha (g + 2) (by omega), ha (g + 3) (by omega)])
  · have hb := gB_8 hg h
    rw [gE_8 h, gE_8 h]
    exact Or.inl (by simp only [hI, hL, hP, hs, ha (g + 1) (by omega), ha (g + 5) (by omega), ha (g + 10) (by omega)])
  · have hb := gB_9 hg h
    rw [gE_9 h, gE_9 h]
    exact Or.inl (by simp only [hI, hL, hP, hs])
  · have hb := gB_10 hg h
    rw [gE_10 h, gE_10 h]
    exact Or.inl (by simp only [hI, hL, hP, hs, ha 1 (by decide), ha 2 (by decide), ha 3 (by decide), ha 4 (by decide), ha 6 (by decide), ha 27 (by decide), ha 31 (by decide), ha 35 (by decide), ha 39 (by decide), ha 41 (by decide), ha 42 (by decide), ha 43 (by decide)])
  · have hb := gB_11 hg h
    rw [gE_11 h, gE_11 h]
    exact Or.inl (by simp only [hI, hL, hP, hs, ha 0 (by decide), ha 123 (by decide), ha 124 (by decide), ha 125 (by decide), ha 126 (by decide), ha 127 (by decide), ha 128 (by decide)])
  · rw [gE_20 h, gE_20 h, h1]
    exact Or.inl (by simp only [hI, hL])
  · rw [gE_22 h, gE_22 h, h1]
    exact Or.inl (by simp only [hI, hL])
  · rw [gE_23 h, gE_23 h, h1]
    exact Or.inr (Or.inr ⟨_, _, _, _, rfl, rfl, fun j hj => by rw [ha _ (Nat.lt_of_lt_of_le (gRb_23 hg h hj) (by decide))]⟩)
  · rw [gE_24 h, gE_24 h, h1]
    exact Or.inr (Or.inr ⟨_, _, _, _, rfl, rfl, fun j hj => by rw [ha _ (Nat.lt_of_lt_of_le (gRb_24 hg h hj) (by decide))]⟩)
  · rw [gE_25 h, gE_25 h, h1]
    exact Or.inr (Or.inr ⟨_, _, _, _, rfl, rfl, fun j hj => by rw [ha _ (Nat.lt_of_lt_of_le (gRb_25 hg h hj) (by decide))]⟩)
  · rw [gE_26 h, gE_26 h, h1]
    exact Or.inr (Or.inr ⟨_, _, _, _, rfl, rfl, fun j hj => by rw [ha _ (Nat.lt_of_lt_of_le (gRb_26 hg h hj) (by decide))]⟩)
  · rw [gE_27 h, gE_27 h, h1]
    exact Or.inr (Or.inr ⟨_, _, _, _, rfl, rfl, fun j hj => by rw [ha _ (Nat.lt_of_lt_of_le (gRb_27 hg h hj) (by decide))]⟩)
  · rw [gE_28 h, gE_28 h, h1]
    exact Or.inr (Or.inr ⟨_, _, _, _, rfl, rfl, fun j hj => by rw [hr (Or.inl h) j hj]⟩)
  · rw [gE_29 h, gE_29 h, h1]
    exact Or.inr (Or.inr ⟨_, _, _, _, rfl, rfl, fun j hj => by rw [hr (Or.inr h) j hj]⟩)
  · rw [gE_30 h, gE_30 h, h1]
    exact Or.inl (by simp only [hI, hL])
  · rw [gE_31 h, gE_31 h, h1]
    exact Or.inl (by simp only [hI, hL])
theorem gR_lt {g j : Nat} (hg : g < 240) (h : gT g = 28 ∨ gT g = 29) (hj : j < gN g) : gR g j < 236 := (by decide +kernel : ∀ g, g < 240 → gT g = 28 ∨ gT g = 29 → ∀ j, j < gN g → gR g j < 236) g hg h j hj
theorem gR_inj {o o2 j j2 : Nat} (h1 : 123 ≤ o) (h2 : o < 133) (h3 : 123 ≤ o2) (h4 : o2 < 133) (h5 : gT o = 28 ∨ gT o = 29) (h6 : gT o2 = 28 ∨ gT o2 = 29) (hj : j < gN o) (hj2 : j2 < gN o2) (h : gR o j = gR o2 j2) : o = o2 ∧ j = j2 := by
  have c : ∀ o, o < 133 → 123 ≤ o → (gT o = 28 ∨ gT o = 29) → o = 123 ∨ o = 124 ∨ o = 125 ∨ o = 126 ∨ o = 127 := by decide +kernel
  have e3 : ∀ j, gR 123 j = 133 + j := fun _ => rfl
  have e4 : ∀ j, gR 124 j = 173 + j := fun _ => rfl
  have e5 : ∀ j, gR 125 j = 203 + j := fun _ => rfl
  have e6 : ∀ j, gR 126 j = 233 + j := fun _ => rfl
  have e7 : ∀ j, gR 127 j = 129 + j := fun _ => rfl
  have n3 : gN 123 = 40 := by decide +kernel
  have n4 : gN 124 = 30 := by decide +kernel
  have n5 : gN 125 = 30 := by decide +kernel
  have n6 : gN 126 = 3 := by decide +kernel
  have n7 : gN 127 = 4 := by decide +kernel
  rcases c o h2 h1 h5 with rfl | rfl | rfl | rfl | rfl <;> rcases c o2 h4 h3 h6 with rfl | rfl | rfl | rfl | rfl <;> (try rw [n3] at hj hj2) <;> (try rw [n4] at hj hj2) <;> (try rw [n5] at hj hj2) <;> (try rw [n6] at hj hj2) <;> (try rw [n7] at hj hj2) <;> (try rw [n3] at hj) <;> (try rw [n4] at hj) <;> (try rw [n5] at hj) <;> (try rw [n6] at hj) <;> (try rw [n7] at hj) <;> (try rw [n3] at hj2) <;> (try rw [n4] at hj2) <;> (try rw [n5] at hj2) <;> (try rw [n6] at hj2) <;> (try rw [n7] at hj2) <;> simp only [e3, e4, e5, e6, e7] at h <;> omega
/-- the context of x, with other counts and another world -/
abbrev xZ (x : GX) (c s : Nat) (z : GZ) : GX := (xp x, xl x, xe x, xR x, xs x, xm x, xargs x, xbelow x, xmeth x, xc x, xQ x, c, s, z)
def ZR (z z' : GZ) : Prop := gD z' = gD z ∧ gcy z' = gcy z ∧ gB z' = gB z ∧ gsa z' = gsa z ∧ gsl z' = gsl z ∧ gsx z' = gsx z ∧ ∀ g, g < 133 → gad z' g = gad z g
theorem ZR.rf (z : GZ) : ZR z z := ⟨rfl, rfl, rfl, rfl, rfl, rfl, fun _ _ => rfl⟩
theorem ZR.tr {z z1 z2 : GZ} (h : ZR z z1) (k : ZR z1 z2) : ZR z z2 := ⟨k.1.trans h.1, k.2.1.trans h.2.1, k.2.2.1.trans h.2.2.1, k.2.2.2.1.trans h.2.2.2.1, k.2.2.2.2.1.trans h.2.2.2.2.1, k.2.2.2.2.2.1.trans h.2.2.2.2.2.1, fun g hg => (k.2.2.2.2.2.2 g hg).trans (h.2.2.2.2.2.2 g hg)⟩
def XR (x x' : GX) : Prop := ∃ (c s : Nat) (z' : GZ), x' = xZ x c s z' ∧ ZR (xz x) z'
theorem XR.rf (x : GX) : XR x x := ⟨xcells x, xslots x, xz x, rfl, ZR.rf _⟩
theorem XR.tr {x x1 x2 : GX} (h : XR x x1) (k : XR x1 x2) : XR x x2 := by
  obtain ⟨c, s, z, rfl, h⟩ := h
  obtain ⟨c2, s2, z2, rfl, k⟩ := k
  exact ⟨c2, s2, z2, rfl, h.tr k⟩
theorem XR.ad {x x' : GX} (h : XR x x') {g : Nat} (hg : g < 133) : gad (xz x) g = gad (xz x') g := by
  obtain ⟨c, s, z, rfl, h⟩ := h
  exact (h.2.2.2.2.2.2 g hg).symm
theorem XR.sa {x x' : GX} (h : XR x x') : gsa (xz x) = gsa (xz x') := by
  obtain ⟨c, s, z, rfl, h⟩ := h
  exact h.2.2.2.1.symm
theorem XR.sc {x x' : GX} (h : XR x x') {L9 : Nat} {f : Nat → Int32} (k : gsl (xz x) = L9 ∧ gsx (xz x) = f) : gsl (xz x') = L9 ∧ gsx (xz x') = f := by
  obtain ⟨c, s, z, rfl, h⟩ := h
  exact ⟨h.2.2.2.2.1.trans k.1, h.2.2.2.2.2.1.trans k.2⟩
theorem XR.l {x x' : GX} (h : XR x x') : xl x' = xl x := by
  obtain ⟨c, s, z, rfl, h⟩ := h
  rfl
/-- room for k rows more -/
def XB (x : GX) (k : Nat) : Prop := xcells x + k ≤ (xR x).cells ∧ xslots x + 6 * k ≤ (xR x).slots
theorem XB.le {x : GX} {j k : Nat} (h : XB x k) (hj : j ≤ k) : XB x j := ⟨Nat.le_trans (Nat.add_le_add_left hj _) h.1, Nat.le_trans (Nat.add_le_add_left (Nat.mul_le_mul_left 6 hj) _) h.2⟩
theorem gKK.re {z z' : GZ} (h : ZR z z') (hD : ∀ M, va_D (fun q => gB z' ≤ q) (gW z' M)) {U : State} (hk : gKK z U) : gKK z' U := by
  obtain ⟨D, cy, ad, B, tz, sa, sl, sx⟩ := z'
  obtain ⟨e1, e2, e3, e4, e5, e6, -⟩ := h
  change D = gD z at e1
  change cy = gcy z at e2
  change B = gB z at e3
  change sa = gsa z at e4
  change sl = gsl z at e5
  change sx = gsx z at e6
  subst e1 e2 e3 e4 e5 e6
  obtain ⟨k1, k2, k3, k4, k5, k6, k7⟩ := hk
  exact ⟨k1, k2, k3, k4, k5, ⟨hD, k6.2⟩, k7⟩
theorem GC.re {x : GX} {cc : ByteArray} {nL d : Nat} {own : String} (X : GC x cc nL own d) {c s : Nat} {z' : GZ} (hc : c ≤ (xR x).cells) (hs : s ≤ (xR x).slots) (hz : ZR (xz x) z') (hD : ∀ M, va_D (fun q => gB z' ≤ q) (gW z' M)) : GC (xZ x c s z') cc nL own d :=
  ⟨X.1, X.2.1, X.2.2.1, X.2.2.2.1, X.2.2.2.2.1, X.2.2.2.2.2.1, gKK.re hz hD X.2.2.2.2.2.2.1, X.2.2.2.2.2.2.2.1, X.2.2.2.2.2.2.2.2.1, hc, hs, X.2.2.2.2.2.2.2.2.2.2.2⟩
section AR
variable {x : GX} {cc : ByteArray} {nL d pc : Nat} {own : String} {M : GM} {lv : List (Nat × Value)} {st : List Value}
theorem gW_put {z : GZ} {M M' : GM} {H H1 : Heap} {g : Nat} (hD : DI z) (hg : g ∈ gL9 z) (hP : va_P (gD z) vwCl (gW z M) H) (he : va_at (gD z) vwCl (gad z g, gE z M' g) H1) (oq : ∀ q : Nat, q ≠ gad z g → H1[q]? = H[q]?) (ho : ∀ g9, g9 ≠ g → gE z M' g9 = gE z M g9) : va_P (gD z) vwCl (gW z M') H1 := gP_ids.mpr fun g9 h9 => by
  by_cases e : g9 = g
  · subst e; exact he
  · rw [ho g9 e]; exact (gP_ids.mp hP g9 h9).kept (oq _ (fun h => e (hD.2.1 g9 h9 g hg h)))
theorem t_iald (X : GC x cc nL own d) {g : Nat} {i : Int32} (hg : g ∈ gL9 (xz x)) (ht : gT g = 30) (hi : gIn i (gN g) = true) (dec : decode cc pc = .ok (.iaload, 1)) (go : WG x M lv (pc + 1) (.int (gI M g i.toNatClampNeg) :: st)) : WG x M lv pc (.int i :: .ref (gad (xz x) g) :: st) := by
  intro H locs ls hP hO hS hl
  have hat : H[gad (xz x) g]? = some (vp_cell (gcy (xz x) 20) (gN g, .inl (fun j => gI M g j))) := by
    have h := gP_ids.mp hP g hg
    rw [gE_30 ht] at h
    exact h
  exact W.iald (v := .int (gI M g i.toNatClampNeg)) X.1 X.2.1 hat ((X.hK.2 0 _ rfl).1 (gN g) (fun j => .int (gI M g j))) (fun q => by cases q) (by show ¬ (i < 0 ∨ (arrV _ _ _).slots.size ≤ _); rw [arrV_size]; exact gIn_in hi) (by show (arrV _ _ _).slots[_]? = _; rw [arrV_read _ _ (gIn_lt hi)]) rfl rfl dec (go H locs ls hP hO hS hl)
theorem t_iast (X : GC x cc nL own d) {τ : List Nat} (hz : TZ (xz x) τ) {g : Nat} {i v : Int32} (hg : g ∈ gL9 (xz x)) (ht : gT g = 30) (hi : gIn i (gN g) = true) (dec : decode cc pc = .ok (.iastore, 1)) (go : WG x (sI M g i.toNatClampNeg v) lv (pc + 1) st) : WG x M lv pc (.int v :: .int i :: .ref (gad (xz x) g) :: st) := by
  intro H locs ls hP hO hS hl
  have hat : H[gad (xz x) g]? = some (vp_cell (gcy (xz x) 20) (gN g, .inl (fun j => gI M g j))) := by
    have h := gP_ids.mp hP g hg
    rw [gE_30 ht] at h
    exact h
  refine W.iast X.1 X.2.1 hat ((X.hK.2 0 _ rfl).1 (gN g) (fun j => .int (gI M g j))) (fun q => by cases q) (by show ¬ (i < 0 ∨ (arrV _ _ _).slots.size ≤ _); rw [arrV_size]; exact gIn_in hi) rfl rfl dec fun H1 e z oq => ?_
  refine go H1 _ ls (gW_put (X.DI hz) hg hP ?_ oq gE_sI) hO (hS.put z oq ((X.DI hz).2.2 g hg)) hl
  rw [gE_30 ht]
  show H1[gad (xz x) g]? = some (vp_cell _ _)
  rw [e, vp_cell_i, vp_cell_i, arrV_store]
  congr 2
  funext q
  by_cases hq : q = i.toNatClampNeg <;> simp [hq, updV, gI, sI, u2]
theorem g_newTi (X : GC x cc nL own d) {τ : List Nat} (hz : TZ (xz x) τ) {t N : Nat} {n : Int32} (ht : t ∉ τ) (ht4 : t < 4) (hN : gN (236 + t) = N) (hT : gT (236 + t) = 30) (hn : ¬ n < 0) (hnN : n.toNatClampNeg = N) (hN6 : N ≤ 6) {k : Nat} (B : XB x (k + 1)) (harr : Cond.arrayClass .int ∈ GW) (dec : decode cc pc = .ok (.newarray .int, 2)) (go : ∀ x' : GX, XR x x' → GC x' cc nL own d → XB x' k → TZ (xz x') (τ ++ [t]) → (∀ g, g ≠ 236 + t → gad (xz x) g = gad (xz x') g) → WG x' (sC M (236 + t) 0 N (fun _ => 0)) lv (pc + 2) (.ref (gad (xz x') (236 + t)) :: st)) : WG x M lv pc (.int n :: st) := by
  intro H locs ls hP hO hS hl
  have hB1 := B.1
  have hB2 := B.2
  refine va_newaK (atype := .int) X.1 X.2.1 (X.hw harr) (g := F0 (xm x) pc ls (.int n :: st)) rfl dec rfl hn hnN (by show N * 4 ≤ _; omega) (by omega) (by omega) rfl fun H1 cA e1 z1 o1 hAr hNm => ?_
  have ec : gcy (xz x) 20 = cA := Option.some.inj (((X.hK.2 0 _ rfl).2).symm.trans hNm)
  have hD := X.DI hz
  have hlt : ∀ g, g ∈ gL9 (xz x) → gad (xz x) g < H.size := fun g hg => (gP_ids.mp hP g hg).lt
  have hne : ∀ g, g ∈ gL9 (xz x) → g ≠ 236 + t := fun g hg h => by
    rcases gL9_mem.mp hg with q | ⟨t9, q1, q2⟩
    · unfold gn at q; omega
    · rw [hz.1] at q1
      have : t9 = t := by omega
      subst this
      exact ht q1
  have h0 : (0 : Nat) ∈ gL9 (xz x) := gL9_mem.mpr (Or.inl (by decide))
  obtain ⟨z', hz'⟩ : ∃ z' : GZ, z' = (gD (xz x), gcy (xz x), (fun g => if g = 236 + t then H.size else gad (xz x) g), gB (xz x), gtz (xz x) ++ [t], gsa (xz x), gsl (xz x), gsx (xz x)) := ⟨_, rfl⟩
  have a1 : ∀ g, g ≠ 236 + t → gad (xz x) g = gad z' g := fun g hg => by rw [hz']; exact (if_neg hg).symm
  have a2 : gad z' (236 + t) = H.size := by rw [hz']; exact if_pos rfl
  have l9 : gL9 z' = gL9 (xz x) ++ [236 + t] := by
    rw [hz']
    show List.range gn ++ (gtz (xz x) ++ [t]).map _ = (List.range gn ++ (gtz (xz x)).map _) ++ _
    rw [List.map_append, List.append_assoc]
    rfl
  have m9 : ∀ g, g ∈ gL9 z' → g ∈ gL9 (xz x) ∨ g = 236 + t := fun g hg => by
    rw [l9] at hg
    rcases List.mem_append.mp hg with h | h
    · exact Or.inl h
    · exact Or.inr (List.mem_singleton.mp h)
  have hB : gB z' = gB (xz x) := by rw [hz']
  have nd : (gL9 z').Nodup := by
    rw [l9]
    exact List.nodup_append.mpr ⟨hD.1, by simp, fun a ha b hb => by rw [List.mem_singleton] at hb; subst hb; exact hne a ha⟩
  have hD' : DI z' := ⟨nd, fun g hg g9 hg9 he => by
    rcases m9 g hg with h | h <;> rcases m9 g9 hg9 with h9 | h9
    · rw [← a1 g (hne g h), ← a1 g9 (hne g9 h9)] at he
      exact hD.2.1 g h g9 h9 he
    · rw [h9, ← a1 g (hne g h), a2] at he
      have := hlt g h
      omega
    · rw [h, ← a1 g9 (hne g9 h9), a2] at he
      have := hlt g9 h9
      omega
    · rw [h, h9], fun g hg => by
    rw [hB]
    rcases m9 g hg with h | h
    · rw [← a1 g (hne g h)]; exact hD.2.2 g h
    · rw [h, a2]
      exact Nat.le_trans (hD.2.2 0 h0) (Nat.le_of_lt (hlt 0 h0))⟩
  have zr : ZR (xz x) z' := by
    rw [hz']
    refine ⟨rfl, rfl, rfl, rfl, rfl, rfl, fun g hg => if_neg (by omega)⟩
  have hcy : gcy z' = gcy (xz x) := zr.2.1
  have hDD : gD z' = gD (xz x) := zr.1
  have tz : TZ z' (τ ++ [t]) := ⟨by rw [hz', ← hz.1], nd, fun t9 h => by
    rcases List.mem_append.mp h with h | h
    · exact hz.2.2 t9 h
    · rw [List.mem_singleton] at h; omega⟩
  rw [← a2]
  refine go (xZ x (xcells x + 1) (xslots x + N) z') ⟨_, _, _, rfl, zr⟩ (X.re (by omega) (by omega) zr hD'.D) ⟨by show xcells x + 1 + k ≤ (xR x).cells; omega, by show xslots x + N + 6 * k ≤ (xR x).slots; omega⟩ tz a1 H1 locs ls ?_ hO ?_ hl
  · show va_P (gD z') vwCl (gW z' (sC M (236 + t) 0 N (fun _ => 0))) H1
    refine gP_ids.mpr fun g hg => ?_
    rw [hDD]
    rcases m9 g hg with h | h
    · rw [← a1 g (hne g h)]
      exact ce_at (gE_re (hz.lt h) hO hcy zr.2.2.2.1 (fun g9 h9 => zr.2.2.2.2.2.2 g9 h9) (fun ht2 j hj => by
        have hb : gR g j < 236 := gR_lt (hz.lt h) ht2 hj
        exact (a1 _ (by omega)).symm) (fun k => by
        have := hne g h
        simp [gI, sC, this]) (fun _ => rfl) (fun _ => rfl)) ((gP_ids.mp hP g h).kept (o1 _ (hlt g h)))
    · rw [h, a2, gE_30 hT, hcy, hN]
      show H1[H.size]? = some (vp_cell _ _)
      rw [e1, ec, vp_cell_i]
      refine congrArg some (st_arr fun j hj => ?_)
      simp [gI, sC, hj]
      rfl
  · show va_S (fun q => gB z' ≤ q) (xs x).heap H1 locs
    rw [hB]
    exact ⟨Nat.le_trans hS.1 (by omega), fun q h1 h2 => (o1 q (Nat.lt_of_lt_of_le h1 hS.1)).trans (hS.2.1 q h1 h2), hS.2.2⟩
theorem g_aastTi (X : GC x cc nL own d) {t : Nat} {τ : List Nat} (hz : TZ (xz x) (t :: τ)) {o : Nat} {i : Int32} (ho : gT o = 28) (hi : gIn i (gN o) = true) (hT : gT (236 + t) = 30) (hrow : ∀ j, j < gN o → 133 ≤ gR o j ∧ gN (gR o j) = gN (236 + t)) (dec : decode cc pc = .ok (.aastore, 1)) (go : ∀ x' : GX, XR x x' → GC x' cc nL own d → (∀ k, XB x k → XB x' k) → TZ (xz x') τ → gad (xz x) (236 + t) = gad (xz x') (gR o i.toNatClampNeg) → (∀ g, g ≠ gR o i.toNatClampNeg → gad (xz x) g = gad (xz x') g) → WG x' (sC M (gR o i.toNatClampNeg) 0 (gN (236 + t)) (fun j => gI M (236 + t) j)) lv (pc + 1) st) : WG x M lv pc (.ref (gad (xz x) (236 + t)) :: .int i :: .ref (gad (xz x) o) :: st) := by
  intro H locs ls hP hO hS hl
  have hD := X.DI hz
  have hi2 := gIn_lt hi
  have ho9 : o < 240 := gT_lm (by rw [ho]; decide)
  have hob := gB_28 ho9 ho
  obtain ⟨r, hr⟩ : ∃ r, r = gR o i.toNatClampNeg := ⟨_, rfl⟩
  obtain ⟨r1, r2⟩ := hrow _ hi2
  have r3 : gT r = 20 := by rw [hr]; exact gR_28 ho hi2
  rw [← hr] at r1 r2 go
  have r4 : r < gn := gT_lt (by rw [r3]; decide)
  have r4' : r < 236 := r4
  have hom : o ∈ gL9 (xz x) := gL9_mem.mpr (Or.inl (gT_lt (by rw [ho]; decide)))
  have htm : 236 + t ∈ gL9 (xz x) := hz.mem List.mem_cons_self
  have hao : gad (xz x) (236 + t) ≠ gad (xz x) o := fun h => by
    have := hD.2.1 _ htm _ hom h
    omega
  have hat : H[gad (xz x) o]? = some (vp_cell (gcy (xz x) 28) (gN o, .inr (.inr (.inr (.inr (fun j => some (gad (xz x) (gR o j)))))))) := by
    have h := gP_ids.mp hP o hom
    rw [gE_28 ho] at h
    exact h
  have htt : H[gad (xz x) (236 + t)]? = some (vp_cell (gcy (xz x) 20) (gN (236 + t), .inl (fun j => gI M (236 + t) j))) := by
    have h := gP_ids.mp hP _ htm
    rw [gE_30 hT] at h
    exact h
  obtain ⟨kA, k1, k2⟩ := X.hRR.1
  obtain ⟨-, kC, hkC, -⟩ := (X.hK.2 0 _ rfl).1 (gN (236 + t)) (fun j => .int (gI M (236 + t) j))
  have h0 : ¬ i < 0 := fun q => gIn_in hi (Or.inl q)
  refine W.aast X.1 X.2.1 hat (fun q h => by cases h) (fun h => by cases h) k1 k2 rfl hkC ⟨h0, by show _ < (arrV _ _ _).slots.size; rw [arrV_size]; exact hi2⟩ htt (fun q h => by cases h) hkC (va_asg _ _) rfl rfl dec fun H1 e z1 oq => ?_
  obtain ⟨z', hz'⟩ : ∃ z' : GZ, z' = (gD (xz x), gcy (xz x), (fun g => if g = r then gad (xz x) (236 + t) else gad (xz x) g), gB (xz x), τ, gsa (xz x), gsl (xz x), gsx (xz x)) := ⟨_, rfl⟩
  have a1 : ∀ g, g ≠ r → gad (xz x) g = gad z' g := fun g hg => by rw [hz']; exact (if_neg hg).symm
  have a2 : gad (xz x) (236 + t) = gad z' r := by rw [hz']; exact (if_pos rfl).symm
  have l9 : gL9 z' = List.range gn ++ τ.map (fun t => 236 + t) := by rw [hz']; rfl
  have l8 : gL9 (xz x) = List.range gn ++ (236 + t) :: τ.map (fun t => 236 + t) := by unfold gL9; rw [hz.1]; rfl
  have nd8 := hD.1
  rw [l8] at nd8
  obtain ⟨n1, n2, n3⟩ := List.nodup_append.mp nd8
  obtain ⟨n4, n5⟩ := List.nodup_cons.mp n2
  have nd : (gL9 z').Nodup := by
    rw [l9]
    exact List.nodup_append.mpr ⟨n1, n5, fun a ha b hb => n3 a ha b (List.mem_cons_of_mem _ hb)⟩
  have m9 : ∀ g, g ∈ gL9 z' → g ∈ gL9 (xz x) ∧ g ≠ 236 + t := fun g hg => by
    rw [l9] at hg
    rw [l8]
    rcases List.mem_append.mp hg with h | h
    · exact ⟨List.mem_append.mpr (Or.inl h), n3 g h _ List.mem_cons_self⟩
    · exact ⟨List.mem_append.mpr (Or.inr (List.mem_cons_of_mem _ h)), fun q => n4 (q ▸ h)⟩
  have hB : gB z' = gB (xz x) := by rw [hz']
  have hD' : DI z' := ⟨nd, fun g hg g9 hg9 he => by
    obtain ⟨p1, p2⟩ := m9 g hg
    obtain ⟨q1, q2⟩ := m9 g9 hg9
    by_cases h : g = r <;> by_cases h9 : g9 = r
    · rw [h, h9]
    · rw [h, ← a2, ← a1 g9 h9] at he
      exact absurd (hD.2.1 _ htm _ q1 he).symm q2
    · rw [h9, ← a2, ← a1 g h] at he
      exact absurd (hD.2.1 _ p1 _ htm he) p2
    · rw [← a1 g h, ← a1 g9 h9] at he
      exact hD.2.1 g p1 g9 q1 he, fun g hg => by
    rw [hB]
    by_cases h : g = r
    · rw [h, ← a2]; exact hD.2.2 _ htm
    · rw [← a1 g h]; exact hD.2.2 g (m9 g hg).1⟩
  have zr : ZR (xz x) z' := by
    rw [hz']
    exact ⟨rfl, rfl, rfl, rfl, rfl, rfl, fun g hg => if_neg (by omega)⟩
  have hcy : gcy z' = gcy (xz x) := zr.2.1
  have hDD : gD z' = gD (xz x) := zr.1
  have tz : TZ z' τ := ⟨by rw [hz'], nd, fun t9 h => hz.2.2 t9 (List.mem_cons_of_mem _ h)⟩
  refine go (xZ x (xcells x) (xslots x) z') ⟨_, _, _, rfl, zr⟩ (X.re X.2.2.2.2.2.2.2.2.2.1 X.2.2.2.2.2.2.2.2.2.2.1 zr hD'.D) (fun k h => h) tz a2 a1 H1 _ ls ?_ hO ?_ hl
  · show va_P (gD z') vwCl (gW z' (sC M r 0 (gN (236 + t)) (fun j => gI M (236 + t) j))) H1
    refine gP_ids.mpr fun g hg => ?_
    rw [hDD]
    obtain ⟨p1, p2⟩ := m9 g hg
    by_cases h : g = r
    · rw [h, ← a2, gE_20 r3, hcy, r2]
      show H1[gad (xz x) (236 + t)]? = some (vp_cell _ _)
      rw [oq _ hao, htt, vp_cell_i, vp_cell_i]
      refine congrArg some (st_arr fun j hj => ?_)
      simp [gI, sC, hj]
    · by_cases h2 : g = o
      · rw [h2, ← a1 o (by omega), gE_28 ho, hcy]
        show H1[gad (xz x) o]? = some (vp_cell _ _)
        rw [e, vp_cell_q, vp_cell_q, arrV_store]
        refine congrArg some (st_arr fun j hj => ?_)
        by_cases hj2 : j = i.toNatClampNeg
        · subst hj2
          simp [updV, va_rf, ← hr, ← a2]
        · have h5 : gR o j ≠ r := fun h5 => by
            rw [hr] at h5
            exact hj2 (gR_inj (by omega) (by omega) (by omega) (by omega) (Or.inl ho) (Or.inl ho) hj hi2 h5).2
          simp [updV, hj2, va_rf, ← a1 _ h5]
      · rw [← a1 g h]
        exact ce_at (gE_re (hz.lt p1) hO hcy zr.2.2.2.1 (fun g9 h9 => zr.2.2.2.2.2.2 g9 h9) (fun ht2 j hj => by
          have h5 : gR g j ≠ r := fun h5 => by
            rw [hr] at h5
            have gb : 123 ≤ g ∧ g < 133 := by
              rcases ht2 with q | q
              · have := gB_28 (hz.lt p1) q; omega
              · have := gB_29 (hz.lt p1) q; omega
            exact h2 (gR_inj gb.1 gb.2 (by omega) (by omega) ht2 (Or.inl ho) hj hi2 h5).1
          exact (a1 _ h5).symm) (fun k => by simp [gI, sC, h]) (fun _ => rfl) (fun _ => rfl)) ((gP_ids.mp hP g p1).kept (oq _ (fun q => h2 (hD.2.1 g p1 o hom q))))
  · show va_S (fun q => gB z' ≤ q) (xs x).heap H1 _
    rw [hB]
    exact hS.put z1 oq (hD.2.2 o hom)
theorem t_zald (X : GC x cc nL own d) {g : Nat} {i : Int32} (hg : g ∈ gL9 (xz x)) (ht : gT g = 31) (hi : gIn i (gN g) = true) (dec : decode cc pc = .ok (.baload, 1)) (go : WG x M lv (pc + 1) (.int (gI M g i.toNatClampNeg) :: st)) : WG x M lv pc (.int i :: .ref (gad (xz x) g) :: st) := by
  intro H locs ls hP hO hS hl
  have hat : H[gad (xz x) g]? = some (vp_cell (gcy (xz x) 22) (gN g, .inl (fun j => gI M g j))) := by
    have h := gP_ids.mp hP g hg
    rw [gE_31 ht] at h
    exact h
  exact W.zald (v := .int (gI M g i.toNatClampNeg)) X.1 X.2.1 hat ((X.hK.2 2 _ rfl).1 (gN g) (fun j => .int (gI M g j))) (fun q => by cases q) (by show ¬ (i < 0 ∨ (arrV _ _ _).slots.size ≤ _); rw [arrV_size]; exact gIn_in hi) (by show (arrV _ _ _).slots[_]? = _; rw [arrV_read _ _ (gIn_lt hi)]) rfl rfl dec (go H locs ls hP hO hS hl)
theorem t_zast (X : GC x cc nL own d) {τ : List Nat} (hz : TZ (xz x) τ) {g : Nat} {i v : Int32} (hg : g ∈ gL9 (xz x)) (ht : gT g = 31) (hi : gIn i (gN g) = true) (hv : v = 0 ∨ v = 1) (dec : decode cc pc = .ok (.bastore, 1)) (go : WG x (sI M g i.toNatClampNeg v) lv (pc + 1) st) : WG x M lv pc (.int v :: .int i :: .ref (gad (xz x) g) :: st) := by
  intro H locs ls hP hO hS hl
  have hat : H[gad (xz x) g]? = some (vp_cell (gcy (xz x) 22) (gN g, .inl (fun j => gI M g j))) := by
    have h := gP_ids.mp hP g hg
    rw [gE_31 ht] at h
    exact h
  refine W.zast X.1 X.2.1 hat ((X.hK.2 2 _ rfl).1 (gN g) (fun j => .int (gI M g j))) (fun q => by cases q) (by show ¬ (i < 0 ∨ (arrV _ _ _).slots.size ≤ _); rw [arrV_size]; exact gIn_in hi) rfl rfl dec fun H1 e z oq => ?_
  refine go H1 _ ls (gW_put (X.DI hz) hg hP ?_ oq gE_sI) hO (hS.put z oq ((X.DI hz).2.2 g hg)) hl
  rw [gE_31 ht]
  show H1[gad (xz x) g]? = some (vp_cell _ _)
  rw [e, vp_cell_i, vp_cell_i, (gT_nar hv).2.1, arrV_store]
  congr 2
  funext q
  by_cases hq : q = i.toNatClampNeg <;> simp [hq, updV, gI, sI, u2]
theorem g_newTz (X : GC x cc nL own d) {τ : List Nat} (hz : TZ (xz x) τ) {t N : Nat} {n : Int32} (ht : t ∉ τ) (ht4 : t < 4) (hN : gN (236 + t) = N) (hT : gT (236 + t) = 31) (hn : ¬ n < 0) (hnN : n.toNatClampNeg = N) (hN6 : N ≤ 6) {k : Nat} (B : XB x (k + 1)) (harr : Cond.arrayClass .boolean ∈ GW) (dec : decode cc pc = .ok (.newarray .boolean, 2)) (go : ∀ x' : GX, XR x x' → GC x' cc nL own d → XB x' k → TZ (xz x') (τ ++ [t]) → (∀ g, g ≠ 236 + t → gad (xz x) g = gad (xz x') g) → WG x' (sC M (236 + t) 0 N (fun _ => 0)) lv (pc + 2) (.ref (gad (xz x') (236 + t)) :: st)) : WG x M lv pc (.int n :: st) := by
  intro H locs ls hP hO hS hl
  have hB1 := B.1
  have hB2 := B.2
  refine va_newaK (atype := .boolean) X.1 X.2.1 (X.hw harr) (g := F0 (xm x) pc ls (.int n :: st)) rfl dec rfl hn hnN (by show N * 1 ≤ _; omega) (by omega) (by omega) rfl fun H1 cA e1 z1 o1 hAr hNm => ?_
  have ec : gcy (xz x) 22 = cA := Option.some.inj (((X.hK.2 2 _ rfl).2).symm.trans hNm)
  have hD := X.DI hz
  have hlt : ∀ g, g ∈ gL9 (xz x) → gad (xz x) g < H.size := fun g hg => (gP_ids.mp hP g hg).lt
  have hne : ∀ g, g ∈ gL9 (xz x) → g ≠ 236 + t := fun g hg h => by
    rcases gL9_mem.mp hg with q | ⟨t9, q1, q2⟩
    · unfold gn at q; omega
    · rw [hz.1] at q1
      have : t9 = t := by omega
      subst this
      exact ht q1
  have h0 : (0 : Nat) ∈ gL9 (xz x) := gL9_mem.mpr (Or.inl (by decide))
  obtain ⟨z', hz'⟩ : ∃ z' : GZ, z' = (gD (xz x), gcy (xz x), (fun g => if g = 236 + t then H.size else gad (xz x) g), gB (xz x), gtz (xz x) ++ [t], gsa (xz x), gsl (xz x), gsx (xz x)) := ⟨_, rfl⟩
  have a1 : ∀ g, g ≠ 236 + t → gad (xz x) g = gad z' g := fun g hg => by rw [hz']; exact (if_neg hg).symm
  have a2 : gad z' (236 + t) = H.size := by rw [hz']; exact if_pos rfl
  have l9 : gL9 z' = gL9 (xz x) ++ [236 + t] := by
    rw [hz']
    show List.range gn ++ (gtz (xz x) ++ [t]).map _ = (List.range gn ++ (gtz (xz x)).map _) ++ _
    rw [List.map_append, List.append_assoc]
    rfl
  have m9 : ∀ g, g ∈ gL9 z' → g ∈ gL9 (xz x) ∨ g = 236 + t := fun g hg => by
    rw [l9] at hg
    rcases List.mem_append.mp hg with h | h
    · exact Or.inl h
    · exact Or.inr (List.mem_singleton.mp h)
  have hB : gB z' = gB (xz x) := by rw [hz']
  have nd : (gL9 z').Nodup := by
    rw [l9]
    exact List.nodup_append.mpr ⟨hD.1, by simp, fun a ha b hb => by rw [List.mem_singleton] at hb; subst hb; exact hne a ha⟩
  have hD' : DI z' := ⟨nd, fun g hg g9 hg9 he => by
    rcases m9 g hg with h | h <;> rcases m9 g9 hg9 with h9 | h9
    · rw [← a1 g (hne g h), ← a1 g9 (hne g9 h9)] at he
      exact hD.2.1 g h g9 h9 he
    · rw [h9, ← a1 g (hne g h), a2] at he
      have := hlt g h
      omega
    · rw [h, ← a1 g9 (hne g9 h9), a2] at he
      have := hlt g9 h9
      omega
    · rw [h, h9], fun g hg => by
    rw [hB]
    rcases m9 g hg with h | h
    · rw [← a1 g (hne g h)]; exact hD.2.2 g h
    · rw [h, a2]
      exact Nat.le_trans (hD.2.2 0 h0) (Nat.le_of_lt (hlt 0 h0))⟩
  have zr : ZR (xz x) z' := by
    rw [hz']
    refine ⟨rfl, rfl, rfl, rfl, rfl, rfl, fun g hg => if_neg (by omega)⟩
  have hcy : gcy z' = gcy (xz x) := zr.2.1
  have hDD : gD z' = gD (xz x) := zr.1
  have tz : TZ z' (τ ++ [t]) := ⟨by rw [hz', ← hz.1], nd, fun t9 h => by
    rcases List.mem_append.mp h with h | h
    · exact hz.2.2 t9 h
    · rw [List.mem_singleton] at h; omega⟩
  rw [← a2]
  refine go (xZ x (xcells x + 1) (xslots x + N) z') ⟨_, _, _, rfl, zr⟩ (X.re (by omega) (by omega) zr hD'.D) ⟨by show xcells x + 1 + k ≤ (xR x).cells; omega, by show xslots x + N + 6 * k ≤ (xR x).slots; omega⟩ tz a1 H1 locs ls ?_ hO ?_ hl
  · show va_P (gD z') vwCl (gW z' (sC M (236 + t) 0 N (fun _ => 0))) H1
    refine gP_ids.mpr fun g hg => ?_
    rw [hDD]
    rcases m9 g hg with h | h
    · rw [← a1 g (hne g h)]
      exact ce_at (gE_re (hz.lt h) hO hcy zr.2.2.2.1 (fun g9 h9 => zr.2.2.2.2.2.2 g9 h9) (fun ht2 j hj => by
        have hb : gR g j < 236 := gR_lt (hz.lt h) ht2 hj
        exact (a1 _ (by omega)).symm) (fun k => by
        have := hne g h
        simp [gI, sC, this]) (fun _ => rfl) (fun _ => rfl)) ((gP_ids.mp hP g h).kept (o1 _ (hlt g h)))
    · rw [h, a2, gE_31 hT, hcy, hN]
      show H1[H.size]? = some (vp_cell _ _)
      rw [e1, ec, vp_cell_i]
      refine congrArg some (st_arr fun j hj => ?_)
      simp [gI, sC, hj]
      rfl
  · show va_S (fun q => gB z' ≤ q) (xs x).heap H1 locs
    rw [hB]
    exact ⟨Nat.le_trans hS.1 (by omega), fun q h1 h2 => (o1 q (Nat.lt_of_lt_of_le h1 hS.1)).trans (hS.2.1 q h1 h2), hS.2.2⟩
theorem g_aastTz (X : GC x cc nL own d) {t : Nat} {τ : List Nat} (hz : TZ (xz x) (t :: τ)) {o : Nat} {i : Int32} (ho : gT o = 29) (hi : gIn i (gN o) = true) (hT : gT (236 + t) = 31) (hrow : ∀ j, j < gN o → 133 ≤ gR o j ∧ gN (gR o j) = gN (236 + t)) (dec : decode cc pc = .ok (.aastore, 1)) (go : ∀ x' : GX, XR x x' → GC x' cc nL own d → (∀ k, XB x k → XB x' k) → TZ (xz x') τ → gad (xz x) (236 + t) = gad (xz x') (gR o i.toNatClampNeg) → (∀ g, g ≠ gR o i.toNatClampNeg → gad (xz x) g = gad (xz x') g) → WG x' (sC M (gR o i.toNatClampNeg) 0 (gN (236 + t)) (fun j => gI M (236 + t) j)) lv (pc + 1) st) : WG x M lv pc (.ref (gad (xz x) (236 + t)) :: .int i :: .ref (gad (xz x) o) :: st) := by
  intro H locs ls hP hO hS hl
  have hD := X.DI hz
  have hi2 := gIn_lt hi
  have ho9 : o < 240 := gT_lm (by rw [ho]; decide)
  have hob := gB_29 ho9 ho
  obtain ⟨r, hr⟩ : ∃ r, r = gR o i.toNatClampNeg := ⟨_, rfl⟩
  obtain ⟨r1, r2⟩ := hrow _ hi2
  have r3 : gT r = 22 := by rw [hr]; exact gR_29 ho hi2
  rw [← hr] at r1 r2 go
  have r4 : r < gn := gT_lt (by rw [r3]; decide)
  have r4' : r < 236 := r4
  have hom : o ∈ gL9 (xz x) := gL9_mem.mpr (Or.inl (gT_lt (by rw [ho]; decide)))
  have htm : 236 + t ∈ gL9 (xz x) := hz.mem List.mem_cons_self
  have hao : gad (xz x) (236 + t) ≠ gad (xz x) o := fun h => by
    have := hD.2.1 _ htm _ hom h
    omega
  have hat : H[gad (xz x) o]? = some (vp_cell (gcy (xz x) 29) (gN o, .inr (.inr (.inr (.inr (fun j => some (gad (xz x) (gR o j)))))))) := by
    have h := gP_ids.mp hP o hom
    rw [gE_29 ho] at h
    exact h
  have htt : H[gad (xz x) (236 + t)]? = some (vp_cell (gcy (xz x) 22) (gN (236 + t), .inl (fun j => gI M (236 + t) j))) := by
    have h := gP_ids.mp hP _ htm
    rw [gE_31 hT] at h
    exact h
  obtain ⟨kA, k1, k2⟩ := X.hRR.2
  obtain ⟨-, kC, hkC, -⟩ := (X.hK.2 2 _ rfl).1 (gN (236 + t)) (fun j => .int (gI M (236 + t) j))
  have h0 : ¬ i < 0 := fun q => gIn_in hi (Or.inl q)
  refine W.aast X.1 X.2.1 hat (fun q h => by cases h) (fun h => by cases h) k1 k2 rfl hkC ⟨h0, by show _ < (arrV _ _ _).slots.size; rw [arrV_size]; exact hi2⟩ htt (fun q h => by cases h) hkC (va_asg _ _) rfl rfl dec fun H1 e z1 oq => ?_
  obtain ⟨z', hz'⟩ : ∃ z' : GZ, z' = (gD (xz x), gcy (xz x), (fun g => if g = r then gad (xz x) (236 + t) else gad (xz x) g), gB (xz x), τ, gsa (xz x), gsl (xz x), gsx (xz x)) := ⟨_, rfl⟩
  have a1 : ∀ g, g ≠ r → gad (xz x) g = gad z' g := fun g hg => by rw [hz']; exact (if_neg hg).symm
  have a2 : gad (xz x) (236 + t) = gad z' r := by rw [hz']; exact (if_pos rfl).symm
  have l9 : gL9 z' = List.range gn ++ τ.map (fun t => 236 + t) := by rw [hz']; rfl
  have l8 : gL9 (xz x) = List.range gn ++ (236 + t) :: τ.map (fun t => 236 + t) := by unfold gL9; rw [hz.1]; rfl
  have nd8 := hD.1
  rw [l8] at nd8
  obtain ⟨n1, n2, n3⟩ := List.nodup_append.mp nd8
  obtain ⟨n4, n5⟩ := List.nodup_cons.mp n2
  have nd : (gL9 z').Nodup := by
    rw [l9]
    exact List.nodup_append.mpr ⟨n1, n5, fun a ha b hb => n3 a ha b (List.mem_cons_of_mem _ hb)⟩
  have m9 : ∀ g, g ∈ gL9 z' → g ∈ gL9 (xz x) ∧ g ≠ 236 + t := fun g hg => by
    rw [l9] at hg
    rw [l8]
    rcases List.mem_append.mp hg with h | h
    · exact ⟨List.mem_append.mpr (Or.inl h), n3 g h _ List.mem_cons_self⟩
    · exact ⟨List.mem_append.mpr (Or.inr (List.mem_cons_of_mem _ h)), fun q => n4 (q ▸ h)⟩
  have hB : gB z' = gB (xz x) := by rw [hz']
  have hD' : DI z' := ⟨nd, fun g hg g9 hg9 he => by
    obtain ⟨p1, p2⟩ := m9 g hg
    obtain ⟨q1, q2⟩ := m9 g9 hg9
    by_cases h : g = r <;> by_cases h9 : g9 = r
    · rw [h, h9]
    · rw [h, ← a2, ← a1 g9 h9] at he
      exact absurd (hD.2.1 _ htm _ q1 he).symm q2
    · rw [h9, ← a2, ← a1 g h] at he
      exact absurd (hD.2.1 _ p1 _ htm he) p2
    · rw [← a1 g h, ← a1 g9 h9] at he
      exact hD.2.1 g p1 g9 q1 he, fun g hg => by
    rw [hB]
    by_cases h : g = r
    · rw [h, ← a2]; exact hD.2.2 _ htm
    · rw [← a1 g h]; exact hD.2.2 g (m9 g hg).1⟩
  have zr : ZR (xz x) z' := by
    rw [hz']
    exact ⟨rfl, rfl, rfl, rfl, rfl, rfl, fun g hg => if_neg (by omega)⟩
  have hcy : gcy z' = gcy (xz x) := zr.2.1
  have hDD : gD z' = gD (xz x) := zr.1
  have tz : TZ z' τ := ⟨by rw [hz'], nd, fun t9 h => hz.2.2 t9 (List.mem_cons_of_mem _ h)⟩
  refine go (xZ x (xcells x) (xslots x) z') ⟨_, _, _, rfl, zr⟩ (X.re X.2.2.2.2.2.2.2.2.2.1 X.2.2.2.2.2.2.2.2.2.2.1 zr hD'.D) (fun k h => h) tz a2 a1 H1 _ ls ?_ hO ?_ hl
  · show va_P (gD z') vwCl (gW z' (sC M r 0 (gN (236 + t)) (fun j => gI M (236 + t) j))) H1
    refine gP_ids.mpr fun g hg => ?_
    rw [hDD]
    obtain ⟨p1, p2⟩ := m9 g hg
    by_cases h : g = r
    · rw [h, ← a2, gE_22 r3, hcy, r2]
      show H1[gad (xz x) (236 + t)]? = some (vp_cell _ _)
      rw [oq _ hao, htt, vp_cell_i, vp_cell_i]
      refine congrArg some (st_arr fun j hj => ?_)
      simp [gI, sC, hj]
    · by_cases h2 : g = o
      · rw [h2, ← a1 o (by omega), gE_29 ho, hcy]
        show H1[gad (xz x) o]? = some (vp_cell _ _)
        rw [e, vp_cell_q, vp_cell_q, arrV_store]
        refine congrArg some (st_arr fun j hj => ?_)
        by_cases hj2 : j = i.toNatClampNeg
        · subst hj2
          simp [updV, va_rf, ← hr, ← a2]
        · have h5 : gR o j ≠ r := fun h5 => by
            rw [hr] at h5
            exact hj2 (gR_inj (by omega) (by omega) (by omega) (by omega) (Or.inr ho) (Or.inr ho) hj hi2 h5).2
          simp [updV, hj2, va_rf, ← a1 _ h5]
      · rw [← a1 g h]
        exact ce_at (gE_re (hz.lt p1) hO hcy zr.2.2.2.1 (fun g9 h9 => zr.2.2.2.2.2.2 g9 h9) (fun ht2 j hj => by
          have h5 : gR g j ≠ r := fun h5 => by
            rw [hr] at h5
            have gb : 123 ≤ g ∧ g < 133 := by
              rcases ht2 with q | q
              · have := gB_28 (hz.lt p1) q; omega
              · have := gB_29 (hz.lt p1) q; omega
            exact h2 (gR_inj gb.1 gb.2 (by omega) (by omega) ht2 (Or.inr ho) hj hi2 h5).1
          exact (a1 _ h5).symm) (fun k => by simp [gI, sC, h]) (fun _ => rfl) (fun _ => rfl)) ((gP_ids.mp hP g p1).kept (oq _ (fun q => h2 (hD.2.1 g p1 o hom q))))
  · show va_S (fun q => gB z' ≤ q) (xs x).heap H1 _
    rw [hB]
    exact hS.put z1 oq (hD.2.2 o hom)
theorem g_drop (X : GC x cc nL own d) {τ : List Nat} (hz : TZ (xz x) τ) (go : ∀ x' : GX, XR x x' → GC x' cc nL own d → (∀ k, XB x k → XB x' k) → TZ (xz x') [] → (∀ g, gad (xz x) g = gad (xz x') g) → WG x' M lv pc st) : WG x M lv pc st := by
  intro H locs ls hP hO hS hl
  have hD := X.DI hz
  obtain ⟨z', hz'⟩ : ∃ z' : GZ, z' = (gD (xz x), gcy (xz x), gad (xz x), gB (xz x), [], gsa (xz x), gsl (xz x), gsx (xz x)) := ⟨_, rfl⟩
  have tz : TZ z' [] := TZ.nil (by rw [hz'])
  have m9 : ∀ g, g ∈ gL9 z' → g ∈ gL9 (xz x) := fun g hg => by
    rcases gL9_mem.mp hg with h | ⟨t, h, -⟩
    · exact gL9_mem.mpr (Or.inl h)
    · rw [tz.1] at h; exact absurd h List.not_mem_nil
  have hD' : DI z' := ⟨tz.2.1, fun g hg g9 hg9 he => hD.2.1 g (m9 g hg) g9 (m9 g9 hg9) (by rw [hz'] at he; exact he), fun g hg => by rw [hz']; exact hD.2.2 g (m9 g hg)⟩
  have zr : ZR (xz x) z' := by
    rw [hz']
    exact ⟨rfl, rfl, rfl, rfl, rfl, rfl, fun g hg => rfl⟩
  have hg : ∀ M g, gE z' M g = gE (xz x) M g := fun M g => by rw [hz']; rfl
  refine go (xZ x (xcells x) (xslots x) z') ⟨_, _, _, rfl, zr⟩ (X.re X.2.2.2.2.2.2.2.2.2.1 X.2.2.2.2.2.2.2.2.2.2.1 zr hD'.D) (fun k h => h) tz (fun g => by rw [hz']) H locs ls ?_ hO (by rw [hz']; exact hS) hl
  show va_P (gD z') vwCl (gW z' M) H
  refine gP_ids.mpr fun g h => ?_
  rw [hg, show gD z' = gD (xz x) from zr.1, show gad z' g = gad (xz x) g by rw [hz']]
  exact gP_ids.mp hP g (m9 g h)
def aPost (z : GZ) (M1 : GM) (st t : State) : Prop := ∃ z' : GZ, ZR z z' ∧ gtz z' = [] ∧ (∀ M, va_D (fun q => gB z' ≤ q) (gW z' M)) ∧ va_P (gD z') vwCl (gW z' M1) t.heap ∧ gOK M1 ∧ va_F (fun q => gB z ≤ q) st t
/-- a method that makes at most mc rows -/
def aMet (l : Launch) (z : GZ) (y : MethodName) (cc : ByteArray) (nL : Nat) (d : Nat) (As : List Value) (M : GM) (v : Int32) (M1 : GM) (mc : Nat) : Prop :=
  Met l y (gws y cc nL (some .boolean)) { frames := d, cells := mc, slots := 6 * mc, locals := 31 * d } (va_Pc As (fun U => gPre z M U ∧ gtz z = [])) (fun _ st o t => o = .returned (some (.int v)) ∧ aPost z M1 st t) mc (6 * mc) (fun q => gB z ≤ q)
theorem aMet_of {l : Launch} {z : GZ} {y : MethodName} {As : List Value} {M1 : GM} {v : Int32} {mc : Nat} (hy : plainFor y = true) (hn : (lg_sl As).length ≤ nL) (htr : l.stackTraces = false)
    (body : ∀ x : GX, GC x cc nL y.cls d → XB x mc → TZ (xz x) [] → xz x = z → xl x = l → (∀ x' : GX, XR x x' → GC x' cc nL y.cls d → XB x' 0 → TZ (xz x') [] → ∀ lv pc, (v = 0 ∨ v = 1) → decode cc pc = .ok (.ireturn, 1) → WG x' M1 lv pc [.int v]) → WG x M (lv_args 0 As) 0 []) : aMet l z y cc nL d As M v M1 mc := by
  refine gOfW (cc := cc) (maxL := nL) (ret := some .boolean) hy rfl ?_
  intro p e s m args below meth c s₁ B hml hv
  obtain ⟨rfl, ⟨hP, hO, hKK⟩, htz⟩ := hv
  have hts := atoms_spec (ws := gws y cc nL (some .boolean)) B.pre
  have hl := lv_entry As (n := nL) hn
  rw [lg_entry_eq]
  generalize (lg_sl As ++ List.replicate (nL - (lg_sl As).length) Slot.unset).toArray = ls at hl ⊢
  have X : GC (p, l, e, (headSpec (gws y cc nL (some .boolean)) { frames := d, cells := mc, slots := 6 * mc, locals := 31 * d }).room, s, m, As.toArray, below, meth, c, MQ below (fun _ st o t => o = .returned (some (.int v)) ∧ aPost z M1 st t) As.toArray s mc (6 * mc) (fun q => gB z ≤ q), 0, 0, z) cc nL y.cls d :=
    ⟨B.exec, B.bytes, hml, findClass_of_methodNamed B.named, fun w hw => hts w (List.mem_cons_of_mem _ hw), B.notSynchronized, hKK, Nat.le_refl _, Nat.le_refl _, Nat.zero_le _, Nat.zero_le _, htr⟩
  refine body _ X ⟨by show 0 + mc ≤ mc; omega, by show 0 + 6 * mc ≤ 6 * mc; omega⟩ (TZ.nil htz) rfl rfl (fun x' hx' X' B' tz' lv pc hv dec => ?_) s.heap [] ls hP hO va_S.rf (by rw [← hml] at hl; exact hl)
  obtain ⟨c2, s2, z2, rfl, zr⟩ := hx'
  intro H locs ls2 hP2 hO2 hS2 hl2
  have hb1 : c2 + 0 ≤ mc := B'.1
  have hb2 : s2 + 6 * 0 ≤ 6 * mc := B'.2
  have hBB : gB z2 = gB z := zr.2.2.1
  have hS3 : va_S (fun q => gB z ≤ q) s.heap H locs := by
    have h : va_S (fun q => gB z2 ≤ q) s.heap H locs := hS2
    rw [hBB] at h
    exact h
  have K := W.zret (p := p) (l := l) (e := e) (R := (headSpec (gws y cc nL (some .boolean)) { frames := d, cells := mc, slots := 6 * mc, locals := 31 * d }).room) (s := s) (m := m) (args := As.toArray) (below := below) (meth := meth) (c := c) (H := H) (locs := locs) (pc := pc) (ls := ls2) (v := v) (cells := mc) (slots := 6 * mc) (Qc := fun _ st o t => o = .returned (some (.int v)) ∧ aPost z M1 st t) (free := fun q => gB z ≤ q) B.exec B.bytes B.returns (gT_nar hv).2.1 (fun t ht _ => ⟨rfl, z2, zr, tz'.1, X'.hD, by rw [ht]; exact hP2, hO2, hS3.F ht⟩) (fun q h => hS3.2.2 q h) dec (hlocks := B.notSynchronized)
  exact W.widen (by omega) (by omega) K
theorem g_callA (X : GC x cc nL own d) (hz : TZ (xz x) []) {y : MethodName} {bc : ByteArray} {nY d1 n idx g t N k mc : Nat} {As rest st0 : List Value} {r : Int32} {M1 : GM} {C : String} {T : u_T} {fs : List Value} (B : XB x (k + mc))
    (hM : aMet (xl x) (xz x) y bc nY d1 (.ref (gad (xz x) g) :: As) M r M1 mc) (ht : gT g = t) (h9 : t < 30) (he : gE (xz x) M g = .inr (t, fs)) (hc : vwCl[t]? = some (C, T, N))
    (hlk : Cond.methodLink own idx y ∈ GW) (hin : Cond.instanceMethod y ∈ GW) (hse : Cond.selects C y y ∈ GW) (hini : Cond.initialized C ∈ GW) (hcode : Cond.code y bc nY (some .boolean) ∈ GW)
    (hy : y.cls = C ∧ y.cls ≠ "java/lang/invoke/MethodHandle" ∧ y.cls ≠ "java/lang/invoke/VarHandle" ∧ (parseMethodDescriptor y.desc).map (fun d => d.parameters.length) = some n) (hn : As.length = n) (hd : d1 + 1 ≤ d) (hnY : nY ≤ 12)
    (hst : st0 = As.reverse ++ .ref (gad (xz x) g) :: rest) (hsum : (rest.map fun v => v.category).sum ≤ 8) (dec : decode cc pc = .ok (.invokevirtual idx, 3)) (go : ∀ x' : GX, XR x x' → GC x' cc nL own d → XB x' k → TZ (xz x') [] → WG x' M1 lv (pc + 3) (.int r :: rest)) : WG x M lv pc st0 := by
  intro H locs ls hP hO hS hl
  subst hst
  have hgood : GoodIn GW (wsV own idx C y (gws y bc nY (some .boolean))) := by
    intro w hw
    rcases List.mem_append.mp (show w ∈ ([.methodLink own idx y, .instanceMethod y, .selects C y y, .initialized C] : List Cond) ++ gws y bc nY (some .boolean) from hw) with h | h
    · have : w ∈ GW := by
        simp only [List.mem_cons, List.not_mem_nil, or_false] at h
        rcases h with rfl | rfl | rfl | rfl
        · exact hlk
        · exact hin
        · exact hse
        · exact hini
      exact ⟨this, gw_good this⟩
    · exact gws_good (fun w h => h) hcode w h
  have hb1 := B.1
  have hb2 := B.2
  have hr := va_runV (p := xp x) (l := xl x) (e := xe x) (R := xR x) (s := xs x) (m := xm x) (args := xargs x) (below := xbelow x) (meth := xmeth x) (c := xc x) (H := H) (locs := locs) (cells := xcells x) (slots := xslots x) (g := F0 (xm x) pc ls (As.reverse ++ .ref (gad (xz x) g) :: rest)) (As := As) (rest := rest) (Ts := GW) ⟨X.1, X.2.1, rfl, X.2.2.2.1, X.2.2.2.2.1⟩ hM (cwV n X.2.2.2.2.1 hgood rfl rfl rfl hy (g_rm X hd hnY))
    ⟨fun a U g9 mk h => ⟨(gPre.blind _ _ _ a U g9 mk ⟨h.1, h.2.1⟩).1, (gPre.blind _ _ _ a U g9 mk ⟨h.1, h.2.1⟩).2, h.2.2⟩, g_recv X hP ht h9 he hc, fun U hU hW => ⟨rfl, gPre_call X hP hO hS U hU hW, hz.1⟩⟩ rfl hn hl.1 rfl (lv_room hsum) dec ⟨by omega, by omega⟩
  intro T hT X'
  obtain ⟨v, st₀, t, T', L, h0, X1, hL, e1, e2, ⟨hv, z2, zr, tz2, hD2, hP1, hO1, hF1⟩, hgo⟩ := hr T hT X'
  cases hv
  have hS1 : va_S (fun q => gB z2 ≤ q) (xs x).heap T'.heap (locs ++ L) := by
    rw [zr.2.2.1]
    refine ⟨Nat.le_trans hS.1 (by rw [e1, ← h0]; exact hF1.1), fun q h1 h2 => ?_, fun q hq => ?_⟩
    · rw [e1, hF1.2 q (by rw [h0]; exact Nat.lt_of_lt_of_le h1 hS.1) h2, h0]
      exact hS.2.1 q h1 h2
    · rcases List.mem_append.mp hq with h | h
      · exact hS.2.2 q h
      · exact hL q h
  obtain ⟨t2, a1, b1⟩ := go (xZ x (xcells x + mc) (xslots x + 6 * mc) z2) ⟨_, _, _, rfl, zr⟩ (X.re (by omega) (by omega) zr hD2) ⟨by show xcells x + mc + k ≤ (xR x).cells; omega, by show xslots x + 6 * mc + 6 * k ≤ (xR x).slots; omega⟩ (TZ.nil tz2) T'.heap (locs ++ L) ls (by rw [e1]; exact hP1) hO1 hS1 hl T' rfl X1
  exact ⟨t2, hgo t2 a1, b1⟩
end AR
end
