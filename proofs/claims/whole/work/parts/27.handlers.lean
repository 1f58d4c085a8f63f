/-! METHODS WITH HANDLERS (the law's own helpers), the law's calls of them -/
def gwsW (y : MethodName) (cc : ByteArray) (nL : Nat) (hh : List (Nat × Nat × Nat × Nat)) : List Cond := .codeWith y cc nL (some .int) hh :: GW
def gNcs (U : State) : Prop := (∀ a b : Nat, a < 4 → b < 4 → 0 < a → 0 < b → a ≠ b → va_Nc (gEx a) (gEx b) U)
theorem gNcs.moved {u U : State} (hvm : u.vm.Alike U.vm) (h : gNcs u) : gNcs U := fun a b h1 h2 h3 h4 h5 => va_Nc.moved hvm (h a b h1 h2 h3 h4 h5)
def gMetW (l : Launch) (z : GZ) (y : MethodName) (cc : ByteArray) (nL : Nat) (hh : List (Nat × Nat × Nat × Nat)) (As : List Value) (M : GM) (k : Int32) (M1 : GM) : Prop :=
  Met l y (gwsW y cc nL hh) { frames := 8, cells := 1, slots := 6, locals := 31 * 8 } (va_Pc As (fun U => gPre z M U ∧ gNcs U)) (fun _ st o t => o = .returned (some (.int k)) ∧ gPost z M1 st t) 1 6 (fun q => gB z ≤ q)
/-- the same walk with one more cell of six slots made -/
abbrev xup (x : GX) : GX := (xp x, xl x, xe x, xR x, xs x, xm x, xargs x, xbelow x, xmeth x, xc x, xQ x, xcells x + 1, xslots x + 6, xz x)
theorem g_up {x : GX} {M : GM} {lv : List (Nat × Value)} {pc : Nat} {st : List Value} (go : WG (xup x) M lv pc st) : WG x M lv pc st :=
  fun H locs ls hP hO hS hl => W.widen (Nat.le_succ _) (Nat.le_add_right _ _) (go H locs ls hP hO hS hl)
theorem GC.up {x : GX} {cc : ByteArray} {nL d : Nat} {own : String} (X : GC x cc nL own d) (h : xcells x + 1 ≤ (xR x).cells ∧ xslots x + 6 ≤ (xR x).slots) : GC (xup x) cc nL own d :=
  ⟨X.1, X.2.1, X.2.2.1, X.2.2.2.1, X.2.2.2.2.1, X.2.2.2.2.2.1, X.2.2.2.2.2.2.1, X.2.2.2.2.2.2.2.1, X.2.2.2.2.2.2.2.2.1, h.1, h.2, X.2.2.2.2.2.2.2.2.2.2.2⟩
section GW1
variable {l : Launch} {z : GZ} {y : MethodName} {cc : ByteArray} {nL : Nat} {As : List Value} {M M1 : GM}
theorem gMetW_of {hh : List (Nat × Nat × Nat × Nat)} {k : Int32} (hy : plainName y.cls = true) (hn : (lg_sl As).length ≤ nL) (htr : l.stackTraces = false)
    (body : ∀ x : GX, GC x cc nL y.cls 8 → GC (xup x) cc nL y.cls 8 → xz x = z → xl x = l → (xc x).exceptionTable.toList = tableOf hh → gNcs (xs x) → (∀ lv pc, decode cc pc = .ok (.ireturn, 1) → WG (xup x) M1 lv pc [.int k]) → WG x M (lv_args 0 As) 0 []) : gMetW l z y cc nL hh As M k M1 := by
  refine va_MetW (cc := cc) (maxL := nL) (ret := some .int) (hh := hh) hy rfl ?_
  intro p e s m args below meth c s₁ B hml hv
  obtain ⟨rfl, ⟨hP, hO, hKK⟩, hnc⟩ := hv
  have hts := atoms_spec (ws := gwsW y cc nL hh) B.pre
  have htab := vx_table (x := y) B (hts _ List.mem_cons_self)
  have hl := lv_entry As (n := nL) hn
  rw [lg_entry_eq]
  generalize (lg_sl As ++ List.replicate (nL - (lg_sl As).length) Slot.unset).toArray = ls at hl ⊢
  have X : GC (p, l, e, (headSpec (gwsW y cc nL hh) { frames := 8, cells := 1, slots := 6, locals := 31 * 8 }).room, s, m, As.toArray, below, meth, c, MQ below (fun _ st o t => o = .returned (some (.int k)) ∧ gPost z M1 st t) As.toArray s 1 6 (fun q => gB z ≤ q), 0, 0, z) cc nL y.cls 8 :=
    ⟨B.exec, B.bytes, hml, findClass_of_methodNamed B.named, fun w hw => hts w (List.mem_cons_of_mem _ hw), B.notSynchronized, hKK, Nat.le_refl _, Nat.le_refl _, Nat.zero_le _, Nat.zero_le _, htr⟩
  have K := body _ X (X.up ⟨Nat.le_refl _, Nat.le_refl _⟩) rfl rfl htab hnc
    (fun lv pc dec H locs ls hP hO hS hl => by
      have hP1 : va_P (gD z) vwCl (gW z M1) H := hP
      have hS1 : va_S (fun q => gB z ≤ q) s.heap H locs := hS
      have K := W.iret (p := p) (l := l) (e := e) (R := (headSpec (gwsW y cc nL hh) { frames := 8, cells := 1, slots := 6, locals := 31 * 8 }).room) (s := s) (m := m) (args := As.toArray) (below := below) (meth := meth) (c := c) (H := H) (locs := locs) (pc := pc) (ls := ls) (v := k) (cells := 1) (slots := 6) (Qc := fun _ st o t => o = .returned (some (.int k)) ∧ gPost z M1 st t) (free := fun q => gB z ≤ q) B.exec B.bytes B.returns (fun t ht _ => ⟨rfl, by rw [ht]; exact hP1, hO, hS1.F ht⟩) (fun q h => hS1.2.2 q h) dec (hlocks := B.notSynchronized)
      exact K)
  exact K s.heap [] ls hP hO va_S.rf (by rw [← hml] at hl; exact hl)
end GW1
section GTRY
variable {x : GX} {cc : ByteArray} {nL d pc : Nat} {own : String} {M : GM} {lv : List (Nat × Value)} {st : List Value}
theorem g_tryV (X : GC x cc nL own d) {y : MethodName} {bc : ByteArray} {nY d1 n idx g t N k : Nat} {ret : Option FieldType} {As rest st0 : List Value} {M1 : GM} {C : String} {T : u_T} {fs : List Value} {hh : List (Nat × Nat × Nat × Nat)}
    (hM : gMetX (xl x) (xz x) y bc nY ret d1 (.ref (gad (xz x) g) :: As) M k M1) (ht : gT g = t) (h9 : t ≠ 99) (he : gE (xz x) M g = .inr (t, fs)) (hc : vwCl[t]? = some (C, T, N))
    (hlk : Cond.methodLink own idx y ∈ GW) (hin : Cond.instanceMethod y ∈ GW) (hse : Cond.selects C y y ∈ GW) (hini : Cond.initialized C ∈ GW) (hcode : Cond.code y bc nY ret ∈ GW)
    (hy : y.cls = C ∧ y.cls ≠ "java/lang/invoke/MethodHandle" ∧ y.cls ≠ "java/lang/invoke/VarHandle" ∧ (parseMethodDescriptor y.desc).map (fun d => d.parameters.length) = some n) (hn : As.length = n) (hd : d1 + 1 ≤ d) (hnY : nY ≤ 12)
    (hst : st0 = As.reverse ++ .ref (gad (xz x) g) :: rest) (hsum : (rest.map fun v => v.category).sum ≤ 8) (dec : decode cc pc = .ok (.invokevirtual idx, 3))
    (hroom : xcells x + 1 ≤ (xR x).cells ∧ xslots x + 6 ≤ (xR x).slots)
    (htab : (xc x).exceptionTable.toList = tableOf hh) (pre : List ExceptionTableEntry) (en : ExceptionTableEntry) (suf : List ExceptionTableEntry) (hsplit : tableOf hh = pre ++ en :: suf)
    (hpass : ∀ q ∈ pre, covers q pc = false ∨ (q.catchType ≠ 0 ∧ ∃ nm : String, Cond.classLink own q.catchType nm ∈ GW ∧ va_Nc (gEx k) nm (xs x))) (hcov : covers en pc = true) (h0 : en.catchType ≠ 0) (hlink : Cond.classLink own en.catchType (gEx k) ∈ GW) (hcast : Cond.castable (gEx k) (gEx k) ∈ gFaceL)
    (go : ∀ q : Nat, WG (xup x) M1 lv en.handlerPc [.ref q]) : WG x M lv pc st0 := by
  intro H locs ls hP hO hS hl
  subst hst
  have hgood : GoodIn GW (wsV own idx C y (gws y bc nY ret)) := by
    intro w hw
    rcases List.mem_append.mp (show w ∈ ([.methodLink own idx y, .instanceMethod y, .selects C y y, .initialized C] : List Cond) ++ gws y bc nY ret from hw) with h | h
    · have : w ∈ GW := by
        simp only [List.mem_cons, List.not_mem_nil, or_false] at h
        rcases h with rfl | rfl | rfl | rfl
        · exact hlk
        · exact hin
        · exact hse
        · exact hini
      exact ⟨this, gw_good this⟩
    · exact gws_good (fun w h => h) hcode w h
  have hr := vx_runV (p := xp x) (l := xl x) (e := xe x) (R := xR x) (s := xs x) (m := xm x) (args := xargs x) (below := xbelow x) (meth := xmeth x) (c := xc x) (H := H) (locs := locs) (cells := xcells x) (slots := xslots x) (g := F0 (xm x) pc ls (As.reverse ++ .ref (gad (xz x) g) :: rest)) (As := As) (rest := rest) (Ts := GW) ⟨X.1, X.2.1, rfl, X.2.2.2.1, X.2.2.2.2.1⟩ hM (cwV n X.2.2.2.2.1 hgood rfl rfl rfl hy (g_rm X hd hnY)) ⟨gPre.blind _ _ _, g_recv X hP ht h9 he hc, fun U hU hW => ⟨rfl, gPre_call X hP hO hS U hU hW⟩⟩ rfl hn hl.1 rfl (lv_room hsum) dec hroom
  intro T hTh X'
  rcases hr T hTh X' with ⟨v, st₀, t, T', L, h0, X1, hL, e1, e2, hv, hgo⟩ | ⟨q, st₀, t, T', L, E, ce, h01, X1, hL, e1, e2, ⟨rfl, hP1, hO1, hF1⟩, hce, hcv, hcl, hgo⟩
  · exact hv.elim
  · have hS1 : va_S (fun q => gB (xz x) ≤ q) (xs x).heap T'.heap (locs ++ L) := by
      refine ⟨Nat.le_trans hS.1 (by rw [e1, ← h01]; exact hF1.1), fun q h1 h2 => ?_, fun q hq => ?_⟩
      · rw [e1, hF1.2 q (by rw [h01]; exact Nat.lt_of_lt_of_le h1 hS.1) h2, h01]
        exact hS.2.1 q h1 h2
      · rcases List.mem_append.mp hq with h | h
        · exact hS.2.2 q h
        · exact hL q h
    have K := vx_catch (p := xp x) (l := xl x) (e := xe x) (R := xR x) (s := xs x) (m := xm x) (args := xargs x) (below := xbelow x) (meth := xmeth x) (c := xc x) (H := T'.heap) (locs := locs ++ L) (cells := xcells x + 1) (slots := xslots x + 6) (Q := xQ x) (ls := ls) (rest := rest) (pc := pc) (E := gEx k) (ce := ce) (q := q) X.2.2.2.1 pre en suf (htab.trans hsplit)
      (fun z hz => (hpass z hz).imp id (fun h => ⟨h.1, h.2.choose, X.hw h.2.choose_spec.1, h.2.choose_spec.2⟩)) hcov h0 (X.hw hlink) (gFace_use (gFaceL_ok _ hcast) (X.2.2.2.2.2.2.1.2.2.2.2.2.2 _ hcast)) (by rw [e1]; exact hce) hcv hcl
      (go q T'.heap (locs ++ L) ls (by rw [e1]; exact hP1) hO1 hS1 hl)
    obtain ⟨t2, a1, b1⟩ := K T' rfl X1
    exact ⟨t2, hgo.trans a1, b1⟩
theorem g_callW (X : GC x cc nL own d) {y : MethodName} {bc : ByteArray} {nY n idx : Nat} {hh : List (Nat × Nat × Nat × Nat)} {As rest st0 : List Value} {k : Int32} {M1 : GM}
    (hM : gMetW (xl x) (xz x) y bc nY hh As M k M1) (hnc : gNcs (xs x))
    (hlk : Cond.methodLink own idx y ∈ GW) (hsta : Cond.static y ∈ GW) (hini : Cond.initialized y.cls ∈ GW) (hcode : Cond.codeWith y bc nY (some .int) hh ∈ GW)
    (hy : y.cls ≠ "java/lang/invoke/MethodHandle" ∧ y.cls ≠ "java/lang/invoke/VarHandle" ∧ (parseMethodDescriptor y.desc).map (fun d => d.parameters.length) = some n) (hn : As.length = n) (hd : 9 ≤ d) (hnY : nY ≤ 12)
    (hst : st0 = As.reverse ++ rest) (hsum : (rest.map fun v => v.category).sum ≤ 8) (hroom : xcells x + 1 ≤ (xR x).cells ∧ xslots x + 6 ≤ (xR x).slots) (dec : decode cc pc = .ok (.invokestatic idx, 3)) (go : WG (xup x) M1 lv (pc + 3) (.int k :: rest)) : WG x M lv pc st0 := by
  intro H locs ls hP hO hS hl
  subst hst
  have hgood : GoodIn GW (va_wsS own idx y (gwsW y bc nY hh)) := by
    intro w hw
    rcases List.mem_append.mp (show w ∈ ([.methodLink own idx y, .static y, .initialized y.cls] : List Cond) ++ gwsW y bc nY hh from hw) with h | h
    · have : w ∈ GW := by
        simp only [List.mem_cons, List.not_mem_nil, or_false] at h
        rcases h with rfl | rfl | rfl
        · exact hlk
        · exact hsta
        · exact hini
      exact ⟨this, gw_good this⟩
    · rcases List.mem_cons.mp h with h | h
      · rw [h]; exact ⟨hcode, gw_good hcode⟩
      · exact ⟨h, gw_good h⟩
  have hr := vx_runSW (p := xp x) (l := xl x) (e := xe x) (R := xR x) (s := xs x) (m := xm x) (args := xargs x) (below := xbelow x) (meth := xmeth x) (c := xc x) (H := H) (locs := locs) (cells := xcells x) (slots := xslots x) (g := F0 (xm x) pc ls (As.reverse ++ rest)) (As := As) (rest := rest) (Ts := GW) ⟨X.1, X.2.1, rfl, X.2.2.2.1, X.2.2.2.2.1⟩ hM
    (vx_cwSW n X.2.2.2.2.1 hgood rfl rfl rfl hy ⟨Nat.le_trans hd X.2.2.2.2.2.2.2.1, by have := X.2.2.2.2.2.2.2.2.1; show 8 + (nY + 11) + 31 * 8 ≤ _; omega⟩)
    ⟨fun a U g mk h => ⟨(gPre.blind _ _ As a U g mk ⟨h.1, h.2.1⟩).1, (gPre.blind _ _ As a U g mk ⟨h.1, h.2.1⟩).2, gNcs.moved (u := U) (U := U.calling g mk a) (Vm.Alike.refl U.vm) h.2.2⟩, fun U hU hW => ⟨rfl, gPre_call X hP hO hS U hU hW, gNcs.moved hW.alike hnc⟩⟩ rfl hn hl.1 rfl (lv_room hsum) dec hroom
  intro T hT X'
  obtain ⟨v, st₀, t, T', L, h0, X1, hL, e1, e2, ⟨hv, hP1, hO1, hF1⟩, hgo⟩ := hr T hT X'
  cases hv
  have hS1 : va_S (fun q => gB (xz x) ≤ q) (xs x).heap T'.heap (locs ++ L) := by
    refine ⟨Nat.le_trans hS.1 (by rw [e1, ← h0]; exact hF1.1), fun q h1 h2 => ?_, fun q hq => ?_⟩
    · rw [e1, hF1.2 q (by rw [h0]; exact Nat.lt_of_lt_of_le h1 hS.1) h2, h0]
      exact hS.2.1 q h1 h2
    · rcases List.mem_append.mp hq with h | h
      · exact hS.2.2 q h
      · exact hL q h
  obtain ⟨t2, a1, b1⟩ := go T'.heap (locs ++ L) ls (by rw [e1]; exact hP1) hO1 hS1 hl T' rfl X1
  exact ⟨t2, hgo t2 a1, b1⟩
/-- the script: b its address, L9 its length, f its ints -/
def gScr (x : GX) (b L9 : Nat) (f : Nat → Int32) : Prop := va_X b L9 f (xs x) (xs x).heap ∧ b < (xs x).heap.size ∧ ¬ gB (xz x) ≤ b
theorem g_sld (X : GC x cc nL own d) {b L9 : Nat} {f : Nat → Int32} (hs : gScr x b L9 f) {i : Int32} (hi : gIn i L9 = true) (dec : decode cc pc = .ok (.iaload, 1)) (go : WG x M lv (pc + 1) (.int (f i.toNatClampNeg) :: st)) : WG x M lv pc (.int i :: .ref b :: st) :=
  fun H locs ls hP hO hS hl => va_sld X.1 X.2.1 hs.1 hs.2.1 hs.2.2 hS (gIn_in hi) dec (go H locs ls hP hO hS hl)
theorem g_slen (X : GC x cc nL own d) {b L9 : Nat} {f : Nat → Int32} (hs : gScr x b L9 f) (dec : decode cc pc = .ok (.arraylength, 1)) (go : WG x M lv (pc + 1) (.int (Int32.ofNat L9) :: st)) : WG x M lv pc (.ref b :: st) :=
  fun H locs ls hP hO hS hl => va_slen X.1 X.2.1 hs.1 hs.2.1 hs.2.2 hS dec (go H locs ls hP hO hS hl)
end GTRY
