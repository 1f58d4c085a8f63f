/-! CONTRACTS, CALLS, THROWS -/
section GM1
variable {l : Launch} {z : GZ} {y : MethodName} {cc : ByteArray} {nL d : Nat} {As : List Value} {M M1 : GM}
theorem gOfW {y : MethodName} {ws ws' : List Cond} {rm : Room} {Pc : Array Value → State → Prop} {Qc : Array Value → State → Outcome → State → Prop} {mc ms : Nat} {free : Addr → Prop} {maxL : Nat} {ret : Option FieldType}
    (hy : plainFor y = true) (hw : ws = Cond.code y cc maxL ret :: ws')
    (body : ∀ p e s m args below meth c s₁, BodyLoose p l y (headSpec ws rm) cc maxL ret e s m args below meth c s₁ → c.maxLocals = maxL → Pc args s →
      W p l e (headSpec ws rm).room s m args below meth c s.heap [] 0 0 (MQ below Qc args s mc ms free) (entryFrame m args maxL)) : Met l y ws rm Pc Qc mc ms free := by
  refine MetFree.of_bodySF (code := cc) (maxLocals := maxL) (ret := ret) hy ?_ ?_
  · intro args s m h hn
    obtain ⟨meth, c, h1, h2, h3, h4, h5, h6, -, -⟩ := Cond.code_spec hn (atoms_spec (ws := ws) h _ (by rw [hw]; exact List.mem_cons_self))
    exact ⟨meth, c, h1, h2, h3, h4, h5, h6⟩
  · intro p e s m args below meth c s₁ B hml hP _
    obtain ⟨t, a1, o, b1, b2, b3⟩ := body p e s m args below meth c s₁ B hml hP s₁ (by rw [B.state]; rfl) (Stand.of_body B)
    exact ⟨t, o, a1, b1, b2, ⟨b3.1, b3.2⟩⟩
theorem gMet_of {ret : Option FieldType} {r : Option Value} (hy : plainFor y = true) (hn : (lg_sl As).length ≤ nL) (htr : l.stackTraces = false)
    (body : ∀ x : GX, GC x cc nL y.cls d → xz x = z → xl x = l → (∀ lv pc st, (∀ (H : Heap) (locs : List Loc) (ls : Array Slot), va_P (gD (xz x)) vwCl (gW (xz x) M1) H → gOK M1 → va_S (fun q => gB (xz x) ≤ q) (xs x).heap H locs → lv_has ls (xc x).maxLocals lv → (xmeth x).sig.returnType = ret → (∀ t : State, t.heap = H → gPost z M1 (xs x) t) → W (xp x) (xl x) (xe x) (xR x) (xs x) (xm x) (xargs x) (xbelow x) (xmeth x) (xc x) H locs 0 0 (MQ (xbelow x) (fun _ st o t => o = .returned r ∧ gPost z M1 st t) (xargs x) (xs x) 0 0 (fun q => gB z ≤ q)) (F0 (xm x) pc ls st)) → WG x M1 lv pc st) → WG x M (lv_args 0 As) 0 []) : gMet l z y cc nL ret d As M r M1 := by
  refine gOfW (cc := cc) (maxL := nL) (ret := ret) hy rfl ?_
  intro p e s m args below meth c s₁ B hml hv
  obtain ⟨rfl, hP, hO, hKK⟩ := hv
  have hts := atoms_spec (ws := gws y cc nL ret) B.pre
  have hl := lv_entry As (n := nL) hn
  rw [lg_entry_eq]
  generalize (lg_sl As ++ List.replicate (nL - (lg_sl As).length) Slot.unset).toArray = ls at hl ⊢
  have K := body (p, l, e, (headSpec (gws y cc nL ret) { frames := d, cells := 0, slots := 0, locals := 31 * d }).room, s, m, As.toArray, below, meth, c, MQ below (fun _ st o t => o = .returned r ∧ gPost z M1 st t) As.toArray s 0 0 (fun q => gB z ≤ q), 0, 0, z)
    ⟨B.exec, B.bytes, hml, findClass_of_methodNamed B.named, fun w hw => hts w (List.mem_cons_of_mem _ hw), B.notSynchronized, hKK, Nat.le_refl _, Nat.le_refl _, Nat.le_refl _, Nat.le_refl _, htr⟩ rfl rfl
    (fun lv pc st K H locs ls hP hO hS hl => K H locs ls hP hO hS hl B.returns (fun t ht => ⟨by rw [ht]; exact hP, hO, hS.F ht⟩))
  exact K s.heap [] ls hP hO va_S.rf (by rw [← hml] at hl; exact hl)
theorem gMet_ofI {ty : FieldType} {v : Int32} (hy : plainFor y = true) (hn : (lg_sl As).length ≤ nL) (htr : l.stackTraces = false) (hv : narrow ty (.int v) = .int v)
    (body : ∀ x : GX, GC x cc nL y.cls d → xz x = z → xl x = l → (∀ lv pc, decode cc pc = .ok (.ireturn, 1) → WG x M1 lv pc [.int v]) → WG x M (lv_args 0 As) 0 []) : gMet l z y cc nL (some ty) d As M (some (.int v)) M1 :=
  gMet_of hy hn htr (fun x X ez el hR => body x X ez el (fun lv pc dec => hR lv pc _ (fun H locs ls hP hO hS hl hr hq => W.zret X.1 X.2.1 hr hv (fun t ht _ => ⟨rfl, hq t ht⟩) (fun q h => by rw [← ez]; exact hS.2.2 q h) dec (hlocks := X.2.2.2.2.2.1))))
theorem gMet_ofL {v : Int64} (hy : plainFor y = true) (hn : (lg_sl As).length ≤ nL) (htr : l.stackTraces = false)
    (body : ∀ x : GX, GC x cc nL y.cls d → xz x = z → xl x = l → (∀ lv pc, decode cc pc = .ok (.lreturn, 1) → WG x M1 lv pc [.long v]) → WG x M (lv_args 0 As) 0 []) : gMet l z y cc nL (some .long) d As M (some (.long v)) M1 :=
  gMet_of hy hn htr (fun x X ez el hR => body x X ez el (fun lv pc dec => hR lv pc _ (fun H locs ls hP hO hS hl hr hq => W.lret X.1 X.2.1 hr (fun t ht _ => ⟨rfl, hq t ht⟩) (fun q h => by rw [← ez]; exact hS.2.2 q h) dec (hlocks := X.2.2.2.2.2.1))))
theorem gMet_ofD {v : UInt64} (hy : plainFor y = true) (hn : (lg_sl As).length ≤ nL) (htr : l.stackTraces = false)
    (body : ∀ x : GX, GC x cc nL y.cls d → xz x = z → xl x = l → (∀ lv pc, decode cc pc = .ok (.dreturn, 1) → WG x M1 lv pc [.double v]) → WG x M (lv_args 0 As) 0 []) : gMet l z y cc nL (some .double) d As M (some (.double v)) M1 :=
  gMet_of hy hn htr (fun x X ez el hR => body x X ez el (fun lv pc dec => hR lv pc _ (fun H locs ls hP hO hS hl hr hq => W.dret X.1 X.2.1 hr (fun t ht _ => ⟨rfl, hq t ht⟩) (fun q h => by rw [← ez]; exact hS.2.2 q h) dec (hlocks := X.2.2.2.2.2.1))))
theorem gMet_ofV (hy : plainFor y = true) (hn : (lg_sl As).length ≤ nL) (htr : l.stackTraces = false)
    (body : ∀ x : GX, GC x cc nL y.cls d → xz x = z → xl x = l → (∀ lv pc, decode cc pc = .ok (.return_, 1) → WG x M1 lv pc []) → WG x M (lv_args 0 As) 0 []) : gMet l z y cc nL none d As M none M1 :=
  gMet_of hy hn htr (fun x X ez el hR => body x X ez el (fun lv pc dec => hR lv pc _ (fun H locs ls hP hO hS hl hr hq => W.vret X.1 X.2.1 hr (fun t ht _ => ⟨rfl, hq t ht⟩) (fun q h => by rw [← ez]; exact hS.2.2 q h) dec (hlocks := X.2.2.2.2.2.1))))
/-- the class n may be thrown from here, with the memory M1 -/
def GThr (x : GX) (n : Nat) (M1 : GM) : Prop := ∃ (Qc : Array Value → State → Outcome → State → Prop) (XC : String → State → State → Prop) (mc ms : Nat), xQ x = vx_MQ (xbelow x) Qc XC (xargs x) (xs x) mc ms (fun q => gB (xz x) ≤ q) ∧ xcells x + 1 ≤ mc ∧ xslots x + 6 ≤ ms ∧ xcells x + 1 ≤ (xR x).cells ∧ xslots x + 6 ≤ (xR x).slots ∧ (∀ en ∈ (xc x).exceptionTable.toList, False) ∧ ∀ t : State, gPost (xz x) M1 (xs x) t → XC (gEx n) (xs x) t
theorem gMetX_of {ret : Option FieldType} {n : Nat} (hy : plainName y.cls = true) (hn : (lg_sl As).length ≤ nL) (htr : l.stackTraces = false)
    (body : ∀ x : GX, GC x cc nL y.cls d → xz x = z → xl x = l → GThr x n M1 → WG x M (lv_args 0 As) 0 []) : gMetX l z y cc nL ret d As M n M1 := by
  refine vx_ofW (cc := cc) (maxL := nL) (ret := ret) hy rfl ?_
  intro p e s m args below meth c s₁ B hml hnx hv
  obtain ⟨rfl, hP, hO, hKK⟩ := hv
  have hts := atoms_spec (ws := gws y cc nL ret) B.pre
  have hl := lv_entry As (n := nL) hn
  rw [lg_entry_eq]
  generalize (lg_sl As ++ List.replicate (nL - (lg_sl As).length) Slot.unset).toArray = ls at hl ⊢
  have K := body (p, l, e, (headSpec (gws y cc nL ret) { frames := d, cells := 1, slots := 6, locals := 31 * d }).room, s, m, As.toArray, below, meth, c, vx_MQ below (fun _ _ _ _ => False) (fun E st t => E = gEx n ∧ gPost z M1 st t) As.toArray s 1 6 (fun q => gB z ≤ q), 0, 0, z)
    ⟨B.exec, B.bytes, hml, findClass_of_methodNamed B.named, fun w hw => hts w (List.mem_cons_of_mem _ hw), B.notSynchronized, hKK, Nat.le_refl _, Nat.le_refl _, Nat.zero_le _, Nat.zero_le _, htr⟩ rfl rfl
    ⟨_, _, 1, 6, rfl, Nat.le_refl _, Nat.le_refl _, Nat.le_refl _, Nat.le_refl _, hnx, fun t ht => ⟨rfl, ht⟩⟩
  exact K s.heap [] ls hP hO va_S.rf (by rw [← hml] at hl; exact hl)
end GM1
section GCALL
variable {x : GX} {cc : ByteArray} {nL d pc : Nat} {own : String} {M : GM} {lv : List (Nat × Value)} {st : List Value}
theorem g_go {As rest st0 : List Value} {r : Option Value} {M1 : GM} {a : Array Value} {H : Heap} {locs : List Loc} {ls : Array Slot}
    (hr : va_Run (xp x) (xl x) (xe x) (xR x) (xs x) (xm x) (xargs x) (xbelow x) (xmeth x) (xc x) H locs (xcells x) (xslots x) 0 0 (F0 (xm x) pc ls st0) rest ((fun (_ : Array Value) (st : State) (o : Outcome) (t : State) => o = .returned r ∧ gPost (xz x) M1 st t) a) (fun q => gB (xz x) ≤ q))
    (hS : va_S (fun q => gB (xz x) ≤ q) (xs x).heap H locs) (hl : lv_has ls (xc x).maxLocals lv) (go : WG x M1 lv (pc + 3) (r.toList ++ rest)) : W (xp x) (xl x) (xe x) (xR x) (xs x) (xm x) (xargs x) (xbelow x) (xmeth x) (xc x) H locs (xcells x) (xslots x) (xQ x) (F0 (xm x) pc ls st0) := by
  intro T hT X'
  obtain ⟨v, st₀, t, T', L, h0, X1, hL, e1, e2, ⟨hv, hP1, hO1, hF1⟩, hgo⟩ := hr T hT X'
  cases hv
  have hS1 : va_S (fun q => gB (xz x) ≤ q) (xs x).heap T'.heap (locs ++ L) := by
    refine ⟨Nat.le_trans hS.1 (by rw [e1, ← h0]; exact hF1.1), fun q h1 h2 => ?_, fun q hq => ?_⟩
    · rw [e1, hF1.2 q (by rw [h0]; exact Nat.lt_of_lt_of_le h1 hS.1) h2, h0]
      exact hS.2.1 q h1 h2
    · rcases List.mem_append.mp hq with h | h
      · exact hS.2.2 q h
      · exact hL q h
  obtain ⟨t2, a1, b1⟩ := go T'.heap (locs ++ L) ls (by rw [e1]; exact hP1) hO1 hS1 hl T' rfl X1
  exact ⟨t2, hgo t2 a1, b1⟩
theorem gPre_call {H : Heap} {locs : List Loc} (X : GC x cc nL own d) (hP : va_P (gD (xz x)) vwCl (gW (xz x) M) H) (hO : gOK M) (hS : va_S (fun q => gB (xz x) ≤ q) (xs x).heap H locs) (U : State) (hU : U.heap = H) (hW : (xs x).WarmedH U.vm) : gPre (xz x) M U :=
  ⟨by rw [hU]; exact hP, hO, X.2.2.2.2.2.2.1.to hW (fun q h1 h2 => by rw [hU]; exact hS.2.1 q h1 h2)⟩
theorem g_recv {H : Heap} (X : GC x cc nL own d) (hP : va_P (gD (xz x)) vwCl (gW (xz x) M) H) {g t N : Nat} {C : String} {T : u_T} {fs : List Value} (ht : gT g = t) (h9 : t < 30) (he : gE (xz x) M g = .inr (t, fs)) (hc : vwCl[t]? = some (C, T, N)) : ∃ cellB : Cell, H[gad (xz x) g]? = some cellB ∧ cellB.vm.isStatics = false ∧ (xs x).vm.findClass C = some cellB.cls :=
  va_recv (q := (C, T, N)) X.hK hP hc (gW_at ht h9 he)
/-- room for a callee of depth d1 -/
theorem g_rm (X : GC x cc nL own d) {d1 nY : Nat} (hd : d1 + 1 ≤ d) (hn : nY ≤ 12) : d1 + 1 ≤ (xR x).frames ∧ 8 + (nY + 11) + 31 * d1 ≤ (xR x).locals :=
  ⟨Nat.le_trans hd X.2.2.2.2.2.2.2.1, by have := X.2.2.2.2.2.2.2.2.1; omega⟩
theorem g_callV (X : GC x cc nL own d) {y : MethodName} {bc : ByteArray} {nY d1 n idx g t N : Nat} {ret : Option FieldType} {As rest st0 : List Value} {r : Option Value} {M1 : GM} {C : String} {T : u_T} {fs : List Value}
    (hM : gMet (xl x) (xz x) y bc nY ret d1 (.ref (gad (xz x) g) :: As) M r M1) (ht : gT g = t) (h9 : t < 30) (he : gE (xz x) M g = .inr (t, fs)) (hc : vwCl[t]? = some (C, T, N))
    (hlk : Cond.methodLink own idx y ∈ GW) (hin : Cond.instanceMethod y ∈ GW) (hse : Cond.selects C y y ∈ GW) (hini : Cond.initialized C ∈ GW) (hcode : Cond.code y bc nY ret ∈ GW)
    (hy : y.cls = C ∧ y.cls ≠ "java/lang/invoke/MethodHandle" ∧ y.cls ≠ "java/lang/invoke/VarHandle" ∧ (parseMethodDescriptor y.desc).map (fun d => d.parameters.length) = some n) (hn : As.length = n) (hd : d1 + 1 ≤ d) (hnY : nY ≤ 12)
    (hst : st0 = As.reverse ++ .ref (gad (xz x) g) :: rest) (hsum : (rest.map fun v => v.category).sum ≤ 8) (dec : decode cc pc = .ok (.invokevirtual idx, 3)) (go : WG x M1 lv (pc + 3) (r.toList ++ rest)) : WG x M lv pc st0 := by
  intro H locs ls hP hO hS hl
  subst hst
  refine g_go (As := As) (a := (.ref (gad (xz x) g) :: As).toArray) (va_runV (As := As) (rest := rest) (Ts := GW) ⟨X.1, X.2.1, rfl, X.2.2.2.1, X.2.2.2.2.1⟩ hM (cwV n X.2.2.2.2.1 ?_ rfl rfl rfl hy (g_rm X hd hnY)) ⟨gPre.blind _ _ _, g_recv X hP ht h9 he hc, fun U hU hW => ⟨rfl, gPre_call X hP hO hS U hU hW⟩⟩ rfl hn hl.1 rfl (lv_room hsum) dec ⟨X.2.2.2.2.2.2.2.2.2.1, X.2.2.2.2.2.2.2.2.2.2.1⟩) hS hl go
  intro w hw
  rcases List.mem_append.mp (show w ∈ ([.methodLink own idx y, .instanceMethod y, .selects C y y, .initialized C] : List Cond) ++ gws y bc nY ret from hw) with h | h
  · have : w ∈ GW := by
      simp only [List.mem_cons, List.not_mem_nil, or_false] at h
      rcases h with rfl | rfl | rfl | rfl
      · exact hlk
      · exact hin
      · exact hse
      · exact hini
    exact ⟨this, gw_good this⟩
  · exact gws_good (fun w h => h) hcode w h
theorem g_callS (X : GC x cc nL own d) {y : MethodName} {bc : ByteArray} {nY d1 n idx : Nat} {ret : Option FieldType} {As rest st0 : List Value} {r : Option Value} {M1 : GM}
    (hM : gMet (xl x) (xz x) y bc nY ret d1 As M r M1)
    (hlk : Cond.methodLink own idx y ∈ GW) (hsta : Cond.static y ∈ GW) (hini : Cond.initialized y.cls ∈ GW) (hcode : Cond.code y bc nY ret ∈ GW)
    (hy : y.cls ≠ "java/lang/invoke/MethodHandle" ∧ y.cls ≠ "java/lang/invoke/VarHandle" ∧ (parseMethodDescriptor y.desc).map (fun d => d.parameters.length) = some n) (hn : As.length = n) (hd : d1 + 1 ≤ d) (hnY : nY ≤ 12)
    (hst : st0 = As.reverse ++ rest) (hsum : (rest.map fun v => v.category).sum ≤ 8) (dec : decode cc pc = .ok (.invokestatic idx, 3)) (go : WG x M1 lv (pc + 3) (r.toList ++ rest)) : WG x M lv pc st0 := by
  intro H locs ls hP hO hS hl
  subst hst
  exact g_go (As := As) (a := As.toArray) (va_runS (As := As) (rest := rest) (Ts := GW) ⟨X.1, X.2.1, rfl, X.2.2.2.1, X.2.2.2.2.1⟩ hM ⟨callB_of n X.2.2.2.2.1 (gws_good (fun w h => h) hcode) rfl rfl rfl (X.hw hini) (X.hw hlk) hy (g_rm X hd hnY), X.hw hsta⟩ ⟨gPre.blind _ _ _, fun U hU hW => ⟨rfl, gPre_call X hP hO hS U hU hW⟩⟩ rfl hn hl.1 rfl (lv_room hsum) dec ⟨X.2.2.2.2.2.2.2.2.2.1, X.2.2.2.2.2.2.2.2.2.2.1⟩) hS hl go
theorem g_callSN (X : GC x cc nL own d) {y : MethodName} {bc : ByteArray} {nY d1 n idx : Nat} {ret : Option FieldType} {As rest st0 : List Value} {r : Option Value} {M1 : GM} {host : String}
    (hM : gMet (xl x) (xz x) y bc nY ret d1 As M r M1)
    (hlk : gNest (xs x) → va_Nw (.methodLinkNest own idx y host) (xs x)) (hsta : Cond.static y ∈ GW) (hini : Cond.initialized y.cls ∈ GW) (hcode : Cond.code y bc nY ret ∈ GW)
    (hy : y.cls ≠ "java/lang/invoke/MethodHandle" ∧ y.cls ≠ "java/lang/invoke/VarHandle" ∧ (parseMethodDescriptor y.desc).map (fun d => d.parameters.length) = some n) (hn : As.length = n) (hd : d1 + 1 ≤ d) (hnY : nY ≤ 12)
    (hst : st0 = As.reverse ++ rest) (hsum : (rest.map fun v => v.category).sum ≤ 8) (dec : decode cc pc = .ok (.invokestatic idx, 3)) (go : WG x M1 lv (pc + 3) (r.toList ++ rest)) : WG x M lv pc st0 := by
  intro H locs ls hP hO hS hl
  subst hst
  exact g_go (As := As) (a := As.toArray) (va_runSN (As := As) (rest := rest) (Ts := GW) ⟨X.1, X.2.1, rfl, X.2.2.2.1, X.2.2.2.2.1⟩ hM ⟨va_cnB n X.2.2.2.2.1 (gws_good (fun w h => h) hcode) rfl rfl rfl (hlk X.2.2.2.2.2.2.1.2.1) (X.hw hini) hy (g_rm X hd hnY), X.hw hsta, trivial⟩ ⟨gPre.blind _ _ _, fun U hU hW => ⟨rfl, gPre_call X hP hO hS U hU hW⟩⟩ rfl hn hl.1 rfl (lv_room hsum) dec ⟨X.2.2.2.2.2.2.2.2.2.1, X.2.2.2.2.2.2.2.2.2.2.1⟩) hS hl go
theorem g_xgo {rest st0 : List Value} {n : Nat} {M1 : GM} {H : Heap} {locs : List Loc} {ls : Array Slot} (X : GC x cc nL own d)
    (hr : vx_Run (xp x) (xl x) (xe x) (xR x) (xs x) (xm x) (xargs x) (xbelow x) (xmeth x) (xc x) H locs (xcells x) (xslots x) 1 6 (F0 (xm x) pc ls st0) rest (fun _ _ _ => False) (fun E st t => E = gEx n ∧ gPost (xz x) M1 st t) (fun q => gB (xz x) ≤ q))
    (hS : va_S (fun q => gB (xz x) ≤ q) (xs x).heap H locs) (hT : GThr x n M1) : W (xp x) (xl x) (xe x) (xR x) (xs x) (xm x) (xargs x) (xbelow x) (xmeth x) (xc x) H locs (xcells x) (xslots x) (xQ x) (F0 (xm x) pc ls st0) := by
  intro T hTh X'
  obtain ⟨Qc, XC, mc, ms, hQ, hc1, hs1, -, -, hno, hxc⟩ := hT
  rcases hr T hTh X' with ⟨v, st₀, t, T', L, h0, X1, hL, e1, e2, hv, hgo⟩ | ⟨q, st₀, t, T', L, E, ce, h0, X1, hL, e1, e2, ⟨rfl, hP1, hO1, hF1⟩, hce, hcv, hcl, hgo⟩
  · exact hv.elim
  · have hS1 : va_S (fun q => gB (xz x) ≤ q) (xs x).heap T'.heap (locs ++ L) := by
      refine ⟨Nat.le_trans hS.1 (by rw [e1, ← h0]; exact hF1.1), fun q h1 h2 => ?_, fun q hq => ?_⟩
      · rw [e1, hF1.2 q (by rw [h0]; exact Nat.lt_of_lt_of_le h1 hS.1) h2, h0]
        exact hS.2.1 q h1 h2
      · rcases List.mem_append.mp hq with h | h
        · exact hS.2.2 q h
        · exact hL q h
    have K := vx_out (p := xp x) (l := xl x) (e := xe x) (R := xR x) (s := xs x) (m := xm x) (args := xargs x) (below := xbelow x) (meth := xmeth x) (c := xc x) (H := T'.heap) (locs := locs ++ L) (cells := xcells x + 1) (slots := xslots x + 6) (free := fun q => gB (xz x) ≤ q) (ls := ls) (rest := rest) (Qc := Qc) (XC := XC) (pc := pc) (E := gEx n) (ce := ce) (q := q) (mc := mc) (ms := ms)
      (fun en hen => (hno en hen).elim) X.2.2.2.2.2.1 (by rw [e1]; exact hce) hcv hcl (fun t1 ht1 _ => hxc t1 ⟨by rw [ht1, e1]; exact hP1, hO1, hS1.F ht1⟩) (fun q hq => hS1.2.2 q hq) hc1 hs1
    obtain ⟨t2, a1, b1⟩ := K T' rfl X1
    rw [hQ]
    exact ⟨t2, hgo.trans a1, b1⟩
theorem g_rx (hT : ∃ n M1, GThr x n M1) : xcells x + 1 ≤ (xR x).cells ∧ xslots x + 6 ≤ (xR x).slots := by
  obtain ⟨n, M1, Qc, XC, mc, ms, -, -, -, h1, h2, -⟩ := hT
  exact ⟨h1, h2⟩
theorem g_xV (X : GC x cc nL own d) {y : MethodName} {bc : ByteArray} {nY d1 n idx g t N k : Nat} {ret : Option FieldType} {As rest st0 : List Value} {M1 : GM} {C : String} {T : u_T} {fs : List Value}
    (hM : gMetX (xl x) (xz x) y bc nY ret d1 (.ref (gad (xz x) g) :: As) M k M1) (ht : gT g = t) (h9 : t < 30) (he : gE (xz x) M g = .inr (t, fs)) (hc : vwCl[t]? = some (C, T, N))
    (hlk : Cond.methodLink own idx y ∈ GW) (hin : Cond.instanceMethod y ∈ GW) (hse : Cond.selects C y y ∈ GW) (hini : Cond.initialized C ∈ GW) (hcode : Cond.code y bc nY ret ∈ GW)
    (hy : y.cls = C ∧ y.cls ≠ "java/lang/invoke/MethodHandle" ∧ y.cls ≠ "java/lang/invoke/VarHandle" ∧ (parseMethodDescriptor y.desc).map (fun d => d.parameters.length) = some n) (hn : As.length = n) (hd : d1 + 1 ≤ d) (hnY : nY ≤ 12)
    (hst : st0 = As.reverse ++ .ref (gad (xz x) g) :: rest) (hsum : (rest.map fun v => v.category).sum ≤ 8) (dec : decode cc pc = .ok (.invokevirtual idx, 3)) (hT : GThr x k M1) : WG x M lv pc st0 := by
  intro H locs ls hP hO hS hl
  subst hst
  refine g_xgo X (vx_runV (As := As) (rest := rest) (Ts := GW) ⟨X.1, X.2.1, rfl, X.2.2.2.1, X.2.2.2.2.1⟩ hM (cwV n X.2.2.2.2.1 ?_ rfl rfl rfl hy (g_rm X hd hnY)) ⟨gPre.blind _ _ _, g_recv X hP ht h9 he hc, fun U hU hW => ⟨rfl, gPre_call X hP hO hS U hU hW⟩⟩ rfl hn hl.1 rfl (lv_room hsum) dec (g_rx ⟨_, _, hT⟩)) hS hT
  intro w hw
  rcases List.mem_append.mp (show w ∈ ([.methodLink own idx y, .instanceMethod y, .selects C y y, .initialized C] : List Cond) ++ gws y bc nY ret from hw) with h | h
  · have : w ∈ GW := by
      simp only [List.mem_cons, List.not_mem_nil, or_false] at h
      rcases h with rfl | rfl | rfl | rfl
      · exact hlk
      · exact hin
      · exact hse
      · exact hini
    exact ⟨this, gw_good this⟩
  · exact gws_good (fun w h => h) hcode w h
theorem g_xS (X : GC x cc nL own d) {y : MethodName} {bc : ByteArray} {nY d1 n idx k : Nat} {ret : Option FieldType} {As rest st0 : List Value} {M1 : GM}
    (hM : gMetX (xl x) (xz x) y bc nY ret d1 As M k M1)
    (hlk : Cond.methodLink own idx y ∈ GW) (hsta : Cond.static y ∈ GW) (hini : Cond.initialized y.cls ∈ GW) (hcode : Cond.code y bc nY ret ∈ GW)
    (hy : y.cls ≠ "java/lang/invoke/MethodHandle" ∧ y.cls ≠ "java/lang/invoke/VarHandle" ∧ (parseMethodDescriptor y.desc).map (fun d => d.parameters.length) = some n) (hn : As.length = n) (hd : d1 + 1 ≤ d) (hnY : nY ≤ 12)
    (hst : st0 = As.reverse ++ rest) (hsum : (rest.map fun v => v.category).sum ≤ 8) (dec : decode cc pc = .ok (.invokestatic idx, 3)) (hT : GThr x k M1) : WG x M lv pc st0 := by
  intro H locs ls hP hO hS hl
  subst hst
  exact g_xgo X (vx_runS (As := As) (rest := rest) (Ts := GW) ⟨X.1, X.2.1, rfl, X.2.2.2.1, X.2.2.2.2.1⟩ hM ⟨callB_of n X.2.2.2.2.1 (gws_good (fun w h => h) hcode) rfl rfl rfl (X.hw hini) (X.hw hlk) hy (g_rm X hd hnY), X.hw hsta⟩ ⟨gPre.blind _ _ _, fun U hU hW => ⟨rfl, gPre_call X hP hO hS U hU hW⟩⟩ rfl hn hl.1 rfl (lv_room hsum) dec (g_rx ⟨_, _, hT⟩)) hS hT
/-- 'throw new E("text")' -/
theorem g_thr_hx {H : Heap} {locs : List Loc} (hP : va_P (gD (xz x)) vwCl (gW (xz x) M) H) (hO : gOK M) (hS : va_S (fun q => gB (xz x) ≤ q) (xs x).heap H locs) {XC : String → State → State → Prop} {n : Nat} (hxc : ∀ t : State, gPost (xz x) M (xs x) t → XC (gEx n) (xs x) t) : ∀ t : State, (xs x).vm.Alike t.vm → H.size ≤ t.heap.size → (∀ q : Nat, q < H.size → t.heap[q]? = H[q]?) → XC (gEx n) (xs x) t :=
  fun t _ hz hk => hxc t ⟨hP.kept (fun k q hq => hk q.1 ((hP k q hq).lt)), hO, Nat.le_trans hS.1 hz, fun q h1 h2 => by rw [hk q (Nat.lt_of_lt_of_le h1 hS.1)]; exact hS.2.1 q h1 h2⟩
theorem g_throw (X : GC x cc nL RX10 d) {ik is ic n : Nat} {text : String} {names : List String} (h6 : 6 ≤ d) (hlen : names.length = 2) (hcls : Bundle.fit (gEx n) = true) (hnames : ∀ n ∈ names, Bundle.fit n = true) (hk : Cond.classLink RX10 ik (gEx n) ∈ GW) (hini : Cond.initialized (gEx n) ∈ GW) (hstr : (is, text) ∈ gStrL)
    (hat : ∀ w ∈ (vx_atS RX10 ic (gEx n) names).filter goodWord, w ∈ GW) (hat2 : ∀ w ∈ (vx_atS RX10 ic (gEx n) names).filter (fun w => !goodWord w), w ∈ gFaceL) (hgood : ∀ w ∈ Cond.classLink RX10 ik (gEx n) :: Cond.initialized (gEx n) :: vx_atS RX10 ic (gEx n) names, vx_ot w = true)
    (hsum : (st.map fun v => v.category).sum ≤ 8)
    (d0 : decode cc pc = .ok (.new ik, 3)) (d3 : decode cc (pc + 3) = .ok (.dup, 1)) (d4 : (decode cc (pc + 4) = .ok (.ldc is, 2) ∧ decode cc (pc + 6) = .ok (.invokespecial ic, 3) ∧ decode cc (pc + 9) = .ok (.athrow, 1)) ∨ (decode cc (pc + 4) = .ok (.ldc_w is, 3) ∧ decode cc (pc + 7) = .ok (.invokespecial ic, 3) ∧ decode cc (pc + 10) = .ok (.athrow, 1))) (hT : GThr x n M) : WG x M lv pc st := by
  intro H locs ls hP hO hS hl
  obtain ⟨Qc, XC, mc, ms, hQ, hc1, hs1, hc2, hs2, hno, hxc⟩ := hT
  obtain ⟨sa, hsa⟩ := X.2.2.2.2.2.2.1.2.2.1 _ hstr
  have hf := X.2.2.2.2.2.2.1.2.2.2.2.2.2
  have hfr := X.2.2.2.2.2.2.2.1
  have hlo := X.2.2.2.2.2.2.2.2.1
  have hat3 : ∀ w ∈ vx_atS RX10 ic (gEx n) names, w.before (xargs x) (xs x) = true := vx_hat (fun w hw => X.hw (hat w hw)) hat2 (fun w hw => gFace_use (gFaceL_ok w hw) (hf w hw))
  rw [hQ]
  rcases d4 with ⟨d4, d6, d9⟩ | ⟨d4, d6, d9⟩
  · exact vx_throwS X.1 X.2.1 X.2.2.2.2.2.2.2.2.2.2.2 (A := fun q => gB (xz x) ≤ q) (names := names) X.2.2.2.1 hcls hnames (X.hw hk) (X.hw hini) hsa hat3 hgood X.2.2.2.2.2.2.1.2.2.2.1 X.2.2.2.2.2.2.1.2.2.2.2.1 hS hl.1 d0 d3 d4 d6 d9 (fun en hen => (hno en hen).elim) (by rw [hlen]; omega) (by rw [hlen]; omega) hc2 hs2 X.2.2.2.2.2.1 (g_thr_hx hP hO hS hxc) (fun q h => hS.2.2 q h) hc1 hs1
  · exact vx_throwSW X.1 X.2.1 X.2.2.2.2.2.2.2.2.2.2.2 (A := fun q => gB (xz x) ≤ q) (names := names) X.2.2.2.1 hcls hnames (X.hw hk) (X.hw hini) hsa hat3 hgood X.2.2.2.2.2.2.1.2.2.2.1 X.2.2.2.2.2.2.1.2.2.2.2.1 hS hl.1 d0 d3 d4 d6 d9 (fun en hen => (hno en hen).elim) (by rw [hlen]; omega) (by rw [hlen]; omega) hc2 hs2 X.2.2.2.2.2.1 (g_thr_hx hP hO hS hxc) (fun q h => hS.2.2 q h) hc1 hs1
end GCALL
