/-! THE MAKING OF THE WORLD -/
/-- cells one behind another from the address a on -/
def dW (a : Nat) : List va_E → va_W
  | [] => []
  | e :: es => (a, e) :: dW (a + 1) es
theorem dW_get (es : List va_E) : ∀ (a k : Nat), (dW a es)[k]? = es[k]?.map (fun e => (a + k, e)) := by
  induction es with
  | nil => intro a k; simp [dW]
  | cons e es ih =>
    intro a k
    cases k with
    | zero => simp [dW]
    | succ k =>
      show (dW (a + 1) es)[k]? = es[k]?.map (fun e => (a + (k + 1), e))
      rw [ih, show a + (k + 1) = a + 1 + k by omega]
theorem dW_set (es : List va_E) : ∀ (a k : Nat) (e : va_E), (dW a es).set k (a + k, e) = dW a (es.set k e) := by
  induction es with
  | nil => intro a k e; simp [dW]
  | cons e0 es ih =>
    intro a k e
    cases k with
    | zero => simp [dW]
    | succ k =>
      show (a, e0) :: (dW (a + 1) es).set k (a + (k + 1), e) = (a, e0) :: dW (a + 1) (es.set k e)
      rw [← ih, show a + (k + 1) = a + 1 + k by omega]
theorem dW_app (es fs : List va_E) : ∀ a : Nat, dW a (es ++ fs) = dW a es ++ dW (a + es.length) fs := by
  induction es with
  | nil => intro a; simp [dW]
  | cons e es ih =>
    intro a
    show (a, e) :: dW (a + 1) (es ++ fs) = (a, e) :: (dW (a + 1) es ++ dW (a + (es.length + 1)) fs)
    rw [ih, show a + (es.length + 1) = a + 1 + es.length by omega]
theorem dW_D (a : Nat) (es : List va_E) : va_D (fun q => a ≤ q) (dW a es) := by
  refine ⟨fun i j p q hi hj he => ?_, fun k q hk => ?_⟩
  · rw [dW_get] at hi hj
    cases h1 : es[i]? with
    | none => rw [h1] at hi; cases hi
    | some e1 =>
      cases h2 : es[j]? with
      | none => rw [h2] at hj; cases hj
      | some e2 =>
        rw [h1] at hi; rw [h2] at hj
        cases hi; cases hj
        have : a + i = a + j := he
        omega
  · rw [dW_get] at hk
    cases h1 : es[k]? with
    | none => rw [h1] at hk; cases hk
    | some e1 => rw [h1] at hk; cases hk; exact Nat.le_add_right _ _
theorem dW_at {a k : Nat} {es : List va_E} {e : va_E} (h : es[k]? = some e) : (dW a es)[k]? = some (a + k, e) := by rw [dW_get, h]; rfl
theorem dg {pre own : List va_E} {p : Nat} (hp : pre.length = p) (i : Nat) {e : va_E} (h : own[i]? = some e) : (pre ++ own)[p + i]? = some e := by
  rw [← hp, List.getElem?_append_right (Nat.le_add_right _ _), Nat.add_sub_cancel_left]; exact h
theorem ds {pre own own2 : List va_E} {p : Nat} (hp : pre.length = p) (i : Nat) {e : va_E} (h : own.set i e = own2) : (pre ++ own).set (p + i) e = pre ++ own2 := by
  rw [← hp, List.set_append_right _ _ (Nat.le_add_right _ _), Nat.add_sub_cancel_left, h]
def dNest (U : State) : Prop := va_Nw (.methodLinkNest RX10 29 yX1_init RX10) U ∧ va_Nw (.methodLinkNest RX10 36 yX8_init RX10) U ∧ va_Nw (.methodLinkNest RX8 11 yX9_init RX10) U ∧ va_Nw (.methodLinkNest RX8 23 yX6_init RX10) U ∧ va_Nw (.methodLinkNest RX6 11 yX0_init RX10) U ∧ va_Nw (.methodLinkNest RX6 20 yX9_init RX10) U ∧ va_Nw (.methodLinkNest RX10 56 yX2_init RX10) U ∧ va_Nw (.methodLinkNest RX10 67 yX0_init RX10) U ∧ va_Nw (.methodLinkNest RX10 75 yX3_init RX10) U ∧ va_Nw (.methodLinkNest RX10 76 yX4_init RX10) U ∧ va_Nw (.methodLinkNest RX10 77 yX5_init RX10) U
theorem dNest.warm {s U : State} (hW : s.WarmedH U.vm) (h : dNest s) : dNest U := by
  obtain ⟨h0, h1, h2, h3, h4, h5, h6, h7, h8, h9, h10⟩ := h
  exact ⟨va_Nw.warmM hW h0, va_Nw.warmM hW h1, va_Nw.warmM hW h2, va_Nw.warmM hW h3, va_Nw.warmM hW h4, va_Nw.warmM hW h5, va_Nw.warmM hW h6, va_Nw.warmM hW h7, va_Nw.warmM hW h8, va_Nw.warmM hW h9, va_Nw.warmM hW h10⟩
theorem dNest.same {s U : State} (hW : s.vm = U.vm) (h : dNest s) : dNest U := by
  obtain ⟨h0, h1, h2, h3, h4, h5, h6, h7, h8, h9, h10⟩ := h
  exact ⟨va_Nw.same rfl hW h0, va_Nw.same rfl hW h1, va_Nw.same rfl hW h2, va_Nw.same rfl hW h3, va_Nw.same rfl hW h4, va_Nw.same rfl hW h5, va_Nw.same rfl hW h6, va_Nw.same rfl hW h7, va_Nw.same rfl hW h8, va_Nw.same rfl hW h9, va_Nw.same rfl hW h10⟩
def dAO2 (ty : FieldType) (U : State) : Prop := (Cond.arrayOver (.array ty)).before #[] U = true
theorem dAO2.moved {ty : FieldType} {u U : State} (hvm : u.vm.Alike U.vm) (h : dAO2 ty u) : dAO2 ty U := by
  unfold dAO2 Cond.before Cond.holds at h ⊢
  simp only [Cond.value] at h ⊢
  rw [hvm.findClass]
  cases h1 : u.vm.findClass (FieldType.array ty).toString with
  | none => rw [h1] at h; exact h
  | some comp =>
    rw [h1] at h
    simp only [Option.bind_some] at h ⊢
    generalize hX : Array.findIdx? _ u.vm.classes = X at h
    generalize hY : Array.findIdx? _ U.vm.classes = Y
    have hb : U.vm.bare = u.vm.bare := by first | exact hvm.bare_eq | exact hvm.bare_eq.symm
    have e1 := va_idx_bare U.vm comp
    rw [hb] at e1
    have e2 : Y = X := hY.symm.trans (e1.symm.trans ((va_idx_bare u.vm comp).trans hX))
    subst e2
    cases Y with
    | none => exact h
    | some c =>
      simp only [Option.bind_some] at h ⊢
      cases h3 : u.vm.classes[c]? with
      | none => rw [h3] at h; simp at h
      | some k =>
        obtain ⟨k', hk', he⟩ := hvm.2.2 _ _ h3
        rw [h3] at h
        rw [hk', hvm.findClass]
        have hkd : k'.kind = k.kind := by rw [he]
        simp only [Option.map_some] at h ⊢
        rw [hkd]
        exact h
def dAO (U : State) : Prop := va_AO RX3 U ∧ va_AO RX4 U ∧ va_AO RX5 U ∧ va_AO RX9 U ∧ va_AO RX6 U ∧ dAO2 .int U ∧ dAO2 .boolean U
theorem dAO.moved {u U : State} (hvm : u.vm.Alike U.vm) (h : dAO u) : dAO U := ⟨va_AO.moved hvm h.1, va_AO.moved hvm h.2.1, va_AO.moved hvm h.2.2.1, va_AO.moved hvm h.2.2.2.1, va_AO.moved hvm h.2.2.2.2.1, dAO2.moved hvm h.2.2.2.2.2.1, dAO2.moved hvm h.2.2.2.2.2.2⟩
def dKK (z : GZ) (U : State) : Prop := gKK z U ∧ dNest U ∧ dAO U ∧ ∀ g, gad z g = gB z + g
theorem dKK.to {z : GZ} {s U : State} (hW : s.WarmedH U.vm) (hh : ∀ q : Nat, q < s.heap.size → ¬ gB z ≤ q → U.heap[q]? = s.heap[q]?) (h : dKK z s) : dKK z U := ⟨h.1.to hW hh, dNest.warm hW h.2.1, dAO.moved hW.alike h.2.2.1, h.2.2.2⟩
def dPre (z : GZ) (es : List va_E) (U : State) : Prop := U.heap.size = gB z + es.length ∧ va_P (gD z) vwCl (dW (gB z) es) U.heap ∧ dKK z U
theorem dPre.blind (z : GZ) (es : List va_E) (As : List Value) : FrameBlind (va_Pc As (dPre z es)) := by
  intro a U g mk h
  obtain ⟨e, h1, h2, h3, h4, h5, h6⟩ := h
  have hb : gPre z (fun _ _ => 0, fun _ _ => 0, fun _ _ => 0) U → True := fun _ => trivial
  obtain ⟨k1, k2, k3, k4, k5, k6, k7⟩ := h3
  have hv : (U.calling g mk a).vm = U.vm := rfl
  refine ⟨e, h1, h2, ⟨va_K.moved (u := U) (U := U.calling g mk a) (Vm.Alike.refl U.vm) k1, gNest.same hv.symm k2, fun q hq => by obtain ⟨sa, w⟩ := k3 q hq; exact ⟨sa, vk_R.same hv w⟩, ?_, ?_, ⟨k6.1, ⟨va_X.moved (u := U) (U := U.calling g mk a) (Vm.Alike.refl U.vm) k6.2.1.1, k6.2.1.2⟩, gRR.moved (u := U) (U := U.calling g mk a) (Vm.Alike.refl U.vm) k6.2.2⟩, fun w hw => gFace_moved (u := U) (U := U.calling g mk a) (gFaceL_ok w hw) (Vm.Alike.refl U.vm) (k7 w hw)⟩, dNest.same hv.symm h4, dAO.moved (u := U) (U := U.calling g mk a) (Vm.Alike.refl U.vm) h5, h6⟩
  · exact vx_Zq.moved (u := U) (U := U.calling g mk a) (Vm.Alike.refl U.vm) k4
  · exact vx_Zq.moved (u := U) (U := U.calling g mk a) (Vm.Alike.refl U.vm) k5
/-- a constructor (or another method without answer): from the cells es to the cells es2, with mc cells of ms slots more -/
def dMet (l : Launch) (z : GZ) (y : MethodName) (cc : ByteArray) (nL d : Nat) (As : List Value) (es es2 : List va_E) (mc ms : Nat) : Prop :=
  Met l y (gws y cc nL none) { frames := d, cells := mc, slots := ms, locals := 31 * d } (va_Pc As (dPre z es)) (fun _ st o t => o = .returned none ∧ t.heap.size = gB z + es2.length ∧ va_P (gD z) vwCl (dW (gB z) es2) t.heap ∧ va_F (fun q => gB z ≤ q) st t) mc ms (fun q => gB z ≤ q)
/-- the fixed facts of such a walk: mc, ms its room -/
def DC (x : GX) (cc : ByteArray) (nL : Nat) (own : String) (d mc ms : Nat) : Prop :=
  (xp x).tables.exec = Jvm.exec ∧ (xc x).code = cc ∧ (xc x).maxLocals = nL ∧ (xs x).vm.findClass own = some (xm x).cls ∧ (∀ w ∈ GW, w.before (xargs x) (xs x) = true) ∧ (xmeth x).locks = false ∧ dKK (xz x) (xs x) ∧ d ≤ (xR x).frames ∧ 31 * d ≤ (xR x).locals ∧ mc ≤ (xR x).cells ∧ ms ≤ (xR x).slots ∧ True
def WD (x : GX) (c s : Nat) (es : List va_E) (lv : List (Nat × Value)) (pc : Nat) (st : List Value) : Prop :=
  ∀ (H : Heap) (locs : List Loc) (ls : Array Slot), H.size = gB (xz x) + es.length → va_P (gD (xz x)) vwCl (dW (gB (xz x)) es) H → va_S (fun q => gB (xz x) ≤ q) (xs x).heap H locs → lv_has ls (xc x).maxLocals lv → W (xp x) (xl x) (xe x) (xR x) (xs x) (xm x) (xargs x) (xbelow x) (xmeth x) (xc x) H locs c s (xQ x) (F0 (xm x) pc ls st)
section DR
variable {x : GX} {cc : ByteArray} {nL d pc c s mc ms : Nat} {own : String} {es : List va_E} {lv : List (Nat × Value)} {st : List Value}
theorem DC.hw (X : DC x cc nL own d mc ms) {w : Cond} (h : w ∈ GW) : w.before (xargs x) (xs x) = true := X.2.2.2.2.1 w h
theorem DC.hK (X : DC x cc nL own d mc ms) : va_K (gD (xz x)) vwCl (gTys (xz x)) (xs x) := X.2.2.2.2.2.2.1.1.1
theorem DC.ad (X : DC x cc nL own d mc ms) (g : Nat) : gad (xz x) g = gB (xz x) + g := X.2.2.2.2.2.2.1.2.2.2 g
theorem d_lv (ks : List Nat) {lv' : List (Nat × Value)} (h : lv_pick lv ks = lv') (go : WD x c s es lv' pc st) : WD x c s es lv pc st := fun H locs ls hz hP hS hl => go H locs ls hz hP hS (lv_sub hl ks h)
theorem d_widen {c2 s2 : Nat} (h1 : c ≤ c2) (h2 : s ≤ s2) (go : WD x c2 s2 es lv pc st) : WD x c s es lv pc st := fun H locs ls hz hP hS hl => W.widen h1 h2 (go H locs ls hz hP hS hl)
theorem d_iconst (X : DC x cc nL own d mc ms) {n : Int} {v : Int32} (dec : decode cc pc = .ok (.iconst n, 1)) (hv : Int32.ofInt n = v) (go : WD x c s es lv (pc + 1) (.int v :: st)) : WD x c s es lv pc (st) := fun H locs ls hz hP hS hl => lv_iconst X.1 X.2.1 dec hv (go H locs ls hz hP hS hl)
theorem d_bipush (X : DC x cc nL own d mc ms) {n : Int} {v : Int32} (dec : decode cc pc = .ok (.bipush n, 2)) (hv : (Int8.ofInt n).toInt32 = v) (go : WD x c s es lv (pc + 2) (.int v :: st)) : WD x c s es lv pc (st) := fun H locs ls hz hP hS hl => lv_bipush X.1 X.2.1 dec hv (go H locs ls hz hP hS hl)
theorem d_sipush (X : DC x cc nL own d mc ms) {n : Int} {v : Int32} (dec : decode cc pc = .ok (.sipush n, 3)) (hv : (Int16.ofInt n).toInt32 = v) (go : WD x c s es lv (pc + 3) (.int v :: st)) : WD x c s es lv pc (st) := fun H locs ls hz hP hS hl => lv_sipush X.1 X.2.1 dec hv (go H locs ls hz hP hS hl)
theorem d_iload_n (X : DC x cc nL own d mc ms) {k : Fin 4} {i j : Nat} {v : Int32} (dec : decode cc pc = .ok (.iload_n k, 1)) (hi : (k : Nat) = i) (hk : lv[j]? = some (i, .int v)) (go : WD x c s es lv (pc + 1) (.int v :: st)) : WD x c s es lv pc (st) := fun H locs ls hz hP hS hl => lv_iload_n X.1 X.2.1 dec hi (lv_at hl j hk) (go H locs ls hz hP hS hl)
theorem d_aload_n (X : DC x cc nL own d mc ms) {k : Fin 4} {i j : Nat} {v : Nat} (dec : decode cc pc = .ok (.aload_n k, 1)) (hi : (k : Nat) = i) (hk : lv[j]? = some (i, .ref v)) (go : WD x c s es lv (pc + 1) (.ref v :: st)) : WD x c s es lv pc (st) := fun H locs ls hz hP hS hl => lv_aload_n X.1 X.2.1 dec hi (lv_at hl j hk) (go H locs ls hz hP hS hl)
theorem d_dup (X : DC x cc nL own d mc ms) {a : Value} (dec : decode cc pc = .ok (.dup, 1)) (h1 : a.category = 1) (go : WD x c s es lv (pc + 1) (a :: a :: st)) : WD x c s es lv pc (a :: st) := fun H locs ls hz hP hS hl => lv_dup X.1 X.2.1 dec h1 (go H locs ls hz hP hS hl)
theorem d_istore_n (X : DC x cc nL own d mc ms) {k : Fin 4} {i : Nat} {v : Int32} {lv' : List (Nat × Value)} (dec : decode cc pc = .ok (.istore_n k, 1)) (hi : (k : Nat) = i) (hn : i < nL) (hf : (i, Value.int v) :: lv.filter (fun q => !(q.1 == i) && !(q.1 + 1 == i && q.2.category == 2)) = lv') (go : WD x c s es lv' (pc + 1) st) : WD x c s es lv pc (.int v :: st) := fun H locs ls hz hP hS hl => lv_istore_n X.1 X.2.1 dec hi hl (by rw [X.2.2.1]; exact hn) hf (fun ls1 hl1 => go H locs ls1 hz hP hS hl1)
theorem d_astore_n (X : DC x cc nL own d mc ms) {k : Fin 4} {i : Nat} {v : Nat} {lv' : List (Nat × Value)} (dec : decode cc pc = .ok (.astore_n k, 1)) (hi : (k : Nat) = i) (hn : i < nL) (hf : (i, Value.ref v) :: lv.filter (fun q => !(q.1 == i) && !(q.1 + 1 == i && q.2.category == 2)) = lv') (go : WD x c s es lv' (pc + 1) st) : WD x c s es lv pc (.ref v :: st) := fun H locs ls hz hP hS hl => lv_astore_n X.1 X.2.1 dec hi hl (by rw [X.2.2.1]; exact hn) hf (fun ls1 hl1 => go H locs ls1 hz hP hS hl1)
theorem d_istore (X : DC x cc nL own d mc ms) {i : Nat} {v : Int32} {lv' : List (Nat × Value)} (dec : decode cc pc = .ok (.istore i, 2)) (hn : i < nL) (hf : (i, Value.int v) :: lv.filter (fun q => !(q.1 == i) && !(q.1 + 1 == i && q.2.category == 2)) = lv') (go : WD x c s es lv' (pc + 2) st) : WD x c s es lv pc (.int v :: st) := fun H locs ls hz hP hS hl => lv_istore X.1 X.2.1 dec hl (by rw [X.2.2.1]; exact hn) hf (fun ls1 hl1 => go H locs ls1 hz hP hS hl1)
theorem d_iinc (X : DC x cc nL own d mc ms) {i j : Nat} {n : Int} {v w : Int32} {lv' : List (Nat × Value)} (dec : decode cc pc = .ok (.iinc i n, 3)) (hk : lv[j]? = some (i, .int v)) (hv : v + Int32.ofInt n = w) (hn : i < nL) (hf : (i, Value.int w) :: lv.filter (fun q => !(q.1 == i) && !(q.1 + 1 == i && q.2.category == 2)) = lv') (go : WD x c s es lv' (pc + 3) st) : WD x c s es lv pc st := fun H locs ls hz hP hS hl => lv_iinc X.1 X.2.1 dec hl hk hv (by rw [X.2.2.1]; exact hn) hf (fun ls1 hl1 => go H locs ls1 hz hP hS hl1)
theorem d_goto (X : DC x cc nL own d mc ms) {off : Int} {tgt : Nat} (dec : decode cc pc = .ok (.goto off, 3)) (ht : (pc : Int) + off = (tgt : Int)) (go : WD x c s es lv tgt st) : WD x c s es lv pc st := fun H locs ls hz hP hS hl => lv_goto X.1 X.2.1 dec ht (go H locs ls hz hP hS hl)
theorem d_icmp_ge (X : DC x cc nL own d mc ms) {a b : Int32} {off : Int} {tgt : Nat} (dec : decode cc pc = .ok (.if_icmp .ge off, 3)) (ht : (pc : Int) + off = (tgt : Int)) (kt : b ≤ a → WD x c s es lv tgt st) (kf : ¬ b ≤ a → WD x c s es lv (pc + 3) st) : WD x c s es lv pc (.int b :: .int a :: st) := fun H locs ls hz hP hS hl => lv_icmp_ge X.1 X.2.1 dec ht (fun h => kt h H locs ls hz hP hS hl) (fun h => kf h H locs ls hz hP hS hl)
theorem d_ldc (X : DC x cc nL own d mc ms) {i : Nat} {v : Int32} (hw : Cond.constant own i v ∈ GW) (dec : decode cc pc = .ok (.ldc i, 2)) (go : WD x c s es lv (pc + 2) (.int v :: st)) : WD x c s es lv pc st := fun H locs ls hz hP hS hl => lv_ldc X.1 X.2.1 X.2.2.2.1 (X.hw hw) dec (go H locs ls hz hP hS hl)
theorem d_es {es2 : List va_E} (h : es = es2) (go : WD x c s es2 lv pc st) : WD x c s es lv pc st := h ▸ go
theorem d_cs {c2 s2 : Nat} (h1 : c = c2) (h2 : s = s2) (go : WD x c2 s2 es lv pc st) : WD x c s es lv pc st := h1 ▸ h2 ▸ go
theorem d_objInit (X : DC x cc nL own d mc ms) {idx a : Nat} (h1 : 1 ≤ d) (hsum : (st.map fun v => v.category).sum ≤ 8) (hlk : Cond.methodLink own idx Lib.objectInit ∈ GW) (hin : Cond.instanceMethod Lib.objectInit ∈ GW) (hco : Cond.code Lib.objectInit ⟨#[0xb1]⟩ 1 none ∈ GW) (dec : decode cc pc = .ok (.invokespecial idx, 3)) (go : WD x c s es lv (pc + 3) st) : WD x c s es lv pc (.ref a :: st) :=
  fun H locs ls hz hP hS hl => W.objInit (g := F0 (xm x) pc ls (.ref a :: st)) X.1 X.2.1 X.2.2.2.1 (X.hw hlk) (X.hw hin) (X.hw hco) rfl hl.1 rfl dec (Nat.le_trans h1 X.2.2.2.2.2.2.2.1) (by have := X.2.2.2.2.2.2.2.2.1; show 2 * 0 + _ + 12 ≤ _; omega) (go H locs ls hz hP hS hl)
theorem d_get (X : DC x cc nL own d mc ms) {g k index N t : Nat} {C : String} {T : u_T} {fs : List Value} {v : Value} (he : es[g]? = some (.inr (t, fs))) (hc : vwCl[t]? = some (C, T, N)) (hin : ∀ w ∈ u_ws C T N, w ∈ GW) (hk : k < N) (hlink : Cond.fieldLink own index C (T k).2.1 (T k).2.2.1 ∈ GW) (hsm : (T k).1 = C) (hv : fs[k]? = some v) (dec : decode cc pc = .ok (.getfield index, 3)) (go : WD x c s es lv (pc + 3) (v :: st)) : WD x c s es lv pc (.ref (gad (xz x) g) :: st) :=
  fun H locs ls hz hP hS hl => va_get X.1 X.2.1 (Ts := GW) X.2.2.2.2.1 hin X.2.2.2.1 X.hK hP g (by rw [X.ad]; exact dW_at he) hc k hk (X.hw hlink) (fun _ h => by rw [← hsm]; exact h) hv dec (go H locs ls hz hP hS hl)
theorem d_keep {H H1 : Heap} {q : Nat} {e2 : va_E} {z : GZ} (hP : va_P (gD z) vwCl (dW (gB z) es) H) (oq : ∀ a : Nat, a ≠ gB z + q → H1[a]? = H[a]?) {e : va_E} (he : es[q]? = some e) (h2 : va_at (gD z) vwCl (gB z + q, e2) H1) : va_P (gD z) vwCl (dW (gB z) (es.set q e2)) H1 := by
  rw [← dW_set]
  exact hP.set (dW_D _ _) (dW_at he) h2 oq
theorem d_put (X : DC x cc nL own d mc ms) {g k index N t : Nat} {C : String} {T : u_T} {ty0 : Nat → FieldType} {fs : List Value} {v : Value} {es2 : List va_E} (he : es[g]? = some (.inr (t, fs))) (hs : es.set g (.inr (t, fs.set k v)) = es2) (hc : vwCl[t]? = some (C, T, N)) (hin : ∀ w ∈ u_ws C T N, w ∈ GW) (hty : ∀ k, k < N → parseFieldDescriptor (T k).2.2.1 = some (ty0 k)) (hnm : ∀ a, a < N → ∀ b, b < N → a ≠ b → (T a).2.1 ≠ (T b).2.1) (hk : k < N) (hlink : Cond.fieldLink own index C (T k).2.1 (T k).2.2.1 ∈ GW) (hsm : (T k).1 = C) (hfin : (T k).2.2.2 = false ∨ ((T k).2.2.2 = true ∧ (xmeth x).name = "<init>" ∧ (T k).1 = own)) {ty : FieldType} (hd : parseFieldDescriptor (T k).2.2.1 = some ty) (hn : narrow ty v = v) (hfit : fits ty v = true) (hl0 : k < fs.length) (dec : decode cc pc = .ok (.putfield index, 3)) (go : WD x c s es2 lv (pc + 3) st) : WD x c s es lv pc (v :: .ref (gad (xz x) g) :: st) := by
  intro H locs ls hz hP hS hl
  subst hs
  have hap := va_apart (s := xs x) (own := own) X.2.2.2.2.1 hin ty0 hty hnm X.hK hc
  obtain ⟨r, h1, cell, q1, q2, q3, q4⟩ := hP g _ (dW_at he)
  have hr : r = (C, T, N) := Option.some.inj (h1.symm.trans hc)
  subst hr
  obtain ⟨hSl, hfc, kC, hkC, hkind⟩ := X.hK.1 t _ hc
  obtain ⟨cf, kf, fi, f, hi, hsl⟩ := hSl k hk
  have hlay := X.2.2.2.2.1 _ (hin _ (u_in_lay hk))
  unfold u_lay at hlay
  have hst := (u_facts hfc hkC (u_lays X.2.2.2.2.1 hin hk) hi).1
  have hlk : (Cond.fieldLink own index C (T k).2.1 (T k).2.2.1).before (xargs x) (xs x) = true := X.hw hlink
  have hi2 : (xs x).fieldFound? C (T k).2.1 (T k).2.2.1 = some (cf, kf, fi, f) := by rw [← hsm]; exact hi
  have done : ∀ H' : Heap, H'[gB (xz x) + g]? = some (cell.setSlot f.slot v) → H'.size = H.size → (∀ q, q ≠ gB (xz x) + g → H'[q]? = H[q]?) → W (xp x) (xl x) (xe x) (xR x) (xs x) (xm x) (xargs x) (xbelow x) (xmeth x) (xc x) H' (locs ++ [⟨gB (xz x) + g, f.slot⟩]) c s (xQ x) (F0 (xm x) (pc + 3) ls st) := by
    intro H' e1 e2 e3
    refine go H' _ ls (by rw [e2, hz]; simp) (d_keep hP e3 he ?_) (hS.put e2 e3 (Nat.le_add_right _ _)) hl
    rw [hsl] at e1
    exact ⟨_, hc, t_OB.to (V := updV (vp_V fs) k v) ⟨_, e1, q2, q3, t_set q4 hap hk v⟩ (fun j _ => vp_updV_set hl0 v j)⟩
  rw [X.ad]
  rcases hfin with hfin | ⟨hfin, hin2, hdecl⟩
  · rw [if_neg (by rw [hfin]; decide)] at hlay
    have h6 := u_store hfc hkC hkind hlay hi hd hn hfit
    exact W.putK X.1 X.2.1 (f := f) ⟨X.2.2.2.1, hlk, ⟨_, _, _, hi2⟩, hst⟩ (by rw [q2]; exact h6) q1 q3 (by rw [hsl]; exact k2_hasslot (q4 k hk)) rfl rfl dec done
  · rw [if_pos hfin] at hlay
    have hcf : (xm x).cls = cf := by
      obtain ⟨_, _, c', _, _, _, -, -, hf', -, -, -, hown2, -⟩ := Cond.laysFinal_spec hlay
      have e1 : c' = cf := by have := hi.symm.trans hf'; simp at this; exact this.1.symm
      rw [hdecl] at hown2
      rw [← e1]; exact Option.some.inj (X.2.2.2.1.symm.trans hown2)
    have h6 := u_fits hfc hkC hkind (Or.inr hlay) hi hd hn hfit
    exact W.putFinK X.1 X.2.1 X.2.2.2.1 hlk hi2 hst hcf hin2 (by rw [q2]; exact h6) q1 q3 (by rw [hsl]; exact k2_hasslot (q4 k hk)) rfl rfl dec done
theorem d_iast (X : DC x cc nL own d mc ms) {g n : Nat} {f f2 : Nat → Int32} {i v : Int32} {es2 : List va_E} (he : es[g]? = some (.inl (gcy (xz x) 20, n, .inl f))) (hi : gIn i n = true) (hf : upd f i.toNatClampNeg v = f2) (hs : es.set g (.inl (gcy (xz x) 20, n, .inl f2)) = es2) (dec : decode cc pc = .ok (.iastore, 1)) (go : WD x c s es2 lv (pc + 1) st) : WD x c s es lv pc (.int v :: .int i :: .ref (gad (xz x) g) :: st) := by
  intro H locs ls hz hP hS hl
  subst hs; subst hf
  rw [X.ad]
  refine W.iast X.1 X.2.1 (hP g _ (dW_at he)) ((X.hK.2 0 _ rfl).1 n (fun j => .int (f j))) (fun q => by cases q) (by show ¬ (i < 0 ∨ (arrV _ _ _).slots.size ≤ _); rw [arrV_size]; exact gIn_in hi) rfl rfl dec fun H1 e z oq => ?_
  refine go H1 _ ls (by rw [z, hz]; simp) (d_keep hP oq he ?_) (hS.put z oq (Nat.le_add_right _ _)) hl
  show H1[gB (xz x) + g]? = some (vp_cell _ _)
  rw [e]
  rw [vp_cell_i, vp_cell_i, arrV_store]
  congr 2
  funext q
  by_cases hq : q = i.toNatClampNeg <;> simp [updV, upd, hq]
theorem d_zast (X : DC x cc nL own d mc ms) {g n : Nat} {f f2 : Nat → Int32} {i v : Int32} {es2 : List va_E} (he : es[g]? = some (.inl (gcy (xz x) 22, n, .inl f))) (hi : gIn i n = true) (hv : v = 0 ∨ v = 1) (hf : upd f i.toNatClampNeg v = f2) (hs : es.set g (.inl (gcy (xz x) 22, n, .inl f2)) = es2) (dec : decode cc pc = .ok (.bastore, 1)) (go : WD x c s es2 lv (pc + 1) st) : WD x c s es lv pc (.int v :: .int i :: .ref (gad (xz x) g) :: st) := by
  intro H locs ls hz hP hS hl
  subst hs; subst hf
  rw [X.ad]
  refine W.zast X.1 X.2.1 (hP g _ (dW_at he)) ((X.hK.2 2 _ rfl).1 n (fun j => .int (f j))) (fun q => by cases q) (by show ¬ (i < 0 ∨ (arrV _ _ _).slots.size ≤ _); rw [arrV_size]; exact gIn_in hi) rfl rfl dec fun H1 e z oq => ?_
  refine go H1 _ ls (by rw [z, hz]; simp) (d_keep hP oq he ?_) (hS.put z oq (Nat.le_add_right _ _)) hl
  show H1[gB (xz x) + g]? = some (vp_cell _ _)
  rw [e]
  rw [vp_cell_i, vp_cell_i, (gT_nar hv).2.1, arrV_store]
  congr 2
  funext q
  by_cases hq : q = i.toNatClampNeg <;> simp [updV, upd, hq]
theorem d_new (X : DC x cc nL own d mc ms) {t index N : Nat} {C : String} {T : u_T} {ty0 : Nat → FieldType} {fs : List Value} {es2 : List va_E} (hc : vwCl[t]? = some (C, T, N)) (hin : ∀ w ∈ u_ws C T N, w ∈ GW) (hty : ∀ k, k < N → parseFieldDescriptor (T k).2.2.1 = some (ty0 k)) (hcl : Cond.classLink own index C ∈ GW) (hinst : Cond.instantiable C N ∈ GW) (hini : Cond.initialized C ∈ GW) (hfs : ∀ j, j < N → defaultValue (ty0 j) = vp_V fs j) (h1 : c + 1 ≤ mc) (h2 : s + N ≤ ms) (hs : es ++ [.inr (t, fs)] = es2) {a : Nat} (ha : es.length = a) (dec : decode cc pc = .ok (.new index, 3)) (go : WD x (c + 1) (s + N) es2 lv (pc + 3) (.ref (gad (xz x) a) :: st)) : WD x c s es lv pc st := by
  intro H locs ls hz hP hS hl
  subst hs; subst ha
  have hKn := X.hK.1 t _ hc
  refine W.newcK X.1 X.2.1 X.2.2.2.1 (X.hw hcl) (X.hw hinst) (X.hw hini) (g := F0 (xm x) pc ls st) rfl dec (Nat.le_trans h1 X.2.2.2.2.2.2.2.2.2.1) (Nat.le_trans h2 X.2.2.2.2.2.2.2.2.2.2.1) hKn.2.1 hz fun H1 kC hkC e1 z1 o1 => ?_
  have K := go H1 locs ls (by rw [z1]; simp; omega) (by
    rw [dW_app]
    refine (hP.kept (fun k q hq => o1 q.1 ?_)).app (fun k q hq => ?_)
    · rw [← hz]; exact (hP k q hq).lt
    · cases k with
      | zero => cases hq; exact ⟨_, hc, (u_born ty0 X.2.2.2.2.1 hin hKn hkC e1 hty).to hfs⟩
      | succ k => simp [dW] at hq) ⟨Nat.le_trans hS.1 (by rw [z1, hz]; omega), fun q h1 h2 => (o1 q (by rw [← hz]; exact Nat.lt_of_lt_of_le h1 hS.1)).trans (hS.2.1 q h1 h2), hS.2.2⟩ hl
  rw [X.ad] at K
  exact K
theorem d_newarr (X : DC x cc nL own d mc ms) {tag : Nat} {atype : ArrayType} {ty : FieldType} (hty : newarray.typeOf atype = ty) (htg : (gTys (xz x))[tag - 20]? = some (gcy (xz x) tag, ty)) (hra : va_RA (xs x) (gcy (xz x) tag) ty → (xs x).vm.findClass ("[" ++ ty.toString) = some (gcy (xz x) tag)) (harr : Cond.arrayClass (newarray.typeOf atype) ∈ GW) {n : Int32} {N : Nat} {a0 : vp_A} (ha0 : vp_cell (gcy (xz x) tag) a0 = arrV (gcy (xz x) tag) N (fun _ => defaultValue ty)) (hn : ¬ n < 0) (hN : n.toNatClampNeg = N) (hbytes : N * componentBytes ty ≤ 536870912) (h1 : c + 1 ≤ mc) (h2 : s + N ≤ ms) {es2 : List va_E} (hs : es ++ [.inl (gcy (xz x) tag, a0)] = es2) {a : Nat} (ha : es.length = a) (dec : decode cc pc = .ok (.newarray atype, 2)) (go : WD x (c + 1) (s + N) es2 lv (pc + 2) (.ref (gad (xz x) a) :: st)) : WD x c s es lv pc (.int n :: st) := by
  intro H locs ls hz hP hS hl
  subst hs; subst ha; subst hty
  refine va_newaK X.1 X.2.1 (X.hw harr) (g := F0 (xm x) pc ls (.int n :: st)) rfl dec rfl hn hN hbytes (Nat.le_trans h1 X.2.2.2.2.2.2.2.2.2.1) (Nat.le_trans h2 X.2.2.2.2.2.2.2.2.2.2.1) hz fun H1 cA e1 z1 o1 hAr hNm => ?_
  have ec : gcy (xz x) tag = cA := Option.some.inj ((hra ((X.hK.2 _ _ htg).2)).symm.trans hNm)
  have K := go H1 locs ls (by rw [z1]; simp; omega) (by
    rw [dW_app]
    refine (hP.kept (fun k q hq => o1 q.1 ?_)).app (fun k q hq => ?_)
    · rw [← hz]; exact (hP k q hq).lt
    · cases k with
      | zero => cases hq; show H1[gB (xz x) + es.length]? = some (vp_cell _ _); rw [ha0, ec]; exact e1
      | succ k => simp [dW] at hq) ⟨Nat.le_trans hS.1 (by rw [z1, hz]; omega), fun q h1 h2 => (o1 q (by rw [← hz]; exact Nat.lt_of_lt_of_le h1 hS.1)).trans (hS.2.1 q h1 h2), hS.2.2⟩ hl
  rw [X.ad] at K
  exact K
theorem d_anew (X : DC x cc nL own d mc ms) {tag index : Nat} {C : String} (htg : (gTys (xz x))[tag - 20]? = some (gcy (xz x) tag, .object C)) (hcl : Cond.classLink own index C ∈ GW) (hao : va_AO C (xs x)) {n : Int32} {N : Nat} (hn : ¬ n < 0) (hN : n.toNatClampNeg = N) (hbytes : N * 4 ≤ 536870912) (h1 : c + 1 ≤ mc) (h2 : s + N ≤ ms) {es2 : List va_E} (hs : es ++ [.inl (gcy (xz x) tag, N, .inr (.inr (.inr (.inr (fun _ => none)))))] = es2) {a : Nat} (ha : es.length = a) (dec : decode cc pc = .ok (.anewarray index, 3)) (go : WD x (c + 1) (s + N) es2 lv (pc + 3) (.ref (gad (xz x) a) :: st)) : WD x c s es lv pc (.int n :: st) := by
  intro H locs ls hz hP hS hl
  subst hs; subst ha; subst hN
  refine W.anew X.1 X.2.1 X.2.2.2.1 (X.hw hcl) (va_AO.use hao) (g := F0 (xm x) pc ls (.int n :: st)) rfl dec rfl hn hbytes (Nat.le_trans h1 X.2.2.2.2.2.2.2.2.2.1) (Nat.le_trans h2 X.2.2.2.2.2.2.2.2.2.2.1) fun cA kA comp f1 f2 f3 f4 => ?_
  obtain ⟨-, kA2, comp2, g1, g2, g3, g4⟩ := X.hK.2 _ _ htg
  have ec : gcy (xz x) tag = cA := Option.some.inj (g4.symm.trans f1)
  generalize hH1 : H.push ({ cls := cA, slots := Array.replicate n.toNatClampNeg .null, vm := .none } : Cell) = H1
  have z1 : H1.size = H.size + 1 := by rw [← hH1, Array.size_push]
  have e1 : H1[H.size]? = some (arrV cA n.toNatClampNeg (fun _ => .null)) := by rw [← hH1, Array.getElem?_push_size, ← arrV_new]
  have o1 : ∀ q : Nat, q < H.size → H1[q]? = H[q]? := fun q hq => by rw [← hH1, Array.getElem?_push, if_neg (Nat.ne_of_lt hq)]
  have K := go H1 locs ls (by rw [z1, hz]; simp; omega) (by
    rw [dW_app]
    refine (hP.kept (fun k q hq => o1 q.1 ((hP k q hq).lt))).app (fun k q hq => ?_)
    cases k with
    | zero => cases hq; show H1[gB (xz x) + es.length]? = some (vp_cell _ _); rw [vp_cell_q, ec, ← hz]; exact e1
    | succ k => simp [dW] at hq) ⟨Nat.le_trans hS.1 (by rw [z1]; omega), fun q h1 h2 => (o1 q (Nat.lt_of_lt_of_le h1 hS.1)).trans (hS.2.1 q h1 h2), hS.2.2⟩ hl
  rw [X.ad, ← hz] at K
  exact K
theorem d_aast (X : DC x cc nL own d mc ms) {g tag n v t : Nat} {C : vw_C} {vs : List Value} {f f2 : Nat → Option Nat} {i : Int32} {es2 : List va_E} (htg : (gTys (xz x))[tag - 20]? = some (gcy (xz x) tag, .object C.1)) (he : es[g]? = some (.inl (gcy (xz x) tag, n, .inr (.inr (.inr (.inr f)))))) (hv : es[v]? = some (.inr (t, vs))) (hc : vwCl[t]? = some C) (hi : gIn i n = true) (hf : va_up f i.toNatClampNeg (some (gad (xz x) v)) = f2) (hs : es.set g (.inl (gcy (xz x) tag, n, .inr (.inr (.inr (.inr f2))))) = es2) (dec : decode cc pc = .ok (.aastore, 1)) (go : WD x c s es2 lv (pc + 1) st) : WD x c s es lv pc (.ref (gad (xz x) v) :: .int i :: .ref (gad (xz x) g) :: st) := by
  intro H locs ls hz hP hS hl
  subst hs; subst hf
  have h0 : ¬ i < 0 := fun q => gIn_in hi (Or.inl q)
  obtain ⟨r', hr', cellV, g1, g2, g3, -⟩ := hP v _ (dW_at hv)
  have hcls := (X.hK.1 t C hc).2
  obtain ⟨kA, comp, k1, k2, k3, -⟩ := (X.hK.2 _ _ htg).2
  have hcomp : comp = (gD (xz x)).1 t := Option.some.inj (k3.symm.trans hcls.1)
  subst hcomp
  obtain ⟨kC, hkC, -⟩ := hcls.2
  rw [X.ad v, X.ad g]
  refine W.aast X.1 X.2.1 (hP g _ (dW_at he)) (fun q h => by cases h) (fun h => by cases h) k1 k2 rfl hkC ⟨h0, by show _ < (arrV _ _ _).slots.size; rw [arrV_size]; exact gIn_lt hi⟩ g1 (fun q h => by rw [g3] at h; cases h) (by rw [g2]; exact hkC) (by rw [g2]; exact va_assign hcls) rfl rfl dec fun H1 e z oq => ?_
  refine go H1 _ ls (by rw [z, hz]; simp) (d_keep hP oq he ?_) (hS.put z oq (Nat.le_add_right _ _)) hl
  show H1[gB (xz x) + g]? = some (vp_cell _ _)
  rw [e]
  rw [vp_cell_q, vp_cell_q, arrV_store, X.ad v]
  congr 2
  funext q
  by_cases hq : q = i.toNatClampNeg
  · subst hq
    simp [updV, va_up, va_rf]
  · simp [updV, va_up, hq]
theorem d_alen (X : DC x cc nL own d mc ms) {g t0 : Nat} {cA : ClassId} {a0 : vp_A} {ty : FieldType} {v : Int32} (he : es[g]? = some (.inl (cA, a0))) (ht : (gTys (xz x))[t0]? = some (cA, ty)) (hv : Int32.ofNat a0.1 = v) (dec : decode cc pc = .ok (.arraylength, 1)) (go : WD x c s es lv (pc + 1) (.int v :: st)) : WD x c s es lv pc (.ref (gad (xz x) g) :: st) :=
  fun H locs ls hz hP hS hl => va_alen X.1 X.2.1 X.hK hP g t0 (by rw [X.ad]; exact dW_at he) ht hv dec (go H locs ls hz hP hS hl)
theorem d_call (X : DC x cc nL own d mc ms) {y : MethodName} {bc : ByteArray} {nY d1 n idx mc1 ms1 g : Nat} {As : List Value} {es1 es2 : List va_E} {host : String} (hes : es = es1)
    (hM : dMet (xl x) (xz x) y bc nY d1 (.ref (gad (xz x) g) :: As) es1 es2 mc1 ms1)
    (hlk : Cond.methodLink own idx y ∈ GW ∨ (dNest (xs x) → va_Nw (.methodLinkNest own idx y host) (xs x))) (hy1 : y.name = "<init>") (hin : Cond.instanceMethod y ∈ GW) (hini : Cond.initialized y.cls ∈ GW) (hcode : Cond.code y bc nY none ∈ GW)
    (hy : y.cls ≠ "java/lang/invoke/MethodHandle" ∧ y.cls ≠ "java/lang/invoke/VarHandle" ∧ (parseMethodDescriptor y.desc).map (fun d => d.parameters.length) = some n) (hn : As.length = n) (hd : d1 + 1 ≤ d) (hnY : nY ≤ 12) (hc : c + mc1 ≤ mc) (hs : s + ms1 ≤ ms)
    (hsum : (st.map fun v => v.category).sum ≤ 8) (dec : decode cc pc = .ok (.invokespecial idx, 3)) (go : WD x (c + mc1) (s + ms1) es2 lv (pc + 3) st) : WD x c s es lv pc (As.reverse ++ .ref (gad (xz x) g) :: st) := by
  intro H locs ls hz hP hS hl
  subst hes
  have hrm : d1 + 1 ≤ (xR x).frames ∧ 8 + (nY + 11) + 31 * d1 ≤ (xR x).locals := ⟨Nat.le_trans hd X.2.2.2.2.2.2.2.1, by have := X.2.2.2.2.2.2.2.2.1; omega⟩
  have hpre : PreS (xs x) H (va_Pc (.ref (gad (xz x) g) :: As) (dPre (xz x) es)) (.ref (gad (xz x) g) :: As) := ⟨dPre.blind _ _ _, fun U hU hW => ⟨rfl, by rw [hU]; exact hz, by rw [hU]; exact hP, X.2.2.2.2.2.2.1.to hW (fun q h1 h2 => by rw [hU]; exact hS.2.1 q h1 h2)⟩⟩
  have hroom : c + mc1 ≤ (xR x).cells ∧ s + ms1 ≤ (xR x).slots := ⟨Nat.le_trans hc X.2.2.2.2.2.2.2.2.2.1, Nat.le_trans hs X.2.2.2.2.2.2.2.2.2.2.1⟩
  have hr : va_Run (xp x) (xl x) (xe x) (xR x) (xs x) (xm x) (xargs x) (xbelow x) (xmeth x) (xc x) H locs c s mc1 ms1 (F0 (xm x) pc ls (As.reverse ++ .ref (gad (xz x) g) :: st)) st ((fun (_ : Array Value) (st : State) (o : Outcome) (t : State) => o = .returned none ∧ t.heap.size = gB (xz x) + es2.length ∧ va_P (gD (xz x)) vwCl (dW (gB (xz x)) es2) t.heap ∧ va_F (fun q => gB (xz x) ≤ q) st t) (.ref (gad (xz x) g) :: As).toArray) (fun q => gB (xz x) ≤ q) := by
    rcases hlk with hlk | hlk
    · exact va_runI (As := As) (rest := st) (Ts := GW) ⟨X.1, X.2.1, rfl, X.2.2.2.1, X.2.2.2.2.1⟩ hM (cwI n X.2.2.2.2.1 (gws_good (fun w h => h) hcode) rfl rfl rfl (X.hw hini) (X.hw hlk) (X.hw hin) hy1 hy hrm) hpre rfl hn hl.1 rfl (lv_room hsum) dec hroom
    · exact va_runIN (As := As) (rest := st) (Ts := GW) ⟨X.1, X.2.1, rfl, X.2.2.2.1, X.2.2.2.2.1⟩ hM ⟨va_cnB n X.2.2.2.2.1 (gws_good (fun w h => h) hcode) rfl rfl rfl (hlk X.2.2.2.2.2.2.1.2.1) (X.hw hini) hy hrm, hy1, X.hw hin⟩ hpre rfl hn hl.1 rfl (lv_room hsum) dec hroom
  intro T hT X'
  obtain ⟨v, st₀, t, T', L, h0, X1, hL, e1, e2, ⟨hv, hz1, hP1, hF1⟩, hgo⟩ := hr T hT X'
  cases hv
  have hS1 : va_S (fun q => gB (xz x) ≤ q) (xs x).heap T'.heap (locs ++ L) := by
    refine ⟨Nat.le_trans hS.1 (by rw [e1, ← h0]; exact hF1.1), fun q h1 h2 => ?_, fun q hq => ?_⟩
    · rw [e1, hF1.2 q (by rw [h0]; exact Nat.lt_of_lt_of_le h1 hS.1) h2, h0]
      exact hS.2.1 q h1 h2
    · rcases List.mem_append.mp hq with h | h
      · exact hS.2.2 q h
      · exact hL q h
  obtain ⟨t2, a1, b1⟩ := go T'.heap (locs ++ L) ls (by rw [e1]; exact hz1) (by rw [e1]; exact hP1) hS1 hl T' rfl X1
  exact ⟨t2, hgo t2 a1, b1⟩
end DR
theorem dMet_of {l : Launch} {z : GZ} {y : MethodName} {cc : ByteArray} {nL d mc ms : Nat} {As : List Value} {es es2 : List va_E} (hy : plainFor y = true) (hn : (lg_sl As).length ≤ nL)
    (body : ∀ x : GX, DC x cc nL y.cls d mc ms → xz x = z → xl x = l → (xmeth x).name = y.name → (∀ lv pc, decode cc pc = .ok (.return_, 1) → WD x mc ms es2 lv pc []) → WD x 0 0 es (lv_args 0 As) 0 []) : dMet l z y cc nL d As es es2 mc ms := by
  refine gOfW (cc := cc) (maxL := nL) (ret := none) hy rfl ?_
  intro p e s m args below meth c s₁ B hml hv
  obtain ⟨rfl, hz, hP, hKK⟩ := hv
  have hts := atoms_spec (ws := gws y cc nL none) B.pre
  have hl := lv_entry As (n := nL) hn
  rw [lg_entry_eq]
  generalize (lg_sl As ++ List.replicate (nL - (lg_sl As).length) Slot.unset).toArray = ls at hl ⊢
  have K := body (p, l, e, (headSpec (gws y cc nL none) { frames := d, cells := mc, slots := ms, locals := 31 * d }).room, s, m, As.toArray, below, meth, c, MQ below (fun _ st o t => o = .returned none ∧ t.heap.size = gB z + es2.length ∧ va_P (gD z) vwCl (dW (gB z) es2) t.heap ∧ va_F (fun q => gB z ≤ q) st t) As.toArray s mc ms (fun q => gB z ≤ q), 0, 0, z)
    ⟨B.exec, B.bytes, hml, findClass_of_methodNamed B.named, fun w hw => hts w (List.mem_cons_of_mem _ hw), B.notSynchronized, hKK, Nat.le_refl _, Nat.le_refl _, Nat.le_refl _, Nat.le_refl _, trivial⟩ rfl rfl (name_of_methodNamed B.named B.method).1
    (fun lv pc dec H locs ls hz hP hS hl => by
      have hz1 : H.size = gB z + es2.length := hz
      have hP1 : va_P (gD z) vwCl (dW (gB z) es2) H := hP
      have hS1 : va_S (fun q => gB z ≤ q) s.heap H locs := hS
      have K := W.vret (p := p) (l := l) (e := e) (R := (headSpec (gws y cc nL none) { frames := d, cells := mc, slots := ms, locals := 31 * d }).room) (s := s) (m := m) (args := As.toArray) (below := below) (meth := meth) (c := c) (H := H) (locs := locs) (pc := pc) (ls := ls) (cells := mc) (slots := ms) (Qc := fun _ st o t => o = .returned none ∧ t.heap.size = gB z + es2.length ∧ va_P (gD z) vwCl (dW (gB z) es2) t.heap ∧ va_F (fun q => gB z ≤ q) st t) (free := fun q => gB z ≤ q) B.exec B.bytes B.returns (fun t ht _ => ⟨rfl, by rw [ht]; exact hz1, by rw [ht]; exact hP1, hS1.F ht⟩) (fun q h => hS1.2.2 q h) dec (hlocks := B.notSynchronized)
      exact K)
  exact K s.heap [] ls hz hP va_S.rf (by rw [← hml] at hl; exact hl)
