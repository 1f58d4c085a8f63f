/-! THE MAKING, ONCE MORE: arrays of arrays; a call of a method without answer; the law's loop on the machine -/
section DR2
variable {x : GX} {cc : ByteArray} {nL d pc c s mc ms : Nat} {own : String} {es : List va_E} {lv : List (Nat × Value)} {st : List Value}
theorem mna_outer (c : ClassId) (N h0 : Nat) (i : Nat) : Jvm.Free.Multi.outerC c N h0 i = arrV c N (fun j => va_rf (if j < i then some (h0 + 1 + j) else none)) := by
  induction i with
  | zero =>
    show ({ cls := c, slots := Array.replicate N .null, vm := .none } : Cell) = _
    rw [arrV_new]
    exact congrArg (arrV c N) (funext fun j => by simp [va_rf])
  | succ i ih =>
    show (Jvm.Free.Multi.outerC c N h0 i).setSlot i (.ref (h0 + 1 + i)) = _
    rw [ih, arrV_store]
    refine congrArg (arrV c N) (funext fun j => ?_)
    by_cases e : j = i
    · subst e
      simp [updV, va_rf]
    · by_cases h : j < i
      · simp [updV, e, h, Nat.lt_succ_of_lt h]
      · simp [updV, e, h, show ¬ j < i + 1 by omega]
/-- new T[n][m] of ints -/
theorem d_mna (X : DC x cc nL own d mc ms) {index : Nat} (hcl : Cond.classLink own index ("[" ++ (FieldType.array .int).toString) ∈ GW) (harr : Cond.arrayClass .int ∈ GW) (hao : dAO2 (xs x)) {n k : Int32} {N K : Nat} (hn : ¬ n < 0) (hk : ¬ k < 0) (hN : n.toNatClampNeg = N) (hK : k.toNatClampNeg = K) (hb1 : N * 4 ≤ 536870912) (hb2 : K * componentBytes .int ≤ 536870912) (hb3 : K ≤ 536870912) (h1 : c + (1 + N) ≤ mc) (h2 : s + (N + N * K) ≤ ms) {es2 : List va_E} {a : Nat} (ha : es.length = a) (hs : es ++ (.inl (gcy (xz x) 28, N, .inr (.inr (.inr (.inr (fun i => if i < N then some (gad (xz x) (a + 1 + i)) else none))))) :: List.replicate N (.inl (gcy (xz x) 20, K, .inl (fun _ => 0)))) = es2) (dec : decode cc pc = .ok (.multianewarray index 2, 4)) (go : WD x (c + 1 + N) (s + N + N * K) es2 lv (pc + 4) (.ref (gad (xz x) a) :: st)) : WD x c s es lv pc (.int k :: .int n :: st) := by
  intro H locs ls hz hP hS hl
  subst hs; subst ha; subst hN; subst hK
  intro T hT Xs
  obtain ⟨vm₁, cA, comp, -, fA, fC, hO, -, X', step⟩ := Jvm.Stand.multianewarray2F Xs X.1 X.2.2.2.1 (X.hw hcl) hao (X.hw harr) (g := F0 (xm x) pc ls (.int k :: .int n :: st)) rfl (by rw [X.2.1]; exact dec) rfl hn hk hb1 hb2 hb3 (by decide +kernel) (by decide +kernel) (Nat.le_trans h1 X.2.2.2.2.2.2.2.2.2.1) (Nat.le_trans h2 X.2.2.2.2.2.2.2.2.2.2.1)
  have ea : gcy (xz x) 28 = cA := Option.some.inj (((X.hK.2 8 _ rfl).2).symm.trans fA)
  have ec : gcy (xz x) 20 = comp := Option.some.inj (((X.hK.2 0 _ rfl).2).symm.trans fC)
  cases ea; cases ec
  generalize hF : Jvm.Free.Multi.fill (T.setVm vm₁) (gcy (xz x) 28) (gcy (xz x) 20) n.toNatClampNeg k.toNatClampNeg (defaultValue .int) n.toNatClampNeg = F at X' step
  have hTh : (T.setVm vm₁).heap = H := hT
  obtain ⟨f1, f2, -, -⟩ := Jvm.Free.Multi.fill_facts (T.setVm vm₁) (gcy (xz x) 28) (gcy (xz x) 20) n.toNatClampNeg k.toNatClampNeg (defaultValue .int) n.toNatClampNeg
  rw [hF, hTh] at f1 f2
  have hold : ∀ q : Nat, q < H.size → F.heap[q]? = H[q]? := fun q hq => by
    have := Jvm.Free.Multi.fill_old (T.setVm vm₁) (gcy (xz x) 28) (gcy (xz x) 20) n.toNatClampNeg k.toNatClampNeg (defaultValue .int) (a := q) (by rw [hTh]; exact hq) n.toNatClampNeg
    rw [hF, hTh] at this
    exact this
  have hrow : ∀ j : Nat, j < n.toNatClampNeg → F.heap[H.size + 1 + j]? = some (vp_cell (gcy (xz x) 20) (k.toNatClampNeg, .inl (fun _ => 0))) := fun j hj => by
    have := Jvm.Free.Multi.fill_inner (T.setVm vm₁) (gcy (xz x) 28) (gcy (xz x) 20) n.toNatClampNeg k.toNatClampNeg (defaultValue .int) n.toNatClampNeg j hj
    rw [hF, hTh] at this
    rw [this, vp_cell_i]
    exact congrArg some (arrV_new _ _ _)
  have hout : Jvm.Free.Multi.outerC (gcy (xz x) 28) n.toNatClampNeg H.size n.toNatClampNeg = vp_cell (gcy (xz x) 28) (n.toNatClampNeg, .inr (.inr (.inr (.inr (fun i => if i < n.toNatClampNeg then some (gad (xz x) (es.length + 1 + i)) else none))))) := by
    rw [vp_cell_q, mna_outer]
    refine congrArg (arrV _ _) (funext fun j => ?_)
    by_cases hj : j < n.toNatClampNeg
    · simp [hj, va_rf, X.ad, hz, Nat.add_assoc]
    · simp [hj, va_rf]
  rw [hout] at f2
  have hP1 : va_P (gD (xz x)) vwCl (dW (gB (xz x)) (es ++ (.inl (gcy (xz x) 28, n.toNatClampNeg, .inr (.inr (.inr (.inr (fun i => if i < n.toNatClampNeg then some (gad (xz x) (es.length + 1 + i)) else none))))) :: List.replicate n.toNatClampNeg (.inl (gcy (xz x) 20, k.toNatClampNeg, .inl (fun _ => 0)))))) F.heap := by
    rw [dW_app]
    refine (hP.kept (fun q e hq => hold e.1 ((hP q e hq).lt))).app (fun q e hq => ?_)
    cases q with
    | zero =>
      cases hq
      show F.heap[gB (xz x) + es.length]? = some (vp_cell _ _)
      rw [← hz]
      exact f2
    | succ q =>
      have hq2 : (dW (gB (xz x) + es.length + 1) (List.replicate n.toNatClampNeg (.inl (gcy (xz x) 20, k.toNatClampNeg, .inl (fun _ => 0)))))[q]? = some e := hq
      rw [dW_get, List.getElem?_replicate] at hq2
      by_cases hj : q < n.toNatClampNeg
      · rw [if_pos hj] at hq2
        cases hq2
        show F.heap[gB (xz x) + es.length + 1 + q]? = some (vp_cell _ _)
        rw [← hz]
        exact hrow q hj
      · rw [if_neg hj] at hq2
        cases hq2
  have K := go F.heap locs ls (by rw [f1, hz]; simp; omega) hP1 ⟨Nat.le_trans hS.1 (by rw [f1]; omega), fun q h1 h2 => (hold q (Nat.lt_of_lt_of_le h1 hS.1)).trans (hS.2.1 q h1 h2), hS.2.2⟩ hl
  rw [X.ad, ← hz, ← hT] at K
  obtain ⟨t, a1, b1⟩ := K F rfl X'
  exact ⟨t, step t a1, b1⟩
theorem d_callV (X : DC x cc nL own d mc ms) {y : MethodName} {bc : ByteArray} {nY d1 n idx mc1 ms1 g t N : Nat} {As : List Value} {es1 es2 : List va_E} {C : String} {T : u_T} {fs : List Value} (hes : es = es1)
    (hM : dMet (xl x) (xz x) y bc nY d1 (.ref (gad (xz x) g) :: As) es1 es2 mc1 ms1) (he : es1[g]? = some (.inr (t, fs))) (hcv : vwCl[t]? = some (C, T, N))
    (hlk : Cond.methodLink own idx y ∈ GW) (hin : Cond.instanceMethod y ∈ GW) (hse : Cond.selects C y y ∈ GW) (hini : Cond.initialized C ∈ GW) (hcode : Cond.code y bc nY none ∈ GW)
    (hy : y.cls = C ∧ y.cls ≠ "java/lang/invoke/MethodHandle" ∧ y.cls ≠ "java/lang/invoke/VarHandle" ∧ (parseMethodDescriptor y.desc).map (fun d => d.parameters.length) = some n) (hn : As.length = n) (hd : d1 + 1 ≤ d) (hnY : nY ≤ 12) (hc : c + mc1 ≤ mc) (hs : s + ms1 ≤ ms)
    (hsum : (st.map fun v => v.category).sum ≤ 8) (dec : decode cc pc = .ok (.invokevirtual idx, 3)) (go : WD x (c + mc1) (s + ms1) es2 lv (pc + 3) st) : WD x c s es lv pc (As.reverse ++ .ref (gad (xz x) g) :: st) := by
  intro H locs ls hz hP hS hl
  subst hes
  have hrm : d1 + 1 ≤ (xR x).frames ∧ 8 + (nY + 11) + 31 * d1 ≤ (xR x).locals := ⟨Nat.le_trans hd X.2.2.2.2.2.2.2.1, by have := X.2.2.2.2.2.2.2.2.1; omega⟩
  have hrc : ∃ cellB : Cell, H[gad (xz x) g]? = some cellB ∧ cellB.vm.isStatics = false ∧ (xs x).vm.findClass C = some cellB.cls := by
    rw [X.ad]
    exact va_recv (q := (C, T, N)) X.hK hP hcv (dW_at he)
  have hpre : PreV (xs x) H C (gad (xz x) g) (va_Pc (.ref (gad (xz x) g) :: As) (dPre (xz x) es)) As := ⟨dPre.blind _ _ _, hrc, fun U hU hW => ⟨rfl, by rw [hU]; exact hz, by rw [hU]; exact hP, X.2.2.2.2.2.2.1.to hW (fun q h1 h2 => by rw [hU]; exact hS.2.1 q h1 h2)⟩⟩
  have hroom : c + mc1 ≤ (xR x).cells ∧ s + ms1 ≤ (xR x).slots := ⟨Nat.le_trans hc X.2.2.2.2.2.2.2.2.2.1, Nat.le_trans hs X.2.2.2.2.2.2.2.2.2.2.1⟩
  have hT : GoodIn GW (wsV own idx C y (gws y bc nY none)) := by
    intro w hw
    rcases List.mem_append.mp (show w ∈ ([.methodLink own idx y, .instanceMethod y, .selects C y y, .initialized C] : List Cond) ++ gws y bc nY none from hw) with h | h
    · have : w ∈ GW := by
        simp only [List.mem_cons, List.not_mem_nil, or_false] at h
        rcases h with rfl | rfl | rfl | rfl
        · exact hlk
        · exact hin
        · exact hse
        · exact hini
      exact ⟨this, gw_good this⟩
    · exact gws_good (fun w h => h) hcode w h
  have hr : va_Run (xp x) (xl x) (xe x) (xR x) (xs x) (xm x) (xargs x) (xbelow x) (xmeth x) (xc x) H locs c s mc1 ms1 (F0 (xm x) pc ls (As.reverse ++ .ref (gad (xz x) g) :: st)) st ((fun (_ : Array Value) (st : State) (o : Outcome) (t : State) => o = .returned none ∧ t.heap.size = gB (xz x) + es2.length ∧ va_P (gD (xz x)) vwCl (dW (gB (xz x)) es2) t.heap ∧ va_F (fun q => gB (xz x) ≤ q) st t) (.ref (gad (xz x) g) :: As).toArray) (fun q => gB (xz x) ≤ q) :=
    va_runV (As := As) (rest := st) (Ts := GW) ⟨X.1, X.2.1, rfl, X.2.2.2.1, X.2.2.2.2.1⟩ hM (cwV n X.2.2.2.2.1 hT rfl rfl rfl hy hrm) hpre rfl hn hl.1 rfl (lv_room hsum) dec hroom
  intro T hT X'
  obtain ⟨v, st₀, t, T', L, h0, X1, hL, e1, e2, ⟨hv, hz1, hP1, hF1⟩, hgo⟩ := hr T hT X'
  cases hv
  have hS1 : va_S (fun q => gB (xz x) ≤ q) (xs x).heap T'.heap (locs ++ L) := by
    refine ⟨Nat.le_trans hS.1 (by rw [e1, ← h0]; exact hF1.1), fun q h1 h2 => ?_, fun q hq => ?_⟩
    · rw [e1, hF1.2 q (by rw [h0]; exact Nat.lt_of_lt_of_le h1 hS.1) h2, h0]
      exact hS.2.1 q h1 h2
    · rcases List.mem_append.mp hq with h | h
      · exact hS.2.2 q h
      · exact hL q h
  obtain ⟨t2, a1, b1⟩ := go T'.heap (locs ++ L) ls (by rw [e1]; exact hz1) (by rw [e1]; exact hP1) hS1 hl T' rfl X1
  exact ⟨t2, hgo t2 a1, b1⟩
end DR2
/-- the walk with n cells of six slots more -/
def xupn : Nat → GX → GX
  | 0, x => x
  | n + 1, x => xupn n (xup x)
theorem g_upn {M : GM} {lv : List (Nat × Value)} {pc : Nat} {st : List Value} : ∀ (n : Nat) (x : GX), WG (xupn n x) M lv pc st → WG x M lv pc st := by
  intro n
  induction n with
  | zero => intro x h; exact h
  | succ n ih => intro x h; exact g_up (ih (xup x) h)
/-- the law's loop on the machine comes where its function says -/
theorem law_walk {F b9 L9 : Nat} {xs9 : Nat → Int32} : ∀ (n : Nat) (x : GX) (a4 : Int32) (M M' : GM), GC x cL_law 9 RL 11 → xcells x + n ≤ (xR x).cells → xslots x + 6 * n ≤ (xR x).slots → gScr x b9 L9 xs9 → gNcs (xs x) → (∀ M9 : GM, WG (xupn n x) M9 [] 2440 []) → lp_L_law F L9 xs9 n a4 M = some (.inl M') → WG x M [(0, .ref b9), (1, .ref (gad (xz x) 0)), (2, .ref (gad (xz x) 122)), (3, .ref (gad (xz x) 162)), (4, .int a4)] 23 [] := by
  intro n
  induction n with
  | zero => intro x a4 M M' _ _ _ _ _ _ h; exact absurd h (fun q => by cases q)
  | succ n ih =>
    intro x a4 M M' X hc hs hsc hnc hE h
    have hroom : xcells x + 1 ≤ (xR x).cells ∧ xslots x + 6 ≤ (xR x).slots := ⟨by omega, by omega⟩
    refine sw_L_law X (F := F) (rec := lp_L_law F L9 xs9 n) (r9 := .inl M') (GC.up X hroom) hroom hsc hnc (fun v8 M8 q => by cases q) (fun M9 _ => g_upn (n + 1) x (hE M9)) (fun a4_9 M9 h9 => ?_) a4 M h
    exact ih (xup x) a4_9 M9 M' (GC.up X hroom) (show xcells x + 1 + n ≤ (xR x).cells by omega) (show xslots x + 6 + 6 * n ≤ (xR x).slots by omega) hsc hnc hE h9
