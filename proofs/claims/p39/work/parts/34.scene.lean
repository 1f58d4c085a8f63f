/-! Scene(int[], int) -/
theorem q_44 : ((Jvm.Cond.instantiable "GlassRaster" (15 : Nat)) : Cond) ∈ GW := gw_mem 44 (by decide +kernel) (by decide +kernel)
theorem q_473 : (.methodLink RX11 1 ⟨"java/lang/Object", "<init>", "()V"⟩ : Cond) ∈ GW := gw_mem 473 (by decide +kernel) (by decide +kernel)
theorem q_474 : (.classLink RX11 7 RX10 : Cond) ∈ GW := gw_mem 474 (by decide +kernel) (by decide +kernel)
theorem q_475 : (.methodLink RX11 9 yX10_init : Cond) ∈ GW := gw_mem 475 (by decide +kernel) (by decide +kernel)
theorem q_476 : (.instanceMethod yX10_init : Cond) ∈ GW := gw_mem 476 (by decide +kernel) (by decide +kernel)
theorem q_477 : (.code yX10_init cX10_init 2 none : Cond) ∈ GW := gw_mem 477 (by decide +kernel) (by decide +kernel)
theorem q_820 : (.classLink RX11 16 "[[I" : Cond) ∈ GW := gw_mem 820 (by decide +kernel) (by decide +kernel)
theorem q_822 : (.classLink RX11 24 "[[Z" : Cond) ∈ GW := gw_mem 822 (by decide +kernel) (by decide +kernel)
theorem q_824 : (.classLink RX11 29 "[I" : Cond) ∈ GW := gw_mem 824 (by decide +kernel) (by decide +kernel)
theorem mna_outer (c : ClassId) (N h0 : Nat) (i : Nat) : Jvm.Free.Multi.outerC c N h0 i = arrV c N (fun j => va_rf (if j < i then some (h0 + 1 + j) else none)) := by
  induction i with
  | zero =>
    show ({ cls := c, slots := Array.replicate N .null, vm := .none } : Cell) = _
    rw [arrV_new]
    exact congrArg (arrV c N) (funext fun j => by simp [va_rf])
  | succ i ih =>
    show (Jvm.Free.Multi.outerC c N h0 i).setSlot i (.ref (h0 + 1 + i)) = _
    rw [ih, arrV_store]
    refine congrArg (arrV c N) (funext fun j => ?_)
    by_cases e : j = i
    · subst e
      simp [updV, va_rf]
    · by_cases h : j < i
      · simp [updV, e, h, Nat.lt_succ_of_lt h]
      · simp [updV, e, h, show ¬ j < i + 1 by omega]
/-- new T[n][m] of ints -/
theorem dg1 {S : va_E} {T own : List va_E} {p : Nat} (hp : T.length + 1 = p) (i : Nat) {e : va_E} (h : own[i]? = some e) : (S :: (T ++ own))[p + i]? = some e := dg (pre := S :: T) (own := own) (by rw [List.length_cons]; exact hp) i h
theorem ds1 {S : va_E} {T own own2 : List va_E} {p : Nat} (hp : T.length + 1 = p) (i : Nat) {e : va_E} (h : own.set i e = own2) : (S :: (T ++ own)).set (p + i) e = S :: (T ++ own2) := ds (pre := S :: T) (own := own) (by rw [List.length_cons]; exact hp) i h
section DR2
variable {x : GX} {cc : ByteArray} {nL d pc c s mc ms : Nat} {own : String} {es : List va_E} {lv : List (Nat × Value)} {st : List Value}
theorem d_mna (X : DC x cc nL own d mc ms) {index : Nat} (hcl : Cond.classLink own index ("[" ++ (FieldType.array .int).toString) ∈ GW) (harr : Cond.arrayClass .int ∈ GW) (hao : dAO2 .int (xs x)) {n k : Int32} {N K : Nat} (hn : ¬ n < 0) (hk : ¬ k < 0) (hN : n.toNatClampNeg = N) (hK : k.toNatClampNeg = K) (hb1 : N * 4 ≤ 536870912) (hb2 : K * componentBytes .int ≤ 536870912) (hb3 : K ≤ 536870912) (h1 : c + (1 + N) ≤ mc) (h2 : s + (N + N * K) ≤ ms) {es2 : List va_E} {a : Nat} (ha : es.length = a) (hs : es ++ (.inl (gcy (xz x) 28, N, .inr (.inr (.inr (.inr (fun i => if i < N then some (gad (xz x) (a + 1 + i)) else none))))) :: List.replicate N (.inl (gcy (xz x) 20, K, .inl (fun _ => 0)))) = es2) (dec : decode cc pc = .ok (.multianewarray index 2, 4)) (go : WD x (c + 1 + N) (s + N + N * K) es2 lv (pc + 4) (.ref (gad (xz x) a) :: st)) : WD x c s es lv pc (.int k :: .int n :: st) := by
  intro H locs ls hz hP hS hl
  subst hs; subst ha; subst hN; subst hK
  intro T hT Xs
  obtain ⟨vm₁, cA, comp, -, fA, fC, hO, -, X', step⟩ := Xs.multianewarray2F X.1 X.2.2.2.1 (X.hw hcl) hao (X.hw harr) (g := F0 (xm x) pc ls (.int k :: .int n :: st)) rfl (by rw [X.2.1]; exact dec) rfl hn hk hb1 hb2 hb3 (by decide +kernel) (by decide +kernel) (Nat.le_trans h1 X.2.2.2.2.2.2.2.2.2.1) (Nat.le_trans h2 X.2.2.2.2.2.2.2.2.2.2.1)
  have ea : gcy (xz x) 28 = cA := Option.some.inj (((X.hK.2 8 _ rfl).2).symm.trans fA)
  have ec : gcy (xz x) 20 = comp := Option.some.inj (((X.hK.2 0 _ rfl).2).symm.trans fC)
  cases ea; cases ec
  generalize hF : Jvm.Free.Multi.fill (T.setVm vm₁) (gcy (xz x) 28) (gcy (xz x) 20) n.toNatClampNeg k.toNatClampNeg (defaultValue .int) n.toNatClampNeg = F at X' step
  have hTh : (T.setVm vm₁).heap = H := hT
  obtain ⟨f1, f2, -, -⟩ := Jvm.Free.Multi.fill_facts (T.setVm vm₁) (gcy (xz x) 28) (gcy (xz x) 20) n.toNatClampNeg k.toNatClampNeg (defaultValue .int) n.toNatClampNeg
  rw [hF, hTh] at f1 f2
  have hold : ∀ q : Nat, q < H.size → F.heap[q]? = H[q]? := fun q hq => by
    have := Jvm.Free.Multi.fill_old (T.setVm vm₁) (gcy (xz x) 28) (gcy (xz x) 20) n.toNatClampNeg k.toNatClampNeg (defaultValue .int) (a := q) (by rw [hTh]; exact hq) n.toNatClampNeg
    rw [hF, hTh] at this
    exact this
  have hrow : ∀ j : Nat, j < n.toNatClampNeg → F.heap[H.size + 1 + j]? = some (vp_cell (gcy (xz x) 20) (k.toNatClampNeg, .inl (fun _ => 0))) := fun j hj => by
    have := Jvm.Free.Multi.fill_inner (T.setVm vm₁) (gcy (xz x) 28) (gcy (xz x) 20) n.toNatClampNeg k.toNatClampNeg (defaultValue .int) n.toNatClampNeg j hj
    rw [hF, hTh] at this
    rw [this, vp_cell_i]
    exact congrArg some (arrV_new _ _ _)
  have hout : Jvm.Free.Multi.outerC (gcy (xz x) 28) n.toNatClampNeg H.size n.toNatClampNeg = vp_cell (gcy (xz x) 28) (n.toNatClampNeg, .inr (.inr (.inr (.inr (fun i => if i < n.toNatClampNeg then some (gad (xz x) (es.length + 1 + i)) else none))))) := by
    rw [vp_cell_q, mna_outer]
    refine congrArg (arrV _ _) (funext fun j => ?_)
    by_cases hj : j < n.toNatClampNeg
    · simp [hj, va_rf, X.ad, hz, Nat.add_assoc]
    · simp [hj, va_rf]
  rw [hout] at f2
  have hP1 : va_P (gD (xz x)) vwCl (dW (gB (xz x)) (es ++ (.inl (gcy (xz x) 28, n.toNatClampNeg, .inr (.inr (.inr (.inr (fun i => if i < n.toNatClampNeg then some (gad (xz x) (es.length + 1 + i)) else none))))) :: List.replicate n.toNatClampNeg (.inl (gcy (xz x) 20, k.toNatClampNeg, .inl (fun _ => 0)))))) F.heap := by
    rw [dW_app]
    refine (hP.kept (fun q e hq => hold e.1 ((hP q e hq).lt))).app (fun q e hq => ?_)
    cases q with
    | zero =>
      cases hq
      show F.heap[gB (xz x) + es.length]? = some (vp_cell _ _)
      rw [← hz]
      exact f2
    | succ q =>
      have hq2 : (dW (gB (xz x) + es.length + 1) (List.replicate n.toNatClampNeg (.inl (gcy (xz x) 20, k.toNatClampNeg, .inl (fun _ => 0)))))[q]? = some e := hq
      rw [dW_get, List.getElem?_replicate] at hq2
      by_cases hj : q < n.toNatClampNeg
      · rw [if_pos hj] at hq2
        cases hq2
        show F.heap[gB (xz x) + es.length + 1 + q]? = some (vp_cell _ _)
        rw [← hz]
        exact hrow q hj
      · rw [if_neg hj] at hq2
        cases hq2
  have K := go F.heap locs ls (by rw [f1, hz]; simp; omega) hP1 ⟨Nat.le_trans hS.1 (by rw [f1]; omega), fun q h1 h2 => (hold q (Nat.lt_of_lt_of_le h1 hS.1)).trans (hS.2.1 q h1 h2), hS.2.2⟩ hl
  rw [X.ad, ← hz] at K
  obtain ⟨t, a1, b1⟩ := K F rfl X'
  rw [show T.heap = H from hT] at step
  exact ⟨t, step t a1, b1⟩
theorem d_mnaZ (X : DC x cc nL own d mc ms) {index : Nat} (hcl : Cond.classLink own index ("[" ++ (FieldType.array .boolean).toString) ∈ GW) (harr : Cond.arrayClass .boolean ∈ GW) (hao : dAO2 .boolean (xs x)) {n k : Int32} {N K : Nat} (hn : ¬ n < 0) (hk : ¬ k < 0) (hN : n.toNatClampNeg = N) (hK : k.toNatClampNeg = K) (hb1 : N * 4 ≤ 536870912) (hb2 : K * componentBytes .boolean ≤ 536870912) (hb3 : K ≤ 536870912) (h1 : c + (1 + N) ≤ mc) (h2 : s + (N + N * K) ≤ ms) {es2 : List va_E} {a : Nat} (ha : es.length = a) (hs : es ++ (.inl (gcy (xz x) 29, N, .inr (.inr (.inr (.inr (fun i => if i < N then some (gad (xz x) (a + 1 + i)) else none))))) :: List.replicate N (.inl (gcy (xz x) 22, K, .inl (fun _ => 0)))) = es2) (dec : decode cc pc = .ok (.multianewarray index 2, 4)) (go : WD x (c + 1 + N) (s + N + N * K) es2 lv (pc + 4) (.ref (gad (xz x) a) :: st)) : WD x c s es lv pc (.int k :: .int n :: st) := by
  intro H locs ls hz hP hS hl
  subst hs; subst ha; subst hN; subst hK
  intro T hT Xs
  obtain ⟨vm₁, cA, comp, -, fA, fC, hO, -, X', step⟩ := Xs.multianewarray2F X.1 X.2.2.2.1 (X.hw hcl) hao (X.hw harr) (g := F0 (xm x) pc ls (.int k :: .int n :: st)) rfl (by rw [X.2.1]; exact dec) rfl hn hk hb1 hb2 hb3 (by decide +kernel) (by decide +kernel) (Nat.le_trans h1 X.2.2.2.2.2.2.2.2.2.1) (Nat.le_trans h2 X.2.2.2.2.2.2.2.2.2.2.1)
  have ea : gcy (xz x) 29 = cA := Option.some.inj (((X.hK.2 9 _ rfl).2).symm.trans fA)
  have ec : gcy (xz x) 22 = comp := Option.some.inj (((X.hK.2 2 _ rfl).2).symm.trans fC)
  cases ea; cases ec
  generalize hF : Jvm.Free.Multi.fill (T.setVm vm₁) (gcy (xz x) 29) (gcy (xz x) 22) n.toNatClampNeg k.toNatClampNeg (defaultValue .boolean) n.toNatClampNeg = F at X' step
  have hTh : (T.setVm vm₁).heap = H := hT
  obtain ⟨f1, f2, -, -⟩ := Jvm.Free.Multi.fill_facts (T.setVm vm₁) (gcy (xz x) 29) (gcy (xz x) 22) n.toNatClampNeg k.toNatClampNeg (defaultValue .boolean) n.toNatClampNeg
  rw [hF, hTh] at f1 f2
  have hold : ∀ q : Nat, q < H.size → F.heap[q]? = H[q]? := fun q hq => by
    have := Jvm.Free.Multi.fill_old (T.setVm vm₁) (gcy (xz x) 29) (gcy (xz x) 22) n.toNatClampNeg k.toNatClampNeg (defaultValue .boolean) (a := q) (by rw [hTh]; exact hq) n.toNatClampNeg
    rw [hF, hTh] at this
    exact this
  have hrow : ∀ j : Nat, j < n.toNatClampNeg → F.heap[H.size + 1 + j]? = some (vp_cell (gcy (xz x) 22) (k.toNatClampNeg, .inl (fun _ => 0))) := fun j hj => by
    have := Jvm.Free.Multi.fill_inner (T.setVm vm₁) (gcy (xz x) 29) (gcy (xz x) 22) n.toNatClampNeg k.toNatClampNeg (defaultValue .boolean) n.toNatClampNeg j hj
    rw [hF, hTh] at this
    rw [this, vp_cell_i]
    exact congrArg some (arrV_new _ _ _)
  have hout : Jvm.Free.Multi.outerC (gcy (xz x) 29) n.toNatClampNeg H.size n.toNatClampNeg = vp_cell (gcy (xz x) 29) (n.toNatClampNeg, .inr (.inr (.inr (.inr (fun i => if i < n.toNatClampNeg then some (gad (xz x) (es.length + 1 + i)) else none))))) := by
    rw [vp_cell_q, mna_outer]
    refine congrArg (arrV _ _) (funext fun j => ?_)
    by_cases hj : j < n.toNatClampNeg
    · simp [hj, va_rf, X.ad, hz, Nat.add_assoc]
    · simp [hj, va_rf]
  rw [hout] at f2
  have hP1 : va_P (gD (xz x)) vwCl (dW (gB (xz x)) (es ++ (.inl (gcy (xz x) 29, n.toNatClampNeg, .inr (.inr (.inr (.inr (fun i => if i < n.toNatClampNeg then some (gad (xz x) (es.length + 1 + i)) else none))))) :: List.replicate n.toNatClampNeg (.inl (gcy (xz x) 22, k.toNatClampNeg, .inl (fun _ => 0)))))) F.heap := by
    rw [dW_app]
    refine (hP.kept (fun q e hq => hold e.1 ((hP q e hq).lt))).app (fun q e hq => ?_)
    cases q with
    | zero =>
      cases hq
      show F.heap[gB (xz x) + es.length]? = some (vp_cell _ _)
      rw [← hz]
      exact f2
    | succ q =>
      have hq2 : (dW (gB (xz x) + es.length + 1) (List.replicate n.toNatClampNeg (.inl (gcy (xz x) 22, k.toNatClampNeg, .inl (fun _ => 0)))))[q]? = some e := hq
      rw [dW_get, List.getElem?_replicate] at hq2
      by_cases hj : q < n.toNatClampNeg
      · rw [if_pos hj] at hq2
        cases hq2
        show F.heap[gB (xz x) + es.length + 1 + q]? = some (vp_cell _ _)
        rw [← hz]
        exact hrow q hj
      · rw [if_neg hj] at hq2
        cases hq2
  have K := go F.heap locs ls (by rw [f1, hz]; simp; omega) hP1 ⟨Nat.le_trans hS.1 (by rw [f1]; omega), fun q h1 h2 => (hold q (Nat.lt_of_lt_of_le h1 hS.1)).trans (hS.2.1 q h1 h2), hS.2.2⟩ hl
  rw [X.ad, ← hz] at K
  obtain ⟨t, a1, b1⟩ := K F rfl X'
  rw [show T.heap = H from hT] at step
  exact ⟨t, step t a1, b1⟩
theorem d_anewA (X : DC x cc nL own d mc ms) {index : Nat} (hcl : Cond.classLink own index (FieldType.array .int).toString ∈ GW) (hao : dAO2 .int (xs x)) {n : Int32} {N : Nat} (hn : ¬ n < 0) (hN : n.toNatClampNeg = N) (hbytes : N * 4 ≤ 536870912) (h1 : c + 1 ≤ mc) (h2 : s + N ≤ ms) {es2 : List va_E} (hs : es ++ [.inl (gcy (xz x) 28, N, .inr (.inr (.inr (.inr (fun _ => none)))))] = es2) {a : Nat} (ha : es.length = a) (dec : decode cc pc = .ok (.anewarray index, 3)) (go : WD x (c + 1) (s + N) es2 lv (pc + 3) (.ref (gad (xz x) a) :: st)) : WD x c s es lv pc (.int n :: st) := by
  intro H locs ls hz hP hS hl
  subst hs; subst ha; subst hN
  refine W.anewA X.1 X.2.1 X.2.2.2.1 (X.hw hcl) hao (g := F0 (xm x) pc ls (.int n :: st)) rfl dec rfl hn hbytes (Nat.le_trans h1 X.2.2.2.2.2.2.2.2.2.1) (Nat.le_trans h2 X.2.2.2.2.2.2.2.2.2.2.1) fun cA kA comp f1 f2 f3 f4 => ?_
  have ec : gcy (xz x) 28 = cA := Option.some.inj (((X.hK.2 8 _ rfl).2).symm.trans f1)
  generalize hH1 : H.push ({ cls := cA, slots := Array.replicate n.toNatClampNeg .null, vm := .none } : Cell) = H1
  have z1 : H1.size = H.size + 1 := by rw [← hH1, Array.size_push]
  have e1 : H1[H.size]? = some (arrV cA n.toNatClampNeg (fun _ => .null)) := by rw [← hH1, Array.getElem?_push_size, ← arrV_new]
  have o1 : ∀ q : Nat, q < H.size → H1[q]? = H[q]? := fun q hq => by rw [← hH1, Array.getElem?_push, if_neg (Nat.ne_of_lt hq)]
  have K := go H1 locs ls (by rw [z1, hz]; simp; omega) (by
    rw [dW_app]
    refine (hP.kept (fun k q hq => o1 q.1 ((hP k q hq).lt))).app (fun k q hq => ?_)
    cases k with
    | zero => cases hq; show H1[gB (xz x) + es.length]? = some (vp_cell _ _); rw [vp_cell_q, ec, ← hz]; exact e1
    | succ k => simp [dW] at hq) ⟨Nat.le_trans hS.1 (by rw [z1]; omega), fun q h1 h2 => (o1 q (Nat.lt_of_lt_of_le h1 hS.1)).trans (hS.2.1 q h1 h2), hS.2.2⟩ hl
  rw [X.ad, ← hz] at K
  exact K
theorem d_aastA (X : DC x cc nL own d mc ms) {g n v m9 : Nat} {f f2 : Nat → Option Nat} {fv : Nat → Int32} {i : Int32} {es2 : List va_E} (he : es[g]? = some (.inl (gcy (xz x) 28, n, .inr (.inr (.inr (.inr f)))))) (hv : es[v]? = some (.inl (gcy (xz x) 20, m9, .inl fv))) (hi : gIn i n = true) (hf : va_up f i.toNatClampNeg (some (gad (xz x) v)) = f2) (hs : es.set g (.inl (gcy (xz x) 28, n, .inr (.inr (.inr (.inr f2))))) = es2) (dec : decode cc pc = .ok (.aastore, 1)) (go : WD x c s es2 lv (pc + 1) st) : WD x c s es lv pc (.ref (gad (xz x) v) :: .int i :: .ref (gad (xz x) g) :: st) := by
  intro H locs ls hz hP hS hl
  subst hs; subst hf
  have h0 : ¬ i < 0 := fun q => gIn_in hi (Or.inl q)
  obtain ⟨kA, k1, k2⟩ := X.2.2.2.2.2.2.1.1.2.2.2.2.2.1.2.2.1
  obtain ⟨-, kC, hkC, -⟩ := (X.hK.2 0 _ rfl).1 m9 (fun j => .int (fv j))
  rw [X.ad v, X.ad g]
  refine W.aast X.1 X.2.1 (hP g _ (dW_at he)) (fun q h => by cases h) (fun h => by cases h) k1 k2 rfl hkC ⟨h0, by show _ < (arrV _ _ _).slots.size; rw [arrV_size]; exact gIn_lt hi⟩ (hP v _ (dW_at hv)) (fun q h => by cases h) hkC (va_asg _ _) rfl rfl dec fun H1 e z oq => ?_
  refine go H1 _ ls (by rw [z, hz]; simp) (d_keep hP oq he ?_) (hS.put z oq (Nat.le_add_right _ _)) hl
  show H1[gB (xz x) + g]? = some (vp_cell _ _)
  rw [e]
  rw [vp_cell_q, vp_cell_q, arrV_store, X.ad v]
  congr 2
  funext q
  by_cases hq : q = i.toNatClampNeg
  · subst hq
    simp [updV, va_up, va_rf]
  · simp [updV, va_up, hq]
end DR2
/-- the cells of GlassRaster(), behind one cell -/
def sT1 (z : GZ) : List va_E := (own10 z 1 40 30 4) ++ ((List.replicate 40 (.inr (3, [.int 0, .int 0, .int 0, .int 0, .int 0, .int 0]))) ++ ((List.replicate 30 (.inr (4, [.int 0, .int 0, .int 0, .int 0, .int 0, .int 0, .int 0]))) ++ ((List.range 4).flatMap (fun m => ([.inr (5, [.ref (gad z (1 + 114 + 2 * m + 1)), .int 1]), .inl (gcy z 20, 64, .inl (fun _ => 0))] : List va_E)))))
theorem sT1_len (z : GZ) : (sT1 z).length + 1 = 123 := by
  unfold sT1
  rw [List.length_append, own10_len, List.length_append, List.length_replicate, List.length_append, List.length_replicate, pats_len]
def sT2 (z : GZ) : List va_E := sT1 z ++ (.inl (gcy z 28, 40, .inr (.inr (.inr (.inr (fun i => if i < 40 then some (gad z (123 + 1 + i)) else none))))) :: List.replicate 40 (.inl (gcy z 20, 6, .inl (fun _ => 0))))
theorem sT2_len (z : GZ) : (sT2 z).length + 1 = 164 := by
  unfold sT2
  have := sT1_len z
  simp only [List.length_append, List.length_cons, List.length_nil, List.length_replicate]
  omega
def sT3 (z : GZ) : List va_E := sT2 z ++ (.inl (gcy z 28, 30, .inr (.inr (.inr (.inr (fun i => if i < 30 then some (gad z (164 + 1 + i)) else none))))) :: List.replicate 30 (.inl (gcy z 20, 4, .inl (fun _ => 0))))
theorem sT3_len (z : GZ) : (sT3 z).length + 1 = 195 := by
  unfold sT3
  have := sT2_len z
  simp only [List.length_append, List.length_cons, List.length_nil, List.length_replicate]
  omega
def sT4 (z : GZ) : List va_E := sT3 z ++ (.inl (gcy z 29, 30, .inr (.inr (.inr (.inr (fun i => if i < 30 then some (gad z (195 + 1 + i)) else none))))) :: List.replicate 30 (.inl (gcy z 22, 3, .inl (fun _ => 0))))
theorem sT4_len (z : GZ) : (sT4 z).length + 1 = 226 := by
  unfold sT4
  have := sT3_len z
  simp only [List.length_append, List.length_cons, List.length_nil, List.length_replicate]
  omega
def sT5 (z : GZ) : List va_E := sT4 z ++ [.inl (gcy z 28, 3, .inr (.inr (.inr (.inr (va_up (va_up (va_up (fun _ => none) 0 (some (gad z 227))) 1 (some (gad z 228))) 2 (some (gad z 229))))))), .inl (gcy z 20, 4, .inl (upd (upd (upd (upd (fun _ => 0) 0 1024) 1 0) 2 0) 3 0)), .inl (gcy z 20, 4, .inl (upd (upd (upd (upd (fun _ => 0) 0 0) 1 1024) 2 0) 3 0)), .inl (gcy z 20, 4, .inl (upd (upd (upd (upd (fun _ => 0) 0 0) 1 0) 2 1024) 3 500))]
theorem sT5_len (z : GZ) : (sT5 z).length + 1 = 230 := by
  unfold sT5
  have := sT4_len z
  simp only [List.length_append, List.length_cons, List.length_nil, List.length_replicate]
  omega
def sT6 (z : GZ) : List va_E := sT5 z ++ (.inl (gcy z 28, 4, .inr (.inr (.inr (.inr (fun i => if i < 4 then some (gad z (230 + 1 + i)) else none))))) :: List.replicate 4 (.inl (gcy z 20, 64, .inl (fun _ => 0))))
theorem sT6_len (z : GZ) : (sT6 z).length + 1 = 235 := by
  unfold sT6
  have := sT5_len z
  simp only [List.length_append, List.length_cons, List.length_nil, List.length_replicate]
  omega
def sT7 (z : GZ) : List va_E := sT6 z ++ [.inl (gcy z 22, 4, .inl (upd (upd (upd (upd (fun _ => 0) 0 1) 1 1) 2 1) 3 1))]
theorem sT7_len (z : GZ) : (sT7 z).length + 1 = 236 := by
  unfold sT7
  have := sT6_len z
  simp only [List.length_append, List.length_cons, List.length_nil, List.length_replicate]
  omega
theorem dX11_init_0 : decode cX11_init 0 = .ok (.aload_n 0, 1) := by decide +kernel
theorem dX11_init_1 : decode cX11_init 1 = .ok (.invokespecial 1, 3) := by decide +kernel
theorem dX11_init_4 : decode cX11_init 4 = .ok (.aload_n 0, 1) := by decide +kernel
theorem dX11_init_5 : decode cX11_init 5 = .ok (.new 7, 3) := by decide +kernel
theorem dX11_init_8 : decode cX11_init 8 = .ok (.dup, 1) := by decide +kernel
theorem dX11_init_9 : decode cX11_init 9 = .ok (.invokespecial 9, 3) := by decide +kernel
theorem dX11_init_12 : decode cX11_init 12 = .ok (.putfield 10, 3) := by decide +kernel
theorem dX11_init_15 : decode cX11_init 15 = .ok (.aload_n 0, 1) := by decide +kernel
theorem dX11_init_16 : decode cX11_init 16 = .ok (.bipush 40, 2) := by decide +kernel
theorem dX11_init_18 : decode cX11_init 18 = .ok (.bipush 6, 2) := by decide +kernel
theorem dX11_init_20 : decode cX11_init 20 = .ok (.multianewarray 16 2, 4) := by decide +kernel
theorem dX11_init_24 : decode cX11_init 24 = .ok (.putfield 18, 3) := by decide +kernel
theorem dX11_init_27 : decode cX11_init 27 = .ok (.aload_n 0, 1) := by decide +kernel
theorem dX11_init_28 : decode cX11_init 28 = .ok (.bipush 30, 2) := by decide +kernel
theorem dX11_init_30 : decode cX11_init 30 = .ok (.iconst 4, 1) := by decide +kernel
theorem dX11_init_31 : decode cX11_init 31 = .ok (.multianewarray 16 2, 4) := by decide +kernel
theorem dX11_init_35 : decode cX11_init 35 = .ok (.putfield 21, 3) := by decide +kernel
theorem dX11_init_38 : decode cX11_init 38 = .ok (.aload_n 0, 1) := by decide +kernel
theorem dX11_init_39 : decode cX11_init 39 = .ok (.bipush 30, 2) := by decide +kernel
theorem dX11_init_41 : decode cX11_init 41 = .ok (.iconst 3, 1) := by decide +kernel
theorem dX11_init_42 : decode cX11_init 42 = .ok (.multianewarray 24 2, 4) := by decide +kernel
theorem dX11_init_46 : decode cX11_init 46 = .ok (.putfield 26, 3) := by decide +kernel
theorem dX11_init_49 : decode cX11_init 49 = .ok (.aload_n 0, 1) := by decide +kernel
theorem dX11_init_50 : decode cX11_init 50 = .ok (.iconst 3, 1) := by decide +kernel
theorem dX11_init_51 : decode cX11_init 51 = .ok (.anewarray 29, 3) := by decide +kernel
theorem dX11_init_54 : decode cX11_init 54 = .ok (.dup, 1) := by decide +kernel
theorem dX11_init_55 : decode cX11_init 55 = .ok (.iconst 0, 1) := by decide +kernel
theorem dX11_init_56 : decode cX11_init 56 = .ok (.iconst 4, 1) := by decide +kernel
theorem dX11_init_57 : decode cX11_init 57 = .ok (.newarray .int, 2) := by decide +kernel
theorem dX11_init_59 : decode cX11_init 59 = .ok (.dup, 1) := by decide +kernel
theorem dX11_init_60 : decode cX11_init 60 = .ok (.iconst 0, 1) := by decide +kernel
theorem dX11_init_61 : decode cX11_init 61 = .ok (.sipush 1024, 3) := by decide +kernel
theorem dX11_init_64 : decode cX11_init 64 = .ok (.iastore, 1) := by decide +kernel
theorem dX11_init_65 : decode cX11_init 65 = .ok (.dup, 1) := by decide +kernel
theorem dX11_init_66 : decode cX11_init 66 = .ok (.iconst 1, 1) := by decide +kernel
theorem dX11_init_67 : decode cX11_init 67 = .ok (.iconst 0, 1) := by decide +kernel
theorem dX11_init_68 : decode cX11_init 68 = .ok (.iastore, 1) := by decide +kernel
theorem dX11_init_69 : decode cX11_init 69 = .ok (.dup, 1) := by decide +kernel
theorem dX11_init_70 : decode cX11_init 70 = .ok (.iconst 2, 1) := by decide +kernel
theorem dX11_init_71 : decode cX11_init 71 = .ok (.iconst 0, 1) := by decide +kernel
theorem dX11_init_72 : decode cX11_init 72 = .ok (.iastore, 1) := by decide +kernel
theorem dX11_init_73 : decode cX11_init 73 = .ok (.dup, 1) := by decide +kernel
theorem dX11_init_74 : decode cX11_init 74 = .ok (.iconst 3, 1) := by decide +kernel
theorem dX11_init_75 : decode cX11_init 75 = .ok (.iconst 0, 1) := by decide +kernel
theorem dX11_init_76 : decode cX11_init 76 = .ok (.iastore, 1) := by decide +kernel
theorem dX11_init_77 : decode cX11_init 77 = .ok (.aastore, 1) := by decide +kernel
theorem dX11_init_78 : decode cX11_init 78 = .ok (.dup, 1) := by decide +kernel
theorem dX11_init_79 : decode cX11_init 79 = .ok (.iconst 1, 1) := by decide +kernel
theorem dX11_init_80 : decode cX11_init 80 = .ok (.iconst 4, 1) := by decide +kernel
theorem dX11_init_81 : decode cX11_init 81 = .ok (.newarray .int, 2) := by decide +kernel
theorem dX11_init_83 : decode cX11_init 83 = .ok (.dup, 1) := by decide +kernel
theorem dX11_init_84 : decode cX11_init 84 = .ok (.iconst 0, 1) := by decide +kernel
theorem dX11_init_85 : decode cX11_init 85 = .ok (.iconst 0, 1) := by decide +kernel
theorem dX11_init_86 : decode cX11_init 86 = .ok (.iastore, 1) := by decide +kernel
theorem dX11_init_87 : decode cX11_init 87 = .ok (.dup, 1) := by decide +kernel
theorem dX11_init_88 : decode cX11_init 88 = .ok (.iconst 1, 1) := by decide +kernel
theorem dX11_init_89 : decode cX11_init 89 = .ok (.sipush 1024, 3) := by decide +kernel
theorem dX11_init_92 : decode cX11_init 92 = .ok (.iastore, 1) := by decide +kernel
theorem dX11_init_93 : decode cX11_init 93 = .ok (.dup, 1) := by decide +kernel
theorem dX11_init_94 : decode cX11_init 94 = .ok (.iconst 2, 1) := by decide +kernel
theorem dX11_init_95 : decode cX11_init 95 = .ok (.iconst 0, 1) := by decide +kernel
theorem dX11_init_96 : decode cX11_init 96 = .ok (.iastore, 1) := by decide +kernel
theorem dX11_init_97 : decode cX11_init 97 = .ok (.dup, 1) := by decide +kernel
theorem dX11_init_98 : decode cX11_init 98 = .ok (.iconst 3, 1) := by decide +kernel
theorem dX11_init_99 : decode cX11_init 99 = .ok (.iconst 0, 1) := by decide +kernel
theorem dX11_init_100 : decode cX11_init 100 = .ok (.iastore, 1) := by decide +kernel
theorem dX11_init_101 : decode cX11_init 101 = .ok (.aastore, 1) := by decide +kernel
theorem dX11_init_102 : decode cX11_init 102 = .ok (.dup, 1) := by decide +kernel
theorem dX11_init_103 : decode cX11_init 103 = .ok (.iconst 2, 1) := by decide +kernel
theorem dX11_init_104 : decode cX11_init 104 = .ok (.iconst 4, 1) := by decide +kernel
theorem dX11_init_105 : decode cX11_init 105 = .ok (.newarray .int, 2) := by decide +kernel
theorem dX11_init_107 : decode cX11_init 107 = .ok (.dup, 1) := by decide +kernel
theorem dX11_init_108 : decode cX11_init 108 = .ok (.iconst 0, 1) := by decide +kernel
theorem dX11_init_109 : decode cX11_init 109 = .ok (.iconst 0, 1) := by decide +kernel
theorem dX11_init_110 : decode cX11_init 110 = .ok (.iastore, 1) := by decide +kernel
theorem dX11_init_111 : decode cX11_init 111 = .ok (.dup, 1) := by decide +kernel
theorem dX11_init_112 : decode cX11_init 112 = .ok (.iconst 1, 1) := by decide +kernel
theorem dX11_init_113 : decode cX11_init 113 = .ok (.iconst 0, 1) := by decide +kernel
theorem dX11_init_114 : decode cX11_init 114 = .ok (.iastore, 1) := by decide +kernel
theorem dX11_init_115 : decode cX11_init 115 = .ok (.dup, 1) := by decide +kernel
theorem dX11_init_116 : decode cX11_init 116 = .ok (.iconst 2, 1) := by decide +kernel
theorem dX11_init_117 : decode cX11_init 117 = .ok (.sipush 1024, 3) := by decide +kernel
theorem dX11_init_120 : decode cX11_init 120 = .ok (.iastore, 1) := by decide +kernel
theorem dX11_init_121 : decode cX11_init 121 = .ok (.dup, 1) := by decide +kernel
theorem dX11_init_122 : decode cX11_init 122 = .ok (.iconst 3, 1) := by decide +kernel
theorem dX11_init_123 : decode cX11_init 123 = .ok (.sipush 500, 3) := by decide +kernel
theorem dX11_init_126 : decode cX11_init 126 = .ok (.iastore, 1) := by decide +kernel
theorem dX11_init_127 : decode cX11_init 127 = .ok (.aastore, 1) := by decide +kernel
theorem dX11_init_128 : decode cX11_init 128 = .ok (.putfield 31, 3) := by decide +kernel
theorem dX11_init_131 : decode cX11_init 131 = .ok (.aload_n 0, 1) := by decide +kernel
theorem dX11_init_132 : decode cX11_init 132 = .ok (.iconst 4, 1) := by decide +kernel
theorem dX11_init_133 : decode cX11_init 133 = .ok (.bipush 64, 2) := by decide +kernel
theorem dX11_init_135 : decode cX11_init 135 = .ok (.multianewarray 16 2, 4) := by decide +kernel
theorem dX11_init_139 : decode cX11_init 139 = .ok (.putfield 34, 3) := by decide +kernel
theorem dX11_init_142 : decode cX11_init 142 = .ok (.aload_n 0, 1) := by decide +kernel
theorem dX11_init_143 : decode cX11_init 143 = .ok (.iconst 4, 1) := by decide +kernel
theorem dX11_init_144 : decode cX11_init 144 = .ok (.newarray .boolean, 2) := by decide +kernel
theorem dX11_init_146 : decode cX11_init 146 = .ok (.dup, 1) := by decide +kernel
theorem dX11_init_147 : decode cX11_init 147 = .ok (.iconst 0, 1) := by decide +kernel
theorem dX11_init_148 : decode cX11_init 148 = .ok (.iconst 1, 1) := by decide +kernel
theorem dX11_init_149 : decode cX11_init 149 = .ok (.bastore, 1) := by decide +kernel
theorem dX11_init_150 : decode cX11_init 150 = .ok (.dup, 1) := by decide +kernel
theorem dX11_init_151 : decode cX11_init 151 = .ok (.iconst 1, 1) := by decide +kernel
theorem dX11_init_152 : decode cX11_init 152 = .ok (.iconst 1, 1) := by decide +kernel
theorem dX11_init_153 : decode cX11_init 153 = .ok (.bastore, 1) := by decide +kernel
theorem dX11_init_154 : decode cX11_init 154 = .ok (.dup, 1) := by decide +kernel
theorem dX11_init_155 : decode cX11_init 155 = .ok (.iconst 2, 1) := by decide +kernel
theorem dX11_init_156 : decode cX11_init 156 = .ok (.iconst 1, 1) := by decide +kernel
theorem dX11_init_157 : decode cX11_init 157 = .ok (.bastore, 1) := by decide +kernel
theorem dX11_init_158 : decode cX11_init 158 = .ok (.dup, 1) := by decide +kernel
theorem dX11_init_159 : decode cX11_init 159 = .ok (.iconst 3, 1) := by decide +kernel
theorem dX11_init_160 : decode cX11_init 160 = .ok (.iconst 1, 1) := by decide +kernel
theorem dX11_init_161 : decode cX11_init 161 = .ok (.bastore, 1) := by decide +kernel
theorem dX11_init_162 : decode cX11_init 162 = .ok (.putfield 37, 3) := by decide +kernel
theorem dX11_init_165 : decode cX11_init 165 = .ok (.aload_n 0, 1) := by decide +kernel
theorem dX11_init_166 : decode cX11_init 166 = .ok (.bipush 100, 2) := by decide +kernel
theorem dX11_init_168 : decode cX11_init 168 = .ok (.putfield 41, 3) := by decide +kernel
theorem dX11_init_171 : decode cX11_init 171 = .ok (.aload_n 0, 1) := by decide +kernel
theorem dX11_init_172 : decode cX11_init 172 = .ok (.bipush 40, 2) := by decide +kernel
theorem dX11_init_174 : decode cX11_init 174 = .ok (.putfield 45, 3) := by decide +kernel
theorem dX11_init_177 : decode cX11_init 177 = .ok (.aload_n 0, 1) := by decide +kernel
theorem dX11_init_178 : decode cX11_init 178 = .ok (.aload_n 1, 1) := by decide +kernel
theorem dX11_init_179 : decode cX11_init 179 = .ok (.putfield 48, 3) := by decide +kernel
theorem dX11_init_182 : decode cX11_init 182 = .ok (.aload_n 0, 1) := by decide +kernel
theorem dX11_init_183 : decode cX11_init 183 = .ok (.iload_n 2, 1) := by decide +kernel
theorem dX11_init_184 : decode cX11_init 184 = .ok (.putfield 51, 3) := by decide +kernel
theorem dX11_init_187 : decode cX11_init 187 = .ok (.return_, 1) := by decide +kernel
set_option maxHeartbeats 4000000 in
set_option maxRecDepth 100000 in
theorem dm_X11_init (l : Launch) (z : GZ) (i1 : Int32) : dMet l z yX11_init cX11_init 3 5 [.ref (gad z 0), .ref (gsa z), .int i1] [.inr (11, [.null, .null, .int 0, .int 0, .int 0, .null, .null, .null, .null, .null, .null, .int 0, .int 0, .int 0])] (.inr (11, [.ref (gad z (1 + 0)), .ref (gsa z), .int i1, .int 0, .int 0, .ref (gad z 123), .ref (gad z 164), .ref (gad z 195), .ref (gad z 226), .ref (gad z 230), .ref (gad z 235), .int 100, .int 40, .int 0]) :: (sT7 z ++ [])) 235 12579 := by
  refine dMet_of (by decide +kernel) (Nat.le_of_ble_eq_true rfl) (fun x X ez el hnm hR => ?_)
  subst ez; subst el
  have hin : (xmeth x).name = "<init>" := hnm
  show WD x 0 0 [.inr (11, [.null, .null, .int 0, .int 0, .int 0, .null, .null, .null, .null, .null, .null, .int 0, .int 0, .int 0])] [(0, .ref (gad (xz x) 0)), (1, .ref (gsa (xz x))), (2, .int i1)] 0 []
  refine d_aload_n X (j := 0) dX11_init_0 rfl rfl ?_
  refine d_objInit X (by decide) (Nat.le_of_ble_eq_true rfl) q_473 q_75 q_obj dX11_init_1 ?_
  refine d_aload_n X (j := 0) dX11_init_4 rfl rfl ?_
  refine d_new X (t := 10) (fs := [.null, .null, .null, .null, .null, .null, .null, .null, .null, .null, .null, .null, .int 0, .int 0, .int 0]) (es2 := [.inr (11, [.null, .null, .int 0, .int 0, .int 0, .null, .null, .null, .null, .null, .null, .int 0, .int 0, .int 0])] ++ [.inr (10, [.null, .null, .null, .null, .null, .null, .null, .null, .null, .null, .null, .null, .int 0, .int 0, .int 0])]) (a := 1 + 0) rfl inX10 tyX10_ok q_474 q_44 q_17 fr_X10 (by decide) (by decide) rfl rfl dX11_init_5 ?_
  refine d_cs (c2 := 1) (s2 := 15) rfl rfl ?_
  refine d_dup X dX11_init_8 rfl ?_
  refine d_call X (As := []) (n := 0) (host := "") (es1 := [.inr (11, [.null, .null, .int 0, .int 0, .int 0, .null, .null, .null, .null, .null, .null, .int 0, .int 0, .int 0])] ++ [.inr (10, [.null, .null, .null, .null, .null, .null, .null, .null, .null, .null, .null, .null, .int 0, .int 0, .int 0])]) rfl (dm_X10_init (xl x) (xz x) [.inr (11, [.null, .null, .int 0, .int 0, .int 0, .null, .null, .null, .null, .null, .null, .int 0, .int 0, .int 0])] 1 rfl) (Or.inl q_475) rfl q_476 q_17 q_477 (by decide +kernel) rfl (by decide) (by decide) (Nat.le_of_ble_eq_true rfl) (Nat.le_of_ble_eq_true rfl) (Nat.le_of_ble_eq_true rfl) dX11_init_9 ?_
  refine d_es (es2 := (.inr (11, [.null, .null, .int 0, .int 0, .int 0, .null, .null, .null, .null, .null, .null, .int 0, .int 0, .int 0]) :: (sT1 (xz x) ++ []))) (by rw [List.append_nil]; rfl) ?_
  refine d_cs (c2 := 122) (s2 := 11750) rfl rfl ?_
  refine d_put X (g := 0) (k := 0) (es2 := (.inr (11, [.ref (gad (xz x) (1 + 0)), .null, .int 0, .int 0, .int 0, .null, .null, .null, .null, .null, .null, .int 0, .int 0, .int 0]) :: (sT1 (xz x) ++ []))) rfl rfl rfl inX11 tyX11_ok nmX11 (by decide) q_825 rfl (Or.inr ⟨rfl, hin, rfl⟩) (tyX11_ok 0 (by decide)) rfl rfl (Nat.le_of_ble_eq_true rfl) dX11_init_12 ?_
  refine d_aload_n X (j := 0) dX11_init_15 rfl rfl ?_
  refine d_bipush X (v := 40) dX11_init_16 (by decide) ?_
  refine d_bipush X (v := 6) dX11_init_18 (by decide) ?_
  refine d_mna X (N := 40) (K := 6) q_820 q_ac20 X.2.2.2.2.2.2.1.2.2.1.2.2.2.2.2.1 (by decide) (by decide) (by decide +kernel) (by decide +kernel) (by decide) (by decide +kernel) (by decide) (Nat.le_of_ble_eq_true rfl) (Nat.le_of_ble_eq_true rfl) (a := 123) (by simp only [List.length_cons, List.length_append, List.length_nil]; have := sT1_len (xz x); omega) (es2 := (.inr (11, [.ref (gad (xz x) (1 + 0)), .null, .int 0, .int 0, .int 0, .null, .null, .null, .null, .null, .null, .int 0, .int 0, .int 0]) :: (sT1 (xz x) ++ (.inl (gcy (xz x) 28, 40, .inr (.inr (.inr (.inr (fun i => if i < 40 then some (gad (xz x) (123 + 1 + i)) else none))))) :: List.replicate 40 (.inl (gcy (xz x) 20, 6, .inl (fun _ => 0))))))) (by rw [List.append_nil]; rfl) dX11_init_20 ?_
  refine d_cs (c2 := 163) (s2 := 12030) rfl rfl ?_
  refine d_put X (g := 0) (k := 5) (es2 := (.inr (11, [.ref (gad (xz x) (1 + 0)), .null, .int 0, .int 0, .int 0, .ref (gad (xz x) 123), .null, .null, .null, .null, .null, .int 0, .int 0, .int 0]) :: (sT1 (xz x) ++ (.inl (gcy (xz x) 28, 40, .inr (.inr (.inr (.inr (fun i => if i < 40 then some (gad (xz x) (123 + 1 + i)) else none))))) :: List.replicate 40 (.inl (gcy (xz x) 20, 6, .inl (fun _ => 0))))))) rfl rfl rfl inX11 tyX11_ok nmX11 (by decide) q_833 rfl (Or.inr ⟨rfl, hin, rfl⟩) (tyX11_ok 5 (by decide)) rfl rfl (Nat.le_of_ble_eq_true rfl) dX11_init_24 ?_
  refine d_es (es2 := (.inr (11, [.ref (gad (xz x) (1 + 0)), .null, .int 0, .int 0, .int 0, .ref (gad (xz x) 123), .null, .null, .null, .null, .null, .int 0, .int 0, .int 0]) :: (sT2 (xz x) ++ []))) (by rw [List.append_nil]; rfl) ?_
  refine d_aload_n X (j := 0) dX11_init_27 rfl rfl ?_
  refine d_bipush X (v := 30) dX11_init_28 (by decide) ?_
  refine d_iconst X (v := 4) dX11_init_30 (by decide) ?_
  refine d_mna X (N := 30) (K := 4) q_820 q_ac20 X.2.2.2.2.2.2.1.2.2.1.2.2.2.2.2.1 (by decide) (by decide) (by decide +kernel) (by decide +kernel) (by decide) (by decide +kernel) (by decide) (Nat.le_of_ble_eq_true rfl) (Nat.le_of_ble_eq_true rfl) (a := 164) (by simp only [List.length_cons, List.length_append, List.length_nil]; have := sT2_len (xz x); omega) (es2 := (.inr (11, [.ref (gad (xz x) (1 + 0)), .null, .int 0, .int 0, .int 0, .ref (gad (xz x) 123), .null, .null, .null, .null, .null, .int 0, .int 0, .int 0]) :: (sT2 (xz x) ++ (.inl (gcy (xz x) 28, 30, .inr (.inr (.inr (.inr (fun i => if i < 30 then some (gad (xz x) (164 + 1 + i)) else none))))) :: List.replicate 30 (.inl (gcy (xz x) 20, 4, .inl (fun _ => 0))))))) (by rw [List.append_nil]; rfl) dX11_init_31 ?_
  refine d_cs (c2 := 194) (s2 := 12180) rfl rfl ?_
  refine d_put X (g := 0) (k := 6) (es2 := (.inr (11, [.ref (gad (xz x) (1 + 0)), .null, .int 0, .int 0, .int 0, .ref (gad (xz x) 123), .ref (gad (xz x) 164), .null, .null, .null, .null, .int 0, .int 0, .int 0]) :: (sT2 (xz x) ++ (.inl (gcy (xz x) 28, 30, .inr (.inr (.inr (.inr (fun i => if i < 30 then some (gad (xz x) (164 + 1 + i)) else none))))) :: List.replicate 30 (.inl (gcy (xz x) 20, 4, .inl (fun _ => 0))))))) rfl rfl rfl inX11 tyX11_ok nmX11 (by decide) q_835 rfl (Or.inr ⟨rfl, hin, rfl⟩) (tyX11_ok 6 (by decide)) rfl rfl (Nat.le_of_ble_eq_true rfl) dX11_init_35 ?_
  refine d_es (es2 := (.inr (11, [.ref (gad (xz x) (1 + 0)), .null, .int 0, .int 0, .int 0, .ref (gad (xz x) 123), .ref (gad (xz x) 164), .null, .null, .null, .null, .int 0, .int 0, .int 0]) :: (sT3 (xz x) ++ []))) (by rw [List.append_nil]; rfl) ?_
  refine d_aload_n X (j := 0) dX11_init_38 rfl rfl ?_
  refine d_bipush X (v := 30) dX11_init_39 (by decide) ?_
  refine d_iconst X (v := 3) dX11_init_41 (by decide) ?_
  refine d_mnaZ X (N := 30) (K := 3) q_822 q_ac22 X.2.2.2.2.2.2.1.2.2.1.2.2.2.2.2.2 (by decide) (by decide) (by decide +kernel) (by decide +kernel) (by decide) (by decide +kernel) (by decide) (Nat.le_of_ble_eq_true rfl) (Nat.le_of_ble_eq_true rfl) (a := 195) (by simp only [List.length_cons, List.length_append, List.length_nil]; have := sT3_len (xz x); omega) (es2 := (.inr (11, [.ref (gad (xz x) (1 + 0)), .null, .int 0, .int 0, .int 0, .ref (gad (xz x) 123), .ref (gad (xz x) 164), .null, .null, .null, .null, .int 0, .int 0, .int 0]) :: (sT3 (xz x) ++ (.inl (gcy (xz x) 29, 30, .inr (.inr (.inr (.inr (fun i => if i < 30 then some (gad (xz x) (195 + 1 + i)) else none))))) :: List.replicate 30 (.inl (gcy (xz x) 22, 3, .inl (fun _ => 0))))))) (by rw [List.append_nil]; rfl) dX11_init_42 ?_
  refine d_cs (c2 := 225) (s2 := 12300) rfl rfl ?_
  refine d_put X (g := 0) (k := 7) (es2 := (.inr (11, [.ref (gad (xz x) (1 + 0)), .null, .int 0, .int 0, .int 0, .ref (gad (xz x) 123), .ref (gad (xz x) 164), .ref (gad (xz x) 195), .null, .null, .null, .int 0, .int 0, .int 0]) :: (sT3 (xz x) ++ (.inl (gcy (xz x) 29, 30, .inr (.inr (.inr (.inr (fun i => if i < 30 then some (gad (xz x) (195 + 1 + i)) else none))))) :: List.replicate 30 (.inl (gcy (xz x) 22, 3, .inl (fun _ => 0))))))) rfl rfl rfl inX11 tyX11_ok nmX11 (by decide) q_836 rfl (Or.inr ⟨rfl, hin, rfl⟩) (tyX11_ok 7 (by decide)) rfl rfl (Nat.le_of_ble_eq_true rfl) dX11_init_46 ?_
  refine d_es (es2 := (.inr (11, [.ref (gad (xz x) (1 + 0)), .null, .int 0, .int 0, .int 0, .ref (gad (xz x) 123), .ref (gad (xz x) 164), .ref (gad (xz x) 195), .null, .null, .null, .int 0, .int 0, .int 0]) :: (sT4 (xz x) ++ []))) (by rw [List.append_nil]; rfl) ?_
  refine d_aload_n X (j := 0) dX11_init_49 rfl rfl ?_
  refine d_iconst X (v := 3) dX11_init_50 (by decide) ?_
  refine d_anewA X (N := 3) (es2 := (.inr (11, [.ref (gad (xz x) (1 + 0)), .null, .int 0, .int 0, .int 0, .ref (gad (xz x) 123), .ref (gad (xz x) 164), .ref (gad (xz x) 195), .null, .null, .null, .int 0, .int 0, .int 0]) :: (sT4 (xz x) ++ [.inl (gcy (xz x) 28, 3, .inr (.inr (.inr (.inr (fun _ => none)))))]))) (a := 226) q_824 X.2.2.2.2.2.2.1.2.2.1.2.2.2.2.2.1 (by decide) (by decide +kernel) (Nat.le_of_ble_eq_true rfl) (Nat.le_of_ble_eq_true rfl) (Nat.le_of_ble_eq_true rfl) (by simp only [List.cons_append, List.append_assoc, List.nil_append]) (by simp only [List.length_cons, List.length_append, List.length_nil]; have := sT4_len (xz x); omega) dX11_init_51 ?_
  refine d_cs (c2 := 226) (s2 := 12303) rfl rfl ?_
  refine d_dup X dX11_init_54 rfl ?_
  refine d_iconst X (v := 0) dX11_init_55 (by decide) ?_
  refine d_iconst X (v := 4) dX11_init_56 (by decide) ?_
  refine d_newarr X (tag := 20) (atype := .int) (ty := .int) (a0 := (4, .inl (fun _ => 0))) (N := 4) (es2 := (.inr (11, [.ref (gad (xz x) (1 + 0)), .null, .int 0, .int 0, .int 0, .ref (gad (xz x) 123), .ref (gad (xz x) 164), .ref (gad (xz x) 195), .null, .null, .null, .int 0, .int 0, .int 0]) :: (sT4 (xz x) ++ [.inl (gcy (xz x) 28, 3, .inr (.inr (.inr (.inr (fun _ => none))))), .inl (gcy (xz x) 20, 4, .inl (fun _ => 0))]))) (a := 227) rfl rfl (fun h => h) q_ac20 (by rfl) (by decide) (by decide +kernel) (Nat.le_of_ble_eq_true rfl) (Nat.le_of_ble_eq_true rfl) (Nat.le_of_ble_eq_true rfl) (by simp only [List.cons_append, List.append_assoc, List.nil_append]) (by simp only [List.length_cons, List.length_append, List.length_nil]; have := sT4_len (xz x); omega) dX11_init_57 ?_
  refine d_cs (c2 := 227) (s2 := 12307) rfl rfl ?_
  refine d_dup X dX11_init_59 rfl ?_
  refine d_iconst X (v := 0) dX11_init_60 (by decide) ?_
  refine d_sipush X (v := 1024) dX11_init_61 (by decide) ?_
  refine d_iast X (g := 227) (f2 := upd (fun _ => 0) 0 1024) (es2 := (.inr (11, [.ref (gad (xz x) (1 + 0)), .null, .int 0, .int 0, .int 0, .ref (gad (xz x) 123), .ref (gad (xz x) 164), .ref (gad (xz x) 195), .null, .null, .null, .int 0, .int 0, .int 0]) :: (sT4 (xz x) ++ [.inl (gcy (xz x) 28, 3, .inr (.inr (.inr (.inr (fun _ => none))))), .inl (gcy (xz x) 20, 4, .inl (upd (fun _ => 0) 0 1024))]))) (dg1 (sT4_len (xz x)) 1 rfl) (by decide +kernel) (by rw [show Int32.toNatClampNeg 0 = 0 by decide +kernel]) (ds1 (sT4_len (xz x)) 1 rfl) dX11_init_64 ?_
  refine d_dup X dX11_init_65 rfl ?_
  refine d_iconst X (v := 1) dX11_init_66 (by decide) ?_
  refine d_iconst X (v := 0) dX11_init_67 (by decide) ?_
  refine d_iast X (g := 227) (f2 := upd (upd (fun _ => 0) 0 1024) 1 0) (es2 := (.inr (11, [.ref (gad (xz x) (1 + 0)), .null, .int 0, .int 0, .int 0, .ref (gad (xz x) 123), .ref (gad (xz x) 164), .ref (gad (xz x) 195), .null, .null, .null, .int 0, .int 0, .int 0]) :: (sT4 (xz x) ++ [.inl (gcy (xz x) 28, 3, .inr (.inr (.inr (.inr (fun _ => none))))), .inl (gcy (xz x) 20, 4, .inl (upd (upd (fun _ => 0) 0 1024) 1 0))]))) (dg1 (sT4_len (xz x)) 1 rfl) (by decide +kernel) (by rw [show Int32.toNatClampNeg 1 = 1 by decide +kernel]) (ds1 (sT4_len (xz x)) 1 rfl) dX11_init_68 ?_
  refine d_dup X dX11_init_69 rfl ?_
  refine d_iconst X (v := 2) dX11_init_70 (by decide) ?_
  refine d_iconst X (v := 0) dX11_init_71 (by decide) ?_
  refine d_iast X (g := 227) (f2 := upd (upd (upd (fun _ => 0) 0 1024) 1 0) 2 0) (es2 := (.inr (11, [.ref (gad (xz x) (1 + 0)), .null, .int 0, .int 0, .int 0, .ref (gad (xz x) 123), .ref (gad (xz x) 164), .ref (gad (xz x) 195), .null, .null, .null, .int 0, .int 0, .int 0]) :: (sT4 (xz x) ++ [.inl (gcy (xz x) 28, 3, .inr (.inr (.inr (.inr (fun _ => none))))), .inl (gcy (xz x) 20, 4, .inl (upd (upd (upd (fun _ => 0) 0 1024) 1 0) 2 0))]))) (dg1 (sT4_len (xz x)) 1 rfl) (by decide +kernel) (by rw [show Int32.toNatClampNeg 2 = 2 by decide +kernel]) (ds1 (sT4_len (xz x)) 1 rfl) dX11_init_72 ?_
  refine d_dup X dX11_init_73 rfl ?_
  refine d_iconst X (v := 3) dX11_init_74 (by decide) ?_
  refine d_iconst X (v := 0) dX11_init_75 (by decide) ?_
  refine d_iast X (g := 227) (f2 := upd (upd (upd (upd (fun _ => 0) 0 1024) 1 0) 2 0) 3 0) (es2 := (.inr (11, [.ref (gad (xz x) (1 + 0)), .null, .int 0, .int 0, .int 0, .ref (gad (xz x) 123), .ref (gad (xz x) 164), .ref (gad (xz x) 195), .null, .null, .null, .int 0, .int 0, .int 0]) :: (sT4 (xz x) ++ [.inl (gcy (xz x) 28, 3, .inr (.inr (.inr (.inr (fun _ => none))))), .inl (gcy (xz x) 20, 4, .inl (upd (upd (upd (upd (fun _ => 0) 0 1024) 1 0) 2 0) 3 0))]))) (dg1 (sT4_len (xz x)) 1 rfl) (by decide +kernel) (by rw [show Int32.toNatClampNeg 3 = 3 by decide +kernel]) (ds1 (sT4_len (xz x)) 1 rfl) dX11_init_76 ?_
  refine d_aastA X (g := 226) (v := 227) (f2 := va_up (fun _ => none) 0 (some (gad (xz x) 227))) (es2 := (.inr (11, [.ref (gad (xz x) (1 + 0)), .null, .int 0, .int 0, .int 0, .ref (gad (xz x) 123), .ref (gad (xz x) 164), .ref (gad (xz x) 195), .null, .null, .null, .int 0, .int 0, .int 0]) :: (sT4 (xz x) ++ [.inl (gcy (xz x) 28, 3, .inr (.inr (.inr (.inr (va_up (fun _ => none) 0 (some (gad (xz x) 227))))))), .inl (gcy (xz x) 20, 4, .inl (upd (upd (upd (upd (fun _ => 0) 0 1024) 1 0) 2 0) 3 0))]))) (dg1 (sT4_len (xz x)) 0 rfl) (dg1 (sT4_len (xz x)) 1 rfl) (by decide +kernel) (by rw [show Int32.toNatClampNeg 0 = 0 by decide +kernel]) (ds1 (sT4_len (xz x)) 0 rfl) dX11_init_77 ?_
  refine d_dup X dX11_init_78 rfl ?_
  refine d_iconst X (v := 1) dX11_init_79 (by decide) ?_
  refine d_iconst X (v := 4) dX11_init_80 (by decide) ?_
  refine d_newarr X (tag := 20) (atype := .int) (ty := .int) (a0 := (4, .inl (fun _ => 0))) (N := 4) (es2 := (.inr (11, [.ref (gad (xz x) (1 + 0)), .null, .int 0, .int 0, .int 0, .ref (gad (xz x) 123), .ref (gad (xz x) 164), .ref (gad (xz x) 195), .null, .null, .null, .int 0, .int 0, .int 0]) :: (sT4 (xz x) ++ [.inl (gcy (xz x) 28, 3, .inr (.inr (.inr (.inr (va_up (fun _ => none) 0 (some (gad (xz x) 227))))))), .inl (gcy (xz x) 20, 4, .inl (upd (upd (upd (upd (fun _ => 0) 0 1024) 1 0) 2 0) 3 0)), .inl (gcy (xz x) 20, 4, .inl (fun _ => 0))]))) (a := 228) rfl rfl (fun h => h) q_ac20 (by rfl) (by decide) (by decide +kernel) (Nat.le_of_ble_eq_true rfl) (Nat.le_of_ble_eq_true rfl) (Nat.le_of_ble_eq_true rfl) (by simp only [List.cons_append, List.append_assoc, List.nil_append]) (by simp only [List.length_cons, List.length_append, List.length_nil]; have := sT4_len (xz x); omega) dX11_init_81 ?_
  refine d_cs (c2 := 228) (s2 := 12311) rfl rfl ?_
  refine d_dup X dX11_init_83 rfl ?_
  refine d_iconst X (v := 0) dX11_init_84 (by decide) ?_
  refine d_iconst X (v := 0) dX11_init_85 (by decide) ?_
  refine d_iast X (g := 228) (f2 := upd (fun _ => 0) 0 0) (es2 := (.inr (11, [.ref (gad (xz x) (1 + 0)), .null, .int 0, .int 0, .int 0, .ref (gad (xz x) 123), .ref (gad (xz x) 164), .ref (gad (xz x) 195), .null, .null, .null, .int 0, .int 0, .int 0]) :: (sT4 (xz x) ++ [.inl (gcy (xz x) 28, 3, .inr (.inr (.inr (.inr (va_up (fun _ => none) 0 (some (gad (xz x) 227))))))), .inl (gcy (xz x) 20, 4, .inl (upd (upd (upd (upd (fun _ => 0) 0 1024) 1 0) 2 0) 3 0)), .inl (gcy (xz x) 20, 4, .inl (upd (fun _ => 0) 0 0))]))) (dg1 (sT4_len (xz x)) 2 rfl) (by decide +kernel) (by rw [show Int32.toNatClampNeg 0 = 0 by decide +kernel]) (ds1 (sT4_len (xz x)) 2 rfl) dX11_init_86 ?_
  refine d_dup X dX11_init_87 rfl ?_
  refine d_iconst X (v := 1) dX11_init_88 (by decide) ?_
  refine d_sipush X (v := 1024) dX11_init_89 (by decide) ?_
  refine d_iast X (g := 228) (f2 := upd (upd (fun _ => 0) 0 0) 1 1024) (es2 := (.inr (11, [.ref (gad (xz x) (1 + 0)), .null, .int 0, .int 0, .int 0, .ref (gad (xz x) 123), .ref (gad (xz x) 164), .ref (gad (xz x) 195), .null, .null, .null, .int 0, .int 0, .int 0]) :: (sT4 (xz x) ++ [.inl (gcy (xz x) 28, 3, .inr (.inr (.inr (.inr (va_up (fun _ => none) 0 (some (gad (xz x) 227))))))), .inl (gcy (xz x) 20, 4, .inl (upd (upd (upd (upd (fun _ => 0) 0 1024) 1 0) 2 0) 3 0)), .inl (gcy (xz x) 20, 4, .inl (upd (upd (fun _ => 0) 0 0) 1 1024))]))) (dg1 (sT4_len (xz x)) 2 rfl) (by decide +kernel) (by rw [show Int32.toNatClampNeg 1 = 1 by decide +kernel]) (ds1 (sT4_len (xz x)) 2 rfl) dX11_init_92 ?_
  refine d_dup X dX11_init_93 rfl ?_
  refine d_iconst X (v := 2) dX11_init_94 (by decide) ?_
  refine d_iconst X (v := 0) dX11_init_95 (by decide) ?_
  refine d_iast X (g := 228) (f2 := upd (upd (upd (fun _ => 0) 0 0) 1 1024) 2 0) (es2 := (.inr (11, [.ref (gad (xz x) (1 + 0)), .null, .int 0, .int 0, .int 0, .ref (gad (xz x) 123), .ref (gad (xz x) 164), .ref (gad (xz x) 195), .null, .null, .null, .int 0, .int 0, .int 0]) :: (sT4 (xz x) ++ [.inl (gcy (xz x) 28, 3, .inr (.inr (.inr (.inr (va_up (fun _ => none) 0 (some (gad (xz x) 227))))))), .inl (gcy (xz x) 20, 4, .inl (upd (upd (upd (upd (fun _ => 0) 0 1024) 1 0) 2 0) 3 0)), .inl (gcy (xz x) 20, 4, .inl (upd (upd (upd (fun _ => 0) 0 0) 1 1024) 2 0))]))) (dg1 (sT4_len (xz x)) 2 rfl) (by decide +kernel) (by rw [show Int32.toNatClampNeg 2 = 2 by decide +kernel]) (ds1 (sT4_len (xz x)) 2 rfl) dX11_init_96 ?_
  refine d_dup X dX11_init_97 rfl ?_
  refine d_iconst X (v := 3) dX11_init_98 (by decide) ?_
  refine d_iconst X (v := 0) dX11_init_99 (by decide) ?_
  refine d_iast X (g := 228) (f2 := upd (upd (upd (upd (fun _ => 0) 0 0) 1 1024) 2 0) 3 0) (es2 := (.inr (11, [.ref (gad (xz x) (1 + 0)), .null, .int 0, .int 0, .int 0, .ref (gad (xz x) 123), .ref (gad (xz x) 164), .ref (gad (xz x) 195), .null, .null, .null, .int 0, .int 0, .int 0]) :: (sT4 (xz x) ++ [.inl (gcy (xz x) 28, 3, .inr (.inr (.inr (.inr (va_up (fun _ => none) 0 (some (gad (xz x) 227))))))), .inl (gcy (xz x) 20, 4, .inl (upd (upd (upd (upd (fun _ => 0) 0 1024) 1 0) 2 0) 3 0)), .inl (gcy (xz x) 20, 4, .inl (upd (upd (upd (upd (fun _ => 0) 0 0) 1 1024) 2 0) 3 0))]))) (dg1 (sT4_len (xz x)) 2 rfl) (by decide +kernel) (by rw [show Int32.toNatClampNeg 3 = 3 by decide +kernel]) (ds1 (sT4_len (xz x)) 2 rfl) dX11_init_100 ?_
  refine d_aastA X (g := 226) (v := 228) (f2 := va_up (va_up (fun _ => none) 0 (some (gad (xz x) 227))) 1 (some (gad (xz x) 228))) (es2 := (.inr (11, [.ref (gad (xz x) (1 + 0)), .null, .int 0, .int 0, .int 0, .ref (gad (xz x) 123), .ref (gad (xz x) 164), .ref (gad (xz x) 195), .null, .null, .null, .int 0, .int 0, .int 0]) :: (sT4 (xz x) ++ [.inl (gcy (xz x) 28, 3, .inr (.inr (.inr (.inr (va_up (va_up (fun _ => none) 0 (some (gad (xz x) 227))) 1 (some (gad (xz x) 228))))))), .inl (gcy (xz x) 20, 4, .inl (upd (upd (upd (upd (fun _ => 0) 0 1024) 1 0) 2 0) 3 0)), .inl (gcy (xz x) 20, 4, .inl (upd (upd (upd (upd (fun _ => 0) 0 0) 1 1024) 2 0) 3 0))]))) (dg1 (sT4_len (xz x)) 0 rfl) (dg1 (sT4_len (xz x)) 2 rfl) (by decide +kernel) (by rw [show Int32.toNatClampNeg 1 = 1 by decide +kernel]) (ds1 (sT4_len (xz x)) 0 rfl) dX11_init_101 ?_
  refine d_dup X dX11_init_102 rfl ?_
  refine d_iconst X (v := 2) dX11_init_103 (by decide) ?_
  refine d_iconst X (v := 4) dX11_init_104 (by decide) ?_
  refine d_newarr X (tag := 20) (atype := .int) (ty := .int) (a0 := (4, .inl (fun _ => 0))) (N := 4) (es2 := (.inr (11, [.ref (gad (xz x) (1 + 0)), .null, .int 0, .int 0, .int 0, .ref (gad (xz x) 123), .ref (gad (xz x) 164), .ref (gad (xz x) 195), .null, .null, .null, .int 0, .int 0, .int 0]) :: (sT4 (xz x) ++ [.inl (gcy (xz x) 28, 3, .inr (.inr (.inr (.inr (va_up (va_up (fun _ => none) 0 (some (gad (xz x) 227))) 1 (some (gad (xz x) 228))))))), .inl (gcy (xz x) 20, 4, .inl (upd (upd (upd (upd (fun _ => 0) 0 1024) 1 0) 2 0) 3 0)), .inl (gcy (xz x) 20, 4, .inl (upd (upd (upd (upd (fun _ => 0) 0 0) 1 1024) 2 0) 3 0)), .inl (gcy (xz x) 20, 4, .inl (fun _ => 0))]))) (a := 229) rfl rfl (fun h => h) q_ac20 (by rfl) (by decide) (by decide +kernel) (Nat.le_of_ble_eq_true rfl) (Nat.le_of_ble_eq_true rfl) (Nat.le_of_ble_eq_true rfl) (by simp only [List.cons_append, List.append_assoc, List.nil_append]) (by simp only [List.length_cons, List.length_append, List.length_nil]; have := sT4_len (xz x); omega) dX11_init_105 ?_
  refine d_cs (c2 := 229) (s2 := 12315) rfl rfl ?_
  refine d_dup X dX11_init_107 rfl ?_
  refine d_iconst X (v := 0) dX11_init_108 (by decide) ?_
  refine d_iconst X (v := 0) dX11_init_109 (by decide) ?_
  refine d_iast X (g := 229) (f2 := upd (fun _ => 0) 0 0) (es2 := (.inr (11, [.ref (gad (xz x) (1 + 0)), .null, .int 0, .int 0, .int 0, .ref (gad (xz x) 123), .ref (gad (xz x) 164), .ref (gad (xz x) 195), .null, .null, .null, .int 0, .int 0, .int 0]) :: (sT4 (xz x) ++ [.inl (gcy (xz x) 28, 3, .inr (.inr (.inr (.inr (va_up (va_up (fun _ => none) 0 (some (gad (xz x) 227))) 1 (some (gad (xz x) 228))))))), .inl (gcy (xz x) 20, 4, .inl (upd (upd (upd (upd (fun _ => 0) 0 1024) 1 0) 2 0) 3 0)), .inl (gcy (xz x) 20, 4, .inl (upd (upd (upd (upd (fun _ => 0) 0 0) 1 1024) 2 0) 3 0)), .inl (gcy (xz x) 20, 4, .inl (upd (fun _ => 0) 0 0))]))) (dg1 (sT4_len (xz x)) 3 rfl) (by decide +kernel) (by rw [show Int32.toNatClampNeg 0 = 0 by decide +kernel]) (ds1 (sT4_len (xz x)) 3 rfl) dX11_init_110 ?_
  refine d_dup X dX11_init_111 rfl ?_
  refine d_iconst X (v := 1) dX11_init_112 (by decide) ?_
  refine d_iconst X (v := 0) dX11_init_113 (by decide) ?_
  refine d_iast X (g := 229) (f2 := upd (upd (fun _ => 0) 0 0) 1 0) (es2 := (.inr (11, [.ref (gad (xz x) (1 + 0)), .null, .int 0, .int 0, .int 0, .ref (gad (xz x) 123), .ref (gad (xz x) 164), .ref (gad (xz x) 195), .null, .null, .null, .int 0, .int 0, .int 0]) :: (sT4 (xz x) ++ [.inl (gcy (xz x) 28, 3, .inr (.inr (.inr (.inr (va_up (va_up (fun _ => none) 0 (some (gad (xz x) 227))) 1 (some (gad (xz x) 228))))))), .inl (gcy (xz x) 20, 4, .inl (upd (upd (upd (upd (fun _ => 0) 0 1024) 1 0) 2 0) 3 0)), .inl (gcy (xz x) 20, 4, .inl (upd (upd (upd (upd (fun _ => 0) 0 0) 1 1024) 2 0) 3 0)), .inl (gcy (xz x) 20, 4, .inl (upd (upd (fun _ => 0) 0 0) 1 0))]))) (dg1 (sT4_len (xz x)) 3 rfl) (by decide +kernel) (by rw [show Int32.toNatClampNeg 1 = 1 by decide +kernel]) (ds1 (sT4_len (xz x)) 3 rfl) dX11_init_114 ?_
  refine d_dup X dX11_init_115 rfl ?_
  refine d_iconst X (v := 2) dX11_init_116 (by decide) ?_
  refine d_sipush X (v := 1024) dX11_init_117 (by decide) ?_
  refine d_iast X (g := 229) (f2 := upd (upd (upd (fun _ => 0) 0 0) 1 0) 2 1024) (es2 := (.inr (11, [.ref (gad (xz x) (1 + 0)), .null, .int 0, .int 0, .int 0, .ref (gad (xz x) 123), .ref (gad (xz x) 164), .ref (gad (xz x) 195), .null, .null, .null, .int 0, .int 0, .int 0]) :: (sT4 (xz x) ++ [.inl (gcy (xz x) 28, 3, .inr (.inr (.inr (.inr (va_up (va_up (fun _ => none) 0 (some (gad (xz x) 227))) 1 (some (gad (xz x) 228))))))), .inl (gcy (xz x) 20, 4, .inl (upd (upd (upd (upd (fun _ => 0) 0 1024) 1 0) 2 0) 3 0)), .inl (gcy (xz x) 20, 4, .inl (upd (upd (upd (upd (fun _ => 0) 0 0) 1 1024) 2 0) 3 0)), .inl (gcy (xz x) 20, 4, .inl (upd (upd (upd (fun _ => 0) 0 0) 1 0) 2 1024))]))) (dg1 (sT4_len (xz x)) 3 rfl) (by decide +kernel) (by rw [show Int32.toNatClampNeg 2 = 2 by decide +kernel]) (ds1 (sT4_len (xz x)) 3 rfl) dX11_init_120 ?_
  refine d_dup X dX11_init_121 rfl ?_
  refine d_iconst X (v := 3) dX11_init_122 (by decide) ?_
  refine d_sipush X (v := 500) dX11_init_123 (by decide) ?_
  refine d_iast X (g := 229) (f2 := upd (upd (upd (upd (fun _ => 0) 0 0) 1 0) 2 1024) 3 500) (es2 := (.inr (11, [.ref (gad (xz x) (1 + 0)), .null, .int 0, .int 0, .int 0, .ref (gad (xz x) 123), .ref (gad (xz x) 164), .ref (gad (xz x) 195), .null, .null, .null, .int 0, .int 0, .int 0]) :: (sT4 (xz x) ++ [.inl (gcy (xz x) 28, 3, .inr (.inr (.inr (.inr (va_up (va_up (fun _ => none) 0 (some (gad (xz x) 227))) 1 (some (gad (xz x) 228))))))), .inl (gcy (xz x) 20, 4, .inl (upd (upd (upd (upd (fun _ => 0) 0 1024) 1 0) 2 0) 3 0)), .inl (gcy (xz x) 20, 4, .inl (upd (upd (upd (upd (fun _ => 0) 0 0) 1 1024) 2 0) 3 0)), .inl (gcy (xz x) 20, 4, .inl (upd (upd (upd (upd (fun _ => 0) 0 0) 1 0) 2 1024) 3 500))]))) (dg1 (sT4_len (xz x)) 3 rfl) (by decide +kernel) (by rw [show Int32.toNatClampNeg 3 = 3 by decide +kernel]) (ds1 (sT4_len (xz x)) 3 rfl) dX11_init_126 ?_
  refine d_aastA X (g := 226) (v := 229) (f2 := va_up (va_up (va_up (fun _ => none) 0 (some (gad (xz x) 227))) 1 (some (gad (xz x) 228))) 2 (some (gad (xz x) 229))) (es2 := (.inr (11, [.ref (gad (xz x) (1 + 0)), .null, .int 0, .int 0, .int 0, .ref (gad (xz x) 123), .ref (gad (xz x) 164), .ref (gad (xz x) 195), .null, .null, .null, .int 0, .int 0, .int 0]) :: (sT4 (xz x) ++ [.inl (gcy (xz x) 28, 3, .inr (.inr (.inr (.inr (va_up (va_up (va_up (fun _ => none) 0 (some (gad (xz x) 227))) 1 (some (gad (xz x) 228))) 2 (some (gad (xz x) 229))))))), .inl (gcy (xz x) 20, 4, .inl (upd (upd (upd (upd (fun _ => 0) 0 1024) 1 0) 2 0) 3 0)), .inl (gcy (xz x) 20, 4, .inl (upd (upd (upd (upd (fun _ => 0) 0 0) 1 1024) 2 0) 3 0)), .inl (gcy (xz x) 20, 4, .inl (upd (upd (upd (upd (fun _ => 0) 0 0) 1 0) 2 1024) 3 500))]))) (dg1 (sT4_len (xz x)) 0 rfl) (dg1 (sT4_len (xz x)) 3 rfl) (by decide +kernel) (by rw [show Int32.toNatClampNeg 2 = 2 by decide +kernel]) (ds1 (sT4_len (xz x)) 0 rfl) dX11_init_127 ?_
  refine d_put X (g := 0) (k := 8) (es2 := (.inr (11, [.ref (gad (xz x) (1 + 0)), .null, .int 0, .int 0, .int 0, .ref (gad (xz x) 123), .ref (gad (xz x) 164), .ref (gad (xz x) 195), .ref (gad (xz x) 226), .null, .null, .int 0, .int 0, .int 0]) :: (sT4 (xz x) ++ [.inl (gcy (xz x) 28, 3, .inr (.inr (.inr (.inr (va_up (va_up (va_up (fun _ => none) 0 (some (gad (xz x) 227))) 1 (some (gad (xz x) 228))) 2 (some (gad (xz x) 229))))))), .inl (gcy (xz x) 20, 4, .inl (upd (upd (upd (upd (fun _ => 0) 0 1024) 1 0) 2 0) 3 0)), .inl (gcy (xz x) 20, 4, .inl (upd (upd (upd (upd (fun _ => 0) 0 0) 1 1024) 2 0) 3 0)), .inl (gcy (xz x) 20, 4, .inl (upd (upd (upd (upd (fun _ => 0) 0 0) 1 0) 2 1024) 3 500))]))) rfl rfl rfl inX11 tyX11_ok nmX11 (by decide) q_838 rfl (Or.inr ⟨rfl, hin, rfl⟩) (tyX11_ok 8 (by decide)) rfl rfl (Nat.le_of_ble_eq_true rfl) dX11_init_128 ?_
  refine d_es (es2 := (.inr (11, [.ref (gad (xz x) (1 + 0)), .null, .int 0, .int 0, .int 0, .ref (gad (xz x) 123), .ref (gad (xz x) 164), .ref (gad (xz x) 195), .ref (gad (xz x) 226), .null, .null, .int 0, .int 0, .int 0]) :: (sT5 (xz x) ++ []))) (by rw [List.append_nil]; rfl) ?_
  refine d_aload_n X (j := 0) dX11_init_131 rfl rfl ?_
  refine d_iconst X (v := 4) dX11_init_132 (by decide) ?_
  refine d_bipush X (v := 64) dX11_init_133 (by decide) ?_
  refine d_mna X (N := 4) (K := 64) q_820 q_ac20 X.2.2.2.2.2.2.1.2.2.1.2.2.2.2.2.1 (by decide) (by decide) (by decide +kernel) (by decide +kernel) (by decide) (by decide +kernel) (by decide) (Nat.le_of_ble_eq_true rfl) (Nat.le_of_ble_eq_true rfl) (a := 230) (by simp only [List.length_cons, List.length_append, List.length_nil]; have := sT5_len (xz x); omega) (es2 := (.inr (11, [.ref (gad (xz x) (1 + 0)), .null, .int 0, .int 0, .int 0, .ref (gad (xz x) 123), .ref (gad (xz x) 164), .ref (gad (xz x) 195), .ref (gad (xz x) 226), .null, .null, .int 0, .int 0, .int 0]) :: (sT5 (xz x) ++ (.inl (gcy (xz x) 28, 4, .inr (.inr (.inr (.inr (fun i => if i < 4 then some (gad (xz x) (230 + 1 + i)) else none))))) :: List.replicate 4 (.inl (gcy (xz x) 20, 64, .inl (fun _ => 0))))))) (by rw [List.append_nil]; rfl) dX11_init_135 ?_
  refine d_cs (c2 := 234) (s2 := 12575) rfl rfl ?_
  refine d_put X (g := 0) (k := 9) (es2 := (.inr (11, [.ref (gad (xz x) (1 + 0)), .null, .int 0, .int 0, .int 0, .ref (gad (xz x) 123), .ref (gad (xz x) 164), .ref (gad (xz x) 195), .ref (gad (xz x) 226), .ref (gad (xz x) 230), .null, .int 0, .int 0, .int 0]) :: (sT5 (xz x) ++ (.inl (gcy (xz x) 28, 4, .inr (.inr (.inr (.inr (fun i => if i < 4 then some (gad (xz x) (230 + 1 + i)) else none))))) :: List.replicate 4 (.inl (gcy (xz x) 20, 64, .inl (fun _ => 0))))))) rfl rfl rfl inX11 tyX11_ok nmX11 (by decide) q_839 rfl (Or.inr ⟨rfl, hin, rfl⟩) (tyX11_ok 9 (by decide)) rfl rfl (Nat.le_of_ble_eq_true rfl) dX11_init_139 ?_
  refine d_es (es2 := (.inr (11, [.ref (gad (xz x) (1 + 0)), .null, .int 0, .int 0, .int 0, .ref (gad (xz x) 123), .ref (gad (xz x) 164), .ref (gad (xz x) 195), .ref (gad (xz x) 226), .ref (gad (xz x) 230), .null, .int 0, .int 0, .int 0]) :: (sT6 (xz x) ++ []))) (by rw [List.append_nil]; rfl) ?_
  refine d_aload_n X (j := 0) dX11_init_142 rfl rfl ?_
  refine d_iconst X (v := 4) dX11_init_143 (by decide) ?_
  refine d_newarr X (tag := 22) (atype := .boolean) (ty := .boolean) (a0 := (4, .inl (fun _ => 0))) (N := 4) (es2 := (.inr (11, [.ref (gad (xz x) (1 + 0)), .null, .int 0, .int 0, .int 0, .ref (gad (xz x) 123), .ref (gad (xz x) 164), .ref (gad (xz x) 195), .ref (gad (xz x) 226), .ref (gad (xz x) 230), .null, .int 0, .int 0, .int 0]) :: (sT6 (xz x) ++ [.inl (gcy (xz x) 22, 4, .inl (fun _ => 0))]))) (a := 235) rfl rfl (fun h => h) q_ac22 (by rfl) (by decide) (by decide +kernel) (Nat.le_of_ble_eq_true rfl) (Nat.le_of_ble_eq_true rfl) (Nat.le_of_ble_eq_true rfl) (by simp only [List.cons_append, List.append_assoc, List.nil_append]) (by simp only [List.length_cons, List.length_append, List.length_nil]; have := sT6_len (xz x); omega) dX11_init_144 ?_
  refine d_cs (c2 := 235) (s2 := 12579) rfl rfl ?_
  refine d_dup X dX11_init_146 rfl ?_
  refine d_iconst X (v := 0) dX11_init_147 (by decide) ?_
  refine d_iconst X (v := 1) dX11_init_148 (by decide) ?_
  refine d_zast X (g := 235) (f2 := upd (fun _ => 0) 0 1) (es2 := (.inr (11, [.ref (gad (xz x) (1 + 0)), .null, .int 0, .int 0, .int 0, .ref (gad (xz x) 123), .ref (gad (xz x) 164), .ref (gad (xz x) 195), .ref (gad (xz x) 226), .ref (gad (xz x) 230), .null, .int 0, .int 0, .int 0]) :: (sT6 (xz x) ++ [.inl (gcy (xz x) 22, 4, .inl (upd (fun _ => 0) 0 1))]))) (dg1 (sT6_len (xz x)) 0 rfl) (by decide +kernel) (Or.inr rfl) (by rw [show Int32.toNatClampNeg 0 = 0 by decide +kernel]) (ds1 (sT6_len (xz x)) 0 rfl) dX11_init_149 ?_
  refine d_dup X dX11_init_150 rfl ?_
  refine d_iconst X (v := 1) dX11_init_151 (by decide) ?_
  refine d_iconst X (v := 1) dX11_init_152 (by decide) ?_
  refine d_zast X (g := 235) (f2 := upd (upd (fun _ => 0) 0 1) 1 1) (es2 := (.inr (11, [.ref (gad (xz x) (1 + 0)), .null, .int 0, .int 0, .int 0, .ref (gad (xz x) 123), .ref (gad (xz x) 164), .ref (gad (xz x) 195), .ref (gad (xz x) 226), .ref (gad (xz x) 230), .null, .int 0, .int 0, .int 0]) :: (sT6 (xz x) ++ [.inl (gcy (xz x) 22, 4, .inl (upd (upd (fun _ => 0) 0 1) 1 1))]))) (dg1 (sT6_len (xz x)) 0 rfl) (by decide +kernel) (Or.inr rfl) (by rw [show Int32.toNatClampNeg 1 = 1 by decide +kernel]) (ds1 (sT6_len (xz x)) 0 rfl) dX11_init_153 ?_
  refine d_dup X dX11_init_154 rfl ?_
  refine d_iconst X (v := 2) dX11_init_155 (by decide) ?_
  refine d_iconst X (v := 1) dX11_init_156 (by decide) ?_
  refine d_zast X (g := 235) (f2 := upd (upd (upd (fun _ => 0) 0 1) 1 1) 2 1) (es2 := (.inr (11, [.ref (gad (xz x) (1 + 0)), .null, .int 0, .int 0, .int 0, .ref (gad (xz x) 123), .ref (gad (xz x) 164), .ref (gad (xz x) 195), .ref (gad (xz x) 226), .ref (gad (xz x) 230), .null, .int 0, .int 0, .int 0]) :: (sT6 (xz x) ++ [.inl (gcy (xz x) 22, 4, .inl (upd (upd (upd (fun _ => 0) 0 1) 1 1) 2 1))]))) (dg1 (sT6_len (xz x)) 0 rfl) (by decide +kernel) (Or.inr rfl) (by rw [show Int32.toNatClampNeg 2 = 2 by decide +kernel]) (ds1 (sT6_len (xz x)) 0 rfl) dX11_init_157 ?_
  refine d_dup X dX11_init_158 rfl ?_
  refine d_iconst X (v := 3) dX11_init_159 (by decide) ?_
  refine d_iconst X (v := 1) dX11_init_160 (by decide) ?_
  refine d_zast X (g := 235) (f2 := upd (upd (upd (upd (fun _ => 0) 0 1) 1 1) 2 1) 3 1) (es2 := (.inr (11, [.ref (gad (xz x) (1 + 0)), .null, .int 0, .int 0, .int 0, .ref (gad (xz x) 123), .ref (gad (xz x) 164), .ref (gad (xz x) 195), .ref (gad (xz x) 226), .ref (gad (xz x) 230), .null, .int 0, .int 0, .int 0]) :: (sT6 (xz x) ++ [.inl (gcy (xz x) 22, 4, .inl (upd (upd (upd (upd (fun _ => 0) 0 1) 1 1) 2 1) 3 1))]))) (dg1 (sT6_len (xz x)) 0 rfl) (by decide +kernel) (Or.inr rfl) (by rw [show Int32.toNatClampNeg 3 = 3 by decide +kernel]) (ds1 (sT6_len (xz x)) 0 rfl) dX11_init_161 ?_
  refine d_put X (g := 0) (k := 10) (es2 := (.inr (11, [.ref (gad (xz x) (1 + 0)), .null, .int 0, .int 0, .int 0, .ref (gad (xz x) 123), .ref (gad (xz x) 164), .ref (gad (xz x) 195), .ref (gad (xz x) 226), .ref (gad (xz x) 230), .ref (gad (xz x) 235), .int 0, .int 0, .int 0]) :: (sT6 (xz x) ++ [.inl (gcy (xz x) 22, 4, .inl (upd (upd (upd (upd (fun _ => 0) 0 1) 1 1) 2 1) 3 1))]))) rfl rfl rfl inX11 tyX11_ok nmX11 (by decide) q_840 rfl (Or.inr ⟨rfl, hin, rfl⟩) (tyX11_ok 10 (by decide)) rfl rfl (Nat.le_of_ble_eq_true rfl) dX11_init_162 ?_
  refine d_es (es2 := (.inr (11, [.ref (gad (xz x) (1 + 0)), .null, .int 0, .int 0, .int 0, .ref (gad (xz x) 123), .ref (gad (xz x) 164), .ref (gad (xz x) 195), .ref (gad (xz x) 226), .ref (gad (xz x) 230), .ref (gad (xz x) 235), .int 0, .int 0, .int 0]) :: (sT7 (xz x) ++ []))) (by rw [List.append_nil]; rfl) ?_
  refine d_aload_n X (j := 0) dX11_init_165 rfl rfl ?_
  refine d_bipush X (v := 100) dX11_init_166 (by decide) ?_
  refine d_put X (g := 0) (k := 11) (es2 := (.inr (11, [.ref (gad (xz x) (1 + 0)), .null, .int 0, .int 0, .int 0, .ref (gad (xz x) 123), .ref (gad (xz x) 164), .ref (gad (xz x) 195), .ref (gad (xz x) 226), .ref (gad (xz x) 230), .ref (gad (xz x) 235), .int 100, .int 0, .int 0]) :: (sT7 (xz x) ++ []))) rfl rfl rfl inX11 tyX11_ok nmX11 (by decide) q_841 rfl (Or.inl rfl) (tyX11_ok 11 (by decide)) rfl rfl (Nat.le_of_ble_eq_true rfl) dX11_init_168 ?_
  refine d_aload_n X (j := 0) dX11_init_171 rfl rfl ?_
  refine d_bipush X (v := 40) dX11_init_172 (by decide) ?_
  refine d_put X (g := 0) (k := 12) (es2 := (.inr (11, [.ref (gad (xz x) (1 + 0)), .null, .int 0, .int 0, .int 0, .ref (gad (xz x) 123), .ref (gad (xz x) 164), .ref (gad (xz x) 195), .ref (gad (xz x) 226), .ref (gad (xz x) 230), .ref (gad (xz x) 235), .int 100, .int 40, .int 0]) :: (sT7 (xz x) ++ []))) rfl rfl rfl inX11 tyX11_ok nmX11 (by decide) q_842 rfl (Or.inl rfl) (tyX11_ok 12 (by decide)) rfl rfl (Nat.le_of_ble_eq_true rfl) dX11_init_174 ?_
  refine d_aload_n X (j := 0) dX11_init_177 rfl rfl ?_
  refine d_aload_n X (j := 1) dX11_init_178 rfl rfl ?_
  refine d_put X (g := 0) (k := 1) (es2 := (.inr (11, [.ref (gad (xz x) (1 + 0)), .ref (gsa (xz x)), .int 0, .int 0, .int 0, .ref (gad (xz x) 123), .ref (gad (xz x) 164), .ref (gad (xz x) 195), .ref (gad (xz x) 226), .ref (gad (xz x) 230), .ref (gad (xz x) 235), .int 100, .int 40, .int 0]) :: (sT7 (xz x) ++ []))) rfl rfl rfl inX11 tyX11_ok nmX11 (by decide) q_827 rfl (Or.inr ⟨rfl, hin, rfl⟩) (tyX11_ok 1 (by decide)) rfl rfl (Nat.le_of_ble_eq_true rfl) dX11_init_179 ?_
  refine d_aload_n X (j := 0) dX11_init_182 rfl rfl ?_
  refine d_iload_n X (j := 2) dX11_init_183 rfl rfl ?_
  refine d_put X (g := 0) (k := 2) (es2 := (.inr (11, [.ref (gad (xz x) (1 + 0)), .ref (gsa (xz x)), .int i1, .int 0, .int 0, .ref (gad (xz x) 123), .ref (gad (xz x) 164), .ref (gad (xz x) 195), .ref (gad (xz x) 226), .ref (gad (xz x) 230), .ref (gad (xz x) 235), .int 100, .int 40, .int 0]) :: (sT7 (xz x) ++ []))) rfl rfl rfl inX11 tyX11_ok nmX11 (by decide) q_828 rfl (Or.inl rfl) (tyX11_ok 2 (by decide)) rfl rfl (Nat.le_of_ble_eq_true rfl) dX11_init_184 ?_
  exact hR _ _ dX11_init_187
