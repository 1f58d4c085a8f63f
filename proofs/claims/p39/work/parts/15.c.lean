/-! 15.c -/
theorem dX10_requireCameraRow_0 : decode cX10_requireCameraRow 0 = .ok (.iload_n 0, 1) := by decide +kernel
theorem dX10_requireCameraRow_1 : decode cX10_requireCameraRow 1 = .ok (.iconst 0, 1) := by decide +kernel
theorem dX10_requireCameraRow_2 : decode cX10_requireCameraRow 2 = .ok (.iconst 2, 1) := by decide +kernel
theorem dX10_requireCameraRow_3 : decode cX10_requireCameraRow 3 = .ok (.invokestatic 86, 3) := by decide +kernel
theorem dX10_requireCameraRow_6 : decode cX10_requireCameraRow 6 = .ok (.ifCond .ne 14, 3) := by decide +kernel
theorem dX10_requireCameraRow_9 : decode cX10_requireCameraRow 9 = .ok (.new 156, 3) := by decide +kernel
theorem dX10_requireCameraRow_12 : decode cX10_requireCameraRow 12 = .ok (.dup, 1) := by decide +kernel
theorem dX10_requireCameraRow_13 : decode cX10_requireCameraRow 13 = .ok (.ldc_w 399, 3) := by decide +kernel
theorem dX10_requireCameraRow_16 : decode cX10_requireCameraRow 16 = .ok (.invokespecial 160, 3) := by decide +kernel
theorem dX10_requireCameraRow_19 : decode cX10_requireCameraRow 19 = .ok (.athrow, 1) := by decide +kernel
theorem dX10_requireCameraRow_20 : decode cX10_requireCameraRow 20 = .ok (.return_, 1) := by decide +kernel
def f_X10_requireCameraRow (F : Nat) (i0 : Int32) (M : GM) : Option (Nat ⊕ Unit) := if (f_X10_isWithin i0 (0 : Int32) (2 : Int32)) = 0 then (some (Sum.inl 3)) else (some (Sum.inr ()))
set_option maxHeartbeats 4000000 in
set_option maxRecDepth 100000 in
theorem w_X10_requireCameraRow {x : GX} (X : GC x cX10_requireCameraRow 1 RX10 6) {i0 : Int32}  {F : Nat} {M : GM} {r9 : (Nat ⊕ Unit)} (hR : ∀ (lv9 : List (Nat × Value)) (pc9 : Nat), r9 = Sum.inr () → decode cX10_requireCameraRow pc9 = .ok (.return_, 1) → WG x M lv9 pc9 []) (hX : ∀ (n9 : Nat), r9 = Sum.inl n9 → GThr x n9 M) (h : f_X10_requireCameraRow F i0 M = some r9) : WG x M [(0, .int i0)] 0 [] := by
  unfold f_X10_requireCameraRow at h
  refine g_iload_n X (j := 0) dX10_requireCameraRow_0 rfl rfl ?_
  refine g_iconst X (v := 0) dX10_requireCameraRow_1 (by decide) ?_
  refine g_iconst X (v := 2) dX10_requireCameraRow_2 (by decide) ?_
  refine gc_X10_86 X (ct_X10_isWithin X.htr ) (by decide) (Nat.le_of_ble_eq_true rfl) dX10_requireCameraRow_3 ?_
  refine g_if_ne X (tgt := 20) dX10_requireCameraRow_6 (by decide) (fun hb => ?_) (fun hb => ?_)
  · have h := ite_f hb h
    exact hR  _ _ (Option.some.inj h).symm dX10_requireCameraRow_20
  · have h := ite_t hb h
    exact gthr_3 X (by decide) (List.mem_of_getElem? (i := 5) rfl) (Nat.le_of_ble_eq_true rfl) dX10_requireCameraRow_9 dX10_requireCameraRow_12 (Or.inr ⟨dX10_requireCameraRow_13, dX10_requireCameraRow_16, dX10_requireCameraRow_19⟩) (hX 3 (Option.some.inj h).symm)
theorem ct_X10_requireCameraRow {l : Launch} {z : GZ} (htr : l.stackTraces = false) {i0 : Int32}  {M : GM} {F : Nat} (h : f_X10_requireCameraRow F i0 M = some (Sum.inr ())) : gMet l z yX10_requireCameraRow cX10_requireCameraRow 1 none 6 [.int i0] M (none) M := gMet_ofV (by decide +kernel) (Nat.le_of_ble_eq_true rfl) htr (fun x X ez el hR => by subst ez; subst el; exact w_X10_requireCameraRow X  (fun  lv9 pc9 e9 d9 => by cases e9; exact hR lv9 pc9 d9) (by intros; rename_i e9; cases e9) h)
theorem cx_X10_requireCameraRow {l : Launch} {z : GZ} (htr : l.stackTraces = false) {i0 : Int32}  {M : GM} {F n : Nat} (h : f_X10_requireCameraRow F i0 M = some (Sum.inl n)) : gMetX l z yX10_requireCameraRow cX10_requireCameraRow 1 none 6 [.int i0] M n M := gMetX_of (by decide +kernel) (Nat.le_of_ble_eq_true rfl) htr (fun x X ez el hT => by subst ez; subst el; exact w_X10_requireCameraRow X  (by intros; rename_i e9 _; cases e9) (fun n9 e9 => by cases e9; exact hT) h)
theorem gc_X10_195 {x : GX} {cc : ByteArray} {nL d pc : Nat} {M : GM} {lv : List (Nat × Value)} {st : List Value} (X : GC x cc nL RX10 d) {i0 : Int32} {i1 : Nat} {M1 : GM} {r : Int32} (ht : gT 4 = 1) (hM : gMet (xl x) (xz x) yX1_along cX1_along 5 (some .int) 0 [.ref (gad (xz x) 4), .int i0, .ref (gad (xz x) i1)] M (some (.int r)) M1) (hd : 1 ≤ d) (hsum : (st.map fun v => v.category).sum ≤ 8) (dec : decode cc pc = .ok (.invokevirtual 195, 3)) (go : WG x M1 lv (pc + 3) (.int r :: st)) : WG x M lv pc (.ref (gad (xz x) i1) :: .int i0 :: .ref (gad (xz x) 4) :: st) := g_callV X (n := 2) (As := [.int i0, .ref (gad (xz x) i1)]) (rest := st) hM ht (by decide) (gE_1 ht) rfl q_442 q_168 q_169 q_18 q_170 (by decide +kernel) rfl hd (by decide) rfl hsum dec go
theorem dX10_cornersInFront_0 : decode cX10_cornersInFront 0 = .ok (.iconst 0, 1) := by decide +kernel
theorem dX10_cornersInFront_1 : decode cX10_cornersInFront 1 = .ok (.istore_n 1, 1) := by decide +kernel
theorem dX10_cornersInFront_2 : decode cX10_cornersInFront 2 = .ok (.iconst 0, 1) := by decide +kernel
theorem dX10_cornersInFront_3 : decode cX10_cornersInFront 3 = .ok (.istore_n 2, 1) := by decide +kernel
theorem dX10_cornersInFront_4 : decode cX10_cornersInFront 4 = .ok (.iload_n 2, 1) := by decide +kernel
theorem dX10_cornersInFront_5 : decode cX10_cornersInFront 5 = .ok (.aload_n 0, 1) := by decide +kernel
theorem dX10_cornersInFront_6 : decode cX10_cornersInFront 6 = .ok (.getfield 97, 3) := by decide +kernel
theorem dX10_cornersInFront_9 : decode cX10_cornersInFront 9 = .ok (.if_icmp .ge 36, 3) := by decide +kernel
theorem dX10_cornersInFront_12 : decode cX10_cornersInFront 12 = .ok (.aload_n 0, 1) := by decide +kernel
theorem dX10_cornersInFront_13 : decode cX10_cornersInFront 13 = .ok (.getfield 30, 3) := by decide +kernel
theorem dX10_cornersInFront_16 : decode cX10_cornersInFront 16 = .ok (.iconst 2, 1) := by decide +kernel
theorem dX10_cornersInFront_17 : decode cX10_cornersInFront 17 = .ok (.aload_n 0, 1) := by decide +kernel
theorem dX10_cornersInFront_18 : decode cX10_cornersInFront 18 = .ok (.getfield 11, 3) := by decide +kernel
theorem dX10_cornersInFront_21 : decode cX10_cornersInFront 21 = .ok (.iload_n 2, 1) := by decide +kernel
theorem dX10_cornersInFront_22 : decode cX10_cornersInFront 22 = .ok (.aaload, 1) := by decide +kernel
theorem dX10_cornersInFront_23 : decode cX10_cornersInFront 23 = .ok (.invokevirtual 195, 3) := by decide +kernel
theorem dX10_cornersInFront_26 : decode cX10_cornersInFront 26 = .ok (.aload_n 0, 1) := by decide +kernel
theorem dX10_cornersInFront_27 : decode cX10_cornersInFront 27 = .ok (.getfield 30, 3) := by decide +kernel
theorem dX10_cornersInFront_30 : decode cX10_cornersInFront 30 = .ok (.getfield 186, 3) := by decide +kernel
theorem dX10_cornersInFront_33 : decode cX10_cornersInFront 33 = .ok (.if_icmp .lt 6, 3) := by decide +kernel
theorem dX10_cornersInFront_36 : decode cX10_cornersInFront 36 = .ok (.iinc 1 1, 3) := by decide +kernel
theorem dX10_cornersInFront_39 : decode cX10_cornersInFront 39 = .ok (.iinc 2 1, 3) := by decide +kernel
theorem dX10_cornersInFront_42 : decode cX10_cornersInFront 42 = .ok (.goto (-38), 3) := by decide +kernel
theorem dX10_cornersInFront_45 : decode cX10_cornersInFront 45 = .ok (.iload_n 1, 1) := by decide +kernel
theorem dX10_cornersInFront_46 : decode cX10_cornersInFront 46 = .ok (.ireturn, 1) := by decide +kernel
def st_X10_cornersInFront_4 (F : Nat)  (rec : Int32 → Int32 → Option Int32) (a5 : Int32) (a6 : Int32) (M : GM) : Option Int32 := if (gI M 0 12) ≤ a6 then (some a5) else (grd (gIn a6 (gN 1)) (bnd (gR 1 a6.toNatClampNeg) (fun o8 => bndO (f_X1_along F (2 : Int32) o8 M) (fun v12 => if v12 < (gI M 4 1) then (bnd (a6 + (1 : Int32)) (fun v13 => rec a5 v13)) else (bnd (a5 + (1 : Int32)) (fun v15 => bnd (a6 + (1 : Int32)) (fun v17 => rec v15 v17)))))))
def lp_X10_cornersInFront_4 (F : Nat)  (M : GM) : Nat → Int32 → Int32 → Option Int32
  | 0 => fun _ _ => none
  | f + 1 => fun a5 a6 => st_X10_cornersInFront_4 F  (lp_X10_cornersInFront_4 F  M f) a5 a6 M
set_option maxHeartbeats 4000000 in
set_option maxRecDepth 100000 in
theorem lw_X10_cornersInFront_4 {x : GX} (X : GC x cX10_cornersInFront 3 RX10 1)   {F : Nat} {M : GM} {r9 : Int32} (hE : ∀ (x1_9 : Int32), r9 = x1_9 → WG x M [(1, .int x1_9)] 45 []) : ∀ (f : Nat) (a5 : Int32) (a6 : Int32), lp_X10_cornersInFront_4 F  M f a5 a6 = some r9 → WG x M [(0, .ref (gad (xz x) 0)), (1, .int a5), (2, .int a6)] 4 [] := by
  intro f
  induction f with
  | zero => intro a5 a6 h; cases h
  | succ f ih =>
    intro a5 a6 h
    have hrec := ih
    have h : st_X10_cornersInFront_4 F  (lp_X10_cornersInFront_4 F  M f) a5 a6 M = some r9 := h
    generalize lp_X10_cornersInFront_4 F  M f = rec at h hrec
    unfold st_X10_cornersInFront_4 at h
    refine g_iload_n X (j := 2) dX10_cornersInFront_4 rfl rfl ?_
    refine g_aload_n X (j := 0) dX10_cornersInFront_5 rfl rfl ?_
    refine gf_X10_97 X gT_c0 dX10_cornersInFront_6 ?_
    refine g_icmp_ge X (tgt := 45) dX10_cornersInFront_9 (by decide) (fun hb => ?_) (fun hb => ?_)
    · have h := ite_t hb h
      refine g_lv [1] rfl ?_
      exact hE a5 (Option.some.inj h).symm
    · have h := ite_f hb h
      refine g_aload_n X (j := 0) dX10_cornersInFront_12 rfl rfl ?_
      refine gf_X10_30 X gT_c0 dX10_cornersInFront_13 ?_
      refine g_iconst X (v := 2) dX10_cornersInFront_16 (by decide) ?_
      refine g_aload_n X (j := 0) dX10_cornersInFront_17 rfl rfl ?_
      refine gf_X10_11 X gT_c0 dX10_cornersInFront_18 ?_
      refine g_iload_n X (j := 2) dX10_cornersInFront_21 rfl rfl ?_
      obtain ⟨hg7, h⟩ := grd_e h
      refine g_aald_23 X gT_c1 hg7 dX10_cornersInFront_22 ?_
      refine g_topr (fun o8 e9 => ?_)
      have h := bnd_e e9 h
      have k10 : gT o8 = 3 := by rw [e9]; exact gR_23 gT_c1 (gIn_lt hg7)
      obtain ⟨v12, hc11, h⟩ := bndO_e h
      refine gc_X10_195 X gT_c4 (ct_X1_along X.htr k10 hc11) (by decide) (Nat.le_of_ble_eq_true rfl) dX10_cornersInFront_23 ?_
      refine g_aload_n X (j := 0) dX10_cornersInFront_26 rfl rfl ?_
      refine gf_X10_30 X gT_c0 dX10_cornersInFront_27 ?_
      refine gf_X10_186 X gT_c4 dX10_cornersInFront_30 ?_
      refine g_icmp_lt X (tgt := 39) dX10_cornersInFront_33 (by decide) (fun hb => ?_) (fun hb => ?_)
      · have h := ite_t hb h
        refine g_iinc X (j := 2) (w := a6 + (1 : Int32)) (lv' := [(0, .ref (gad (xz x) 0)), (1, .int a5)]) dX10_cornersInFront_39 rfl (by rw [ii_1]) (by decide) (fun _ => rfl) (fun v13 e14 => ?_)
        have h := bnd_e e14 h
        refine g_goto X (tgt := 4) dX10_cornersInFront_42 (by decide) ?_
        refine g_lv [1, 2, 0] rfl ?_
        exact hrec a5 v13 h
      · have h := ite_f hb h
        refine g_iinc X (j := 1) (w := a5 + (1 : Int32)) (lv' := [(0, .ref (gad (xz x) 0)), (2, .int a6)]) dX10_cornersInFront_36 rfl (by rw [ii_1]) (by decide) (fun _ => rfl) (fun v15 e16 => ?_)
        have h := bnd_e e16 h
        refine g_iinc X (j := 2) (w := a6 + (1 : Int32)) (lv' := [(1, .int v15), (0, .ref (gad (xz x) 0))]) dX10_cornersInFront_39 rfl (by rw [ii_1]) (by decide) (fun _ => rfl) (fun v17 e18 => ?_)
        have h := bnd_e e18 h
        refine g_goto X (tgt := 4) dX10_cornersInFront_42 (by decide) ?_
        refine g_lv [2, 1, 0] rfl ?_
        exact hrec v15 v17 h
def f_X10_cornersInFront (F : Nat) (M : GM) : Option Int32 := bnd (0 : Int32) (fun v1 => bnd (0 : Int32) (fun v3 => bndO (lp_X10_cornersInFront_4 F  M F v1 v3) (fun v19 => some v19)))
set_option maxHeartbeats 4000000 in
set_option maxRecDepth 100000 in
theorem w_X10_cornersInFront {x : GX} (X : GC x cX10_cornersInFront 3 RX10 1)   {F : Nat} {M : GM} {r9 : Int32} (hR : ∀ (v9 : Int32) (lv9 : List (Nat × Value)) (pc9 : Nat), r9 = v9 → decode cX10_cornersInFront pc9 = .ok (.ireturn, 1) → WG x M lv9 pc9 [.int v9]) (h : f_X10_cornersInFront F M = some r9) : WG x M [(0, .ref (gad (xz x) 0))] 0 [] := by
  unfold f_X10_cornersInFront at h
  refine g_iconst X (v := 0) dX10_cornersInFront_0 (by decide) ?_
  refine g_topi (fun v1 e2 => ?_)
  have h := bnd_e e2 h
  refine g_istore_n X (lv' := [(1, .int v1), (0, .ref (gad (xz x) 0))]) dX10_cornersInFront_1 rfl (by decide) rfl ?_
  refine g_iconst X (v := 0) dX10_cornersInFront_2 (by decide) ?_
  refine g_topi (fun v3 e4 => ?_)
  have h := bnd_e e4 h
  refine g_istore_n X (lv' := [(2, .int v3), (1, .int v1), (0, .ref (gad (xz x) 0))]) dX10_cornersInFront_3 rfl (by decide) rfl ?_
  refine g_lv [2, 1, 0] rfl ?_
  obtain ⟨v19, hl20, h⟩ := bndO_e h
  refine lw_X10_cornersInFront_4 X  (fun v19_ e9 => ?_) F v1 v3 hl20
  cases e9
  refine g_iload_n X (j := 0) dX10_cornersInFront_45 rfl rfl ?_
  exact hR v19 _ _ (Option.some.inj h).symm dX10_cornersInFront_46
theorem ct_X10_cornersInFront {l : Launch} {z : GZ} (htr : l.stackTraces = false)   {M : GM} {F : Nat} {v : Int32} (h : f_X10_cornersInFront F M = some v) : gMet l z yX10_cornersInFront cX10_cornersInFront 3 (some .int) 1 [.ref (gad z 0)] M (some (.int v)) M := gMet_ofI (by decide +kernel) (Nat.le_of_ble_eq_true rfl) htr rfl (fun x X ez el hR => by subst ez; subst el; exact w_X10_cornersInFront X  (fun v9 lv9 pc9 e9 d9 => by cases e9; exact hR lv9 pc9 d9) h)
theorem gc_X10_167 {x : GX} {cc : ByteArray} {nL d pc : Nat} {M : GM} {lv : List (Nat × Value)} {st : List Value} (X : GC x cc nL RX10 d) {i0 : Int32} {M1 : GM} (hM : gMet (xl x) (xz x) yX10_requireCameraRow cX10_requireCameraRow 1 none 6 [.int i0] M (none) M1) (hd : 7 ≤ d) (hsum : (st.map fun v => v.category).sum ≤ 8) (dec : decode cc pc = .ok (.invokestatic 167, 3)) (go : WG x M1 lv (pc + 3) (st)) : WG x M lv pc (.int i0 :: st) := g_callS X (n := 1) (As := [.int i0]) (rest := st) hM q_438 q_439 q_17 q_440 (by decide +kernel) rfl hd (by decide) rfl hsum dec go
theorem gx_X10_167 {x : GX} {cc : ByteArray} {nL d pc : Nat} {M : GM} {lv : List (Nat × Value)} {st : List Value} (X : GC x cc nL RX10 d) {i0 : Int32} {M1 : GM} {n9 : Nat} (hM : gMetX (xl x) (xz x) yX10_requireCameraRow cX10_requireCameraRow 1 none 6 [.int i0] M n9 M1) (hd : 7 ≤ d) (hsum : (st.map fun v => v.category).sum ≤ 8) (dec : decode cc pc = .ok (.invokestatic 167, 3)) (hT : GThr x n9 M1) : WG x M lv pc (.int i0 :: st) := g_xS X (n := 1) (As := [.int i0]) (rest := st) hM q_438 q_439 q_17 q_440 (by decide +kernel) rfl hd (by decide) rfl hsum dec hT
theorem gc_X10_174 {x : GX} {cc : ByteArray} {nL d pc : Nat} {M : GM} {lv : List (Nat × Value)} {st : List Value} (X : GC x cc nL RX10 d) {i0 : Int32} {i1 : Int32} {i2 : Int32} {i3 : Int32} {i4 : Int32} {M1 : GM} (ht : gT 4 = 1) (hM : gMet (xl x) (xz x) yX1_turnRow cX1_turnRow 7 none 0 [.ref (gad (xz x) 4), .int i0, .int i1, .int i2, .int i3, .int i4] M (none) M1) (hd : 1 ≤ d) (hsum : (st.map fun v => v.category).sum ≤ 8) (dec : decode cc pc = .ok (.invokevirtual 174, 3)) (go : WG x M1 lv (pc + 3) (st)) : WG x M lv pc (.int i4 :: .int i3 :: .int i2 :: .int i1 :: .int i0 :: .ref (gad (xz x) 4) :: st) := g_callV X (n := 5) (As := [.int i0, .int i1, .int i2, .int i3, .int i4]) (rest := st) hM ht (by decide) (gE_1 ht) rfl q_977 q_978 q_979 q_18 q_980 (by decide +kernel) rfl hd (by decide) rfl hsum dec go
theorem gc_X10_178 {x : GX} {cc : ByteArray} {nL d pc : Nat} {M : GM} {lv : List (Nat × Value)} {st : List Value} (X : GC x cc nL RX10 d)  {M1 : GM} {r : Int32} (ht : gT 0 = 10) (hM : gMet (xl x) (xz x) yX10_cornersInFront cX10_cornersInFront 3 (some .int) 1 [.ref (gad (xz x) 0)] M (some (.int r)) M1) (hd : 2 ≤ d) (hsum : (st.map fun v => v.category).sum ≤ 8) (dec : decode cc pc = .ok (.invokevirtual 178, 3)) (go : WG x M1 lv (pc + 3) (.int r :: st)) : WG x M lv pc (.ref (gad (xz x) 0) :: st) := g_callV X (n := 0) (As := []) (rest := st) hM ht (by decide) (gE_10 ht) rfl q_981 q_983 q_14 q_17 q_984 (by decide +kernel) rfl hd (by decide) rfl hsum dec go
theorem dX10_setCamera_0 : decode cX10_setCamera 0 = .ok (.iload_n 1, 1) := by decide +kernel
theorem dX10_setCamera_1 : decode cX10_setCamera 1 = .ok (.invokestatic 167, 3) := by decide +kernel
theorem dX10_setCamera_4 : decode cX10_setCamera 4 = .ok (.iload_n 2, 1) := by decide +kernel
theorem dX10_setCamera_5 : decode cX10_setCamera 5 = .ok (.sipush (-4096), 3) := by decide +kernel
theorem dX10_setCamera_8 : decode cX10_setCamera 8 = .ok (.sipush 4096, 3) := by decide +kernel
theorem dX10_setCamera_11 : decode cX10_setCamera 11 = .ok (.invokestatic 86, 3) := by decide +kernel
theorem dX10_setCamera_14 : decode cX10_setCamera 14 = .ok (.ifCond .eq 30, 3) := by decide +kernel
theorem dX10_setCamera_17 : decode cX10_setCamera 17 = .ok (.iload_n 3, 1) := by decide +kernel
theorem dX10_setCamera_18 : decode cX10_setCamera 18 = .ok (.sipush (-4096), 3) := by decide +kernel
theorem dX10_setCamera_21 : decode cX10_setCamera 21 = .ok (.sipush 4096, 3) := by decide +kernel
theorem dX10_setCamera_24 : decode cX10_setCamera 24 = .ok (.invokestatic 86, 3) := by decide +kernel
theorem dX10_setCamera_27 : decode cX10_setCamera 27 = .ok (.ifCond .eq 17, 3) := by decide +kernel
theorem dX10_setCamera_30 : decode cX10_setCamera 30 = .ok (.iload 4, 2) := by decide +kernel
theorem dX10_setCamera_32 : decode cX10_setCamera 32 = .ok (.sipush (-4096), 3) := by decide +kernel
theorem dX10_setCamera_35 : decode cX10_setCamera 35 = .ok (.sipush 4096, 3) := by decide +kernel
theorem dX10_setCamera_38 : decode cX10_setCamera 38 = .ok (.invokestatic 86, 3) := by decide +kernel
theorem dX10_setCamera_41 : decode cX10_setCamera 41 = .ok (.ifCond .ne 13, 3) := by decide +kernel
theorem dX10_setCamera_44 : decode cX10_setCamera 44 = .ok (.new 90, 3) := by decide +kernel
theorem dX10_setCamera_47 : decode cX10_setCamera 47 = .ok (.dup, 1) := by decide +kernel
theorem dX10_setCamera_48 : decode cX10_setCamera 48 = .ok (.ldc 170, 2) := by decide +kernel
theorem dX10_setCamera_50 : decode cX10_setCamera 50 = .ok (.invokespecial 94, 3) := by decide +kernel
theorem dX10_setCamera_53 : decode cX10_setCamera 53 = .ok (.athrow, 1) := by decide +kernel
theorem dX10_setCamera_54 : decode cX10_setCamera 54 = .ok (.iload 5, 2) := by decide +kernel
theorem dX10_setCamera_56 : decode cX10_setCamera 56 = .ok (.sipush (-5000), 3) := by decide +kernel
theorem dX10_setCamera_59 : decode cX10_setCamera 59 = .ok (.sipush 5000, 3) := by decide +kernel
theorem dX10_setCamera_62 : decode cX10_setCamera 62 = .ok (.invokestatic 86, 3) := by decide +kernel
theorem dX10_setCamera_65 : decode cX10_setCamera 65 = .ok (.ifCond .ne 13, 3) := by decide +kernel
theorem dX10_setCamera_68 : decode cX10_setCamera 68 = .ok (.new 90, 3) := by decide +kernel
theorem dX10_setCamera_71 : decode cX10_setCamera 71 = .ok (.dup, 1) := by decide +kernel
theorem dX10_setCamera_72 : decode cX10_setCamera 72 = .ok (.ldc 172, 2) := by decide +kernel
theorem dX10_setCamera_74 : decode cX10_setCamera 74 = .ok (.invokespecial 94, 3) := by decide +kernel
theorem dX10_setCamera_77 : decode cX10_setCamera 77 = .ok (.athrow, 1) := by decide +kernel
theorem dX10_setCamera_78 : decode cX10_setCamera 78 = .ok (.aload_n 0, 1) := by decide +kernel
theorem dX10_setCamera_79 : decode cX10_setCamera 79 = .ok (.getfield 30, 3) := by decide +kernel
theorem dX10_setCamera_82 : decode cX10_setCamera 82 = .ok (.iload_n 1, 1) := by decide +kernel
theorem dX10_setCamera_83 : decode cX10_setCamera 83 = .ok (.iload_n 2, 1) := by decide +kernel
theorem dX10_setCamera_84 : decode cX10_setCamera 84 = .ok (.iload_n 3, 1) := by decide +kernel
theorem dX10_setCamera_85 : decode cX10_setCamera 85 = .ok (.iload 4, 2) := by decide +kernel
theorem dX10_setCamera_87 : decode cX10_setCamera 87 = .ok (.iload 5, 2) := by decide +kernel
theorem dX10_setCamera_89 : decode cX10_setCamera 89 = .ok (.invokevirtual 174, 3) := by decide +kernel
theorem dX10_setCamera_92 : decode cX10_setCamera 92 = .ok (.aload_n 0, 1) := by decide +kernel
theorem dX10_setCamera_93 : decode cX10_setCamera 93 = .ok (.invokevirtual 178, 3) := by decide +kernel
theorem dX10_setCamera_96 : decode cX10_setCamera 96 = .ok (.ireturn, 1) := by decide +kernel
def bk_X10_setCamera_44 (F : Nat) (M : GM) : Option ((Nat × GM) ⊕ (Int32 × GM)) := some (Sum.inl (1, M))
set_option maxHeartbeats 4000000 in
set_option maxRecDepth 100000 in
theorem bw_X10_setCamera_44 {x : GX} (X : GC x cX10_setCamera 6 RX10 7)    {F : Nat} {M : GM} {r9 : ((Nat × GM) ⊕ (Int32 × GM))} (hR : ∀ (v9 : Int32) (M9 : GM) (lv9 : List (Nat × Value)) (pc9 : Nat), r9 = Sum.inr (v9, M9) → decode cX10_setCamera pc9 = .ok (.ireturn, 1) → WG x M9 lv9 pc9 [.int v9]) (hX : ∀ (n9 : Nat) (M9 : GM), r9 = Sum.inl (n9, M9) → GThr x n9 M9) (h : bk_X10_setCamera_44 F M = some r9) : WG x M [] 44 [] := by
  unfold bk_X10_setCamera_44 at h
  exact gthr_1 X (by decide) (List.mem_of_getElem? (i := 16) rfl) (Nat.le_of_ble_eq_true rfl) dX10_setCamera_44 dX10_setCamera_47 (Or.inl ⟨dX10_setCamera_48, dX10_setCamera_50, dX10_setCamera_53⟩) (hX 1 M (Option.some.inj h).symm)
def f_X10_setCamera (F : Nat) (i0 : Int32) (i1 : Int32) (i2 : Int32) (i3 : Int32) (i4 : Int32) (M : GM) : Option ((Nat × GM) ⊕ (Int32 × GM)) := bndT (f_X10_requireCameraRow F i0 M) (fun n2 => some (Sum.inl (n2, M))) (fun _ => if (f_X10_isWithin i1 ((-4096) : Int32) (4096 : Int32)) = 0 then (bk_X10_setCamera_44 F M) else (if (f_X10_isWithin i2 ((-4096) : Int32) (4096 : Int32)) = 0 then (bk_X10_setCamera_44 F M) else (if (f_X10_isWithin i3 ((-4096) : Int32) (4096 : Int32)) = 0 then (bk_X10_setCamera_44 F M) else (if (f_X10_isWithin i4 ((-5000) : Int32) (5000 : Int32)) = 0 then (some (Sum.inl (1, M))) else (bndO (f_X1_turnRow F i0 i1 i2 i3 i4 M) (fun M4 => bndO (f_X10_cornersInFront F M4) (fun v6 => some (Sum.inr (v6, M4)))))))))
set_option maxHeartbeats 4000000 in
set_option maxRecDepth 100000 in
theorem w_X10_setCamera {x : GX} (X : GC x cX10_setCamera 6 RX10 7) {i0 : Int32} {i1 : Int32} {i2 : Int32} {i3 : Int32} {i4 : Int32}  {F : Nat} {M : GM} {r9 : ((Nat × GM) ⊕ (Int32 × GM))} (hR : ∀ (v9 : Int32) (M9 : GM) (lv9 : List (Nat × Value)) (pc9 : Nat), r9 = Sum.inr (v9, M9) → decode cX10_setCamera pc9 = .ok (.ireturn, 1) → WG x M9 lv9 pc9 [.int v9]) (hX : ∀ (n9 : Nat) (M9 : GM), r9 = Sum.inl (n9, M9) → GThr x n9 M9) (h : f_X10_setCamera F i0 i1 i2 i3 i4 M = some r9) : WG x M [(0, .ref (gad (xz x) 0)), (1, .int i0), (2, .int i1), (3, .int i2), (4, .int i3), (5, .int i4)] 0 [] := by
  unfold f_X10_setCamera at h
  refine g_iload_n X (j := 1) dX10_setCamera_0 rfl rfl ?_
  rcases bndT_e h with ⟨n2, hc1, h⟩ | ⟨⟨⟩, hc1, h⟩
  · exact gx_X10_167 X (cx_X10_requireCameraRow X.htr  hc1) (by decide) (Nat.le_of_ble_eq_true rfl) dX10_setCamera_1 (hX n2 M (Option.some.inj h).symm)
  refine gc_X10_167 X (ct_X10_requireCameraRow X.htr  hc1) (by decide) (Nat.le_of_ble_eq_true rfl) dX10_setCamera_1 ?_
  refine g_iload_n X (j := 2) dX10_setCamera_4 rfl rfl ?_
  refine g_sipush X (v := (-4096)) dX10_setCamera_5 (by decide) ?_
  refine g_sipush X (v := 4096) dX10_setCamera_8 (by decide) ?_
  refine gc_X10_86 X (ct_X10_isWithin X.htr ) (by decide) (Nat.le_of_ble_eq_true rfl) dX10_setCamera_11 ?_
  refine g_if_eq X (tgt := 44) dX10_setCamera_14 (by decide) (fun hb => ?_) (fun hb => ?_)
  · have h := ite_t hb h
    refine g_lv [] rfl ?_
    exact bw_X10_setCamera_44 X  hR hX h
  · have h := ite_f hb h
    refine g_iload_n X (j := 3) dX10_setCamera_17 rfl rfl ?_
    refine g_sipush X (v := (-4096)) dX10_setCamera_18 (by decide) ?_
    refine g_sipush X (v := 4096) dX10_setCamera_21 (by decide) ?_
    refine gc_X10_86 X (ct_X10_isWithin X.htr ) (by decide) (Nat.le_of_ble_eq_true rfl) dX10_setCamera_24 ?_
    refine g_if_eq X (tgt := 44) dX10_setCamera_27 (by decide) (fun hb => ?_) (fun hb => ?_)
    · have h := ite_t hb h
      refine g_lv [] rfl ?_
      exact bw_X10_setCamera_44 X  hR hX h
    · have h := ite_f hb h
      refine g_iload X (j := 4) dX10_setCamera_30 rfl ?_
      refine g_sipush X (v := (-4096)) dX10_setCamera_32 (by decide) ?_
      refine g_sipush X (v := 4096) dX10_setCamera_35 (by decide) ?_
      refine gc_X10_86 X (ct_X10_isWithin X.htr ) (by decide) (Nat.le_of_ble_eq_true rfl) dX10_setCamera_38 ?_
      refine g_if_ne X (tgt := 54) dX10_setCamera_41 (by decide) (fun hb => ?_) (fun hb => ?_)
      · have h := ite_f hb h
        refine g_iload X (j := 5) dX10_setCamera_54 rfl ?_
        refine g_sipush X (v := (-5000)) dX10_setCamera_56 (by decide) ?_
        refine g_sipush X (v := 5000) dX10_setCamera_59 (by decide) ?_
        refine gc_X10_86 X (ct_X10_isWithin X.htr ) (by decide) (Nat.le_of_ble_eq_true rfl) dX10_setCamera_62 ?_
        refine g_if_ne X (tgt := 78) dX10_setCamera_65 (by decide) (fun hb => ?_) (fun hb => ?_)
        · have h := ite_f hb h
          refine g_aload_n X (j := 0) dX10_setCamera_78 rfl rfl ?_
          refine gf_X10_30 X gT_c0 dX10_setCamera_79 ?_
          refine g_iload_n X (j := 1) dX10_setCamera_82 rfl rfl ?_
          refine g_iload_n X (j := 2) dX10_setCamera_83 rfl rfl ?_
          refine g_iload_n X (j := 3) dX10_setCamera_84 rfl rfl ?_
          refine g_iload X (j := 4) dX10_setCamera_85 rfl ?_
          refine g_iload X (j := 5) dX10_setCamera_87 rfl ?_
          obtain ⟨M4, hc3, h⟩ := bndO_e h
          refine gc_X10_174 X gT_c4 (ct_X1_turnRow X.htr  hc3) (by decide) (Nat.le_of_ble_eq_true rfl) dX10_setCamera_89 ?_
          refine g_aload_n X (j := 0) dX10_setCamera_92 rfl rfl ?_
          obtain ⟨v6, hc5, h⟩ := bndO_e h
          refine gc_X10_178 X gT_c0 (ct_X10_cornersInFront X.htr  hc5) (by decide) (Nat.le_of_ble_eq_true rfl) dX10_setCamera_93 ?_
          exact hR v6 M4 _ _ (Option.some.inj h).symm dX10_setCamera_96
        · have h := ite_t hb h
          exact gthr_1 X (by decide) (List.mem_of_getElem? (i := 17) rfl) (Nat.le_of_ble_eq_true rfl) dX10_setCamera_68 dX10_setCamera_71 (Or.inl ⟨dX10_setCamera_72, dX10_setCamera_74, dX10_setCamera_77⟩) (hX 1 M (Option.some.inj h).symm)
      · have h := ite_t hb h
        refine g_lv [] rfl ?_
        exact bw_X10_setCamera_44 X  hR hX h
theorem ct_X10_setCamera {l : Launch} {z : GZ} (htr : l.stackTraces = false) {i0 : Int32} {i1 : Int32} {i2 : Int32} {i3 : Int32} {i4 : Int32}  {M : GM} {F : Nat} {v : Int32} {M1 : GM} (h : f_X10_setCamera F i0 i1 i2 i3 i4 M = some (Sum.inr (v, M1))) : gMet l z yX10_setCamera cX10_setCamera 6 (some .int) 7 [.ref (gad z 0), .int i0, .int i1, .int i2, .int i3, .int i4] M (some (.int v)) M1 := gMet_ofI (by decide +kernel) (Nat.le_of_ble_eq_true rfl) htr rfl (fun x X ez el hR => by subst ez; subst el; exact w_X10_setCamera X  (fun v9 M9 lv9 pc9 e9 d9 => by cases e9; exact hR lv9 pc9 d9) (by intros; rename_i e9; cases e9) h)
theorem cx_X10_setCamera {l : Launch} {z : GZ} (htr : l.stackTraces = false) {i0 : Int32} {i1 : Int32} {i2 : Int32} {i3 : Int32} {i4 : Int32}  {M : GM} {F n : Nat} {M1 : GM} (h : f_X10_setCamera F i0 i1 i2 i3 i4 M = some (Sum.inl (n, M1))) : gMetX l z yX10_setCamera cX10_setCamera 6 (some .int) 7 [.ref (gad z 0), .int i0, .int i1, .int i2, .int i3, .int i4] M n M1 := gMetX_of (by decide +kernel) (Nat.le_of_ble_eq_true rfl) htr (fun x X ez el hT => by subst ez; subst el; exact w_X10_setCamera X  (by intros; rename_i e9 _; cases e9) (fun n9 M9 e9 => by cases e9; exact hT) h)
theorem dX10_setLens_0 : decode cX10_setLens 0 = .ok (.iload_n 1, 1) := by decide +kernel
theorem dX10_setLens_1 : decode cX10_setLens 1 = .ok (.iconst 1, 1) := by decide +kernel
theorem dX10_setLens_2 : decode cX10_setLens 2 = .ok (.sipush 1000, 3) := by decide +kernel
theorem dX10_setLens_5 : decode cX10_setLens 5 = .ok (.invokestatic 86, 3) := by decide +kernel
theorem dX10_setLens_8 : decode cX10_setLens 8 = .ok (.ifCond .ne 13, 3) := by decide +kernel
theorem dX10_setLens_11 : decode cX10_setLens 11 = .ok (.new 90, 3) := by decide +kernel
theorem dX10_setLens_14 : decode cX10_setLens 14 = .ok (.dup, 1) := by decide +kernel
theorem dX10_setLens_15 : decode cX10_setLens 15 = .ok (.ldc 182, 2) := by decide +kernel
theorem dX10_setLens_17 : decode cX10_setLens 17 = .ok (.invokespecial 94, 3) := by decide +kernel
theorem dX10_setLens_20 : decode cX10_setLens 20 = .ok (.athrow, 1) := by decide +kernel
theorem dX10_setLens_21 : decode cX10_setLens 21 = .ok (.iload_n 2, 1) := by decide +kernel
theorem dX10_setLens_22 : decode cX10_setLens 22 = .ok (.iconst 1, 1) := by decide +kernel
theorem dX10_setLens_23 : decode cX10_setLens 23 = .ok (.sipush 500, 3) := by decide +kernel
theorem dX10_setLens_26 : decode cX10_setLens 26 = .ok (.invokestatic 86, 3) := by decide +kernel
theorem dX10_setLens_29 : decode cX10_setLens 29 = .ok (.ifCond .ne 13, 3) := by decide +kernel
theorem dX10_setLens_32 : decode cX10_setLens 32 = .ok (.new 90, 3) := by decide +kernel
theorem dX10_setLens_35 : decode cX10_setLens 35 = .ok (.dup, 1) := by decide +kernel
theorem dX10_setLens_36 : decode cX10_setLens 36 = .ok (.ldc 184, 2) := by decide +kernel
theorem dX10_setLens_38 : decode cX10_setLens 38 = .ok (.invokespecial 94, 3) := by decide +kernel
theorem dX10_setLens_41 : decode cX10_setLens 41 = .ok (.athrow, 1) := by decide +kernel
theorem dX10_setLens_42 : decode cX10_setLens 42 = .ok (.aload_n 0, 1) := by decide +kernel
theorem dX10_setLens_43 : decode cX10_setLens 43 = .ok (.getfield 30, 3) := by decide +kernel
theorem dX10_setLens_46 : decode cX10_setLens 46 = .ok (.iload_n 1, 1) := by decide +kernel
theorem dX10_setLens_47 : decode cX10_setLens 47 = .ok (.putfield 186, 3) := by decide +kernel
theorem dX10_setLens_50 : decode cX10_setLens 50 = .ok (.aload_n 0, 1) := by decide +kernel
theorem dX10_setLens_51 : decode cX10_setLens 51 = .ok (.getfield 30, 3) := by decide +kernel
theorem dX10_setLens_54 : decode cX10_setLens 54 = .ok (.iload_n 2, 1) := by decide +kernel
theorem dX10_setLens_55 : decode cX10_setLens 55 = .ok (.putfield 189, 3) := by decide +kernel
theorem dX10_setLens_58 : decode cX10_setLens 58 = .ok (.aload_n 0, 1) := by decide +kernel
theorem dX10_setLens_59 : decode cX10_setLens 59 = .ok (.invokevirtual 178, 3) := by decide +kernel
theorem dX10_setLens_62 : decode cX10_setLens 62 = .ok (.ireturn, 1) := by decide +kernel
def f_X10_setLens (F : Nat) (i0 : Int32) (i1 : Int32) (M : GM) : Option ((Nat × GM) ⊕ (Int32 × GM)) := if (f_X10_isWithin i0 (1 : Int32) (1000 : Int32)) = 0 then (some (Sum.inl (1, M))) else (if (f_X10_isWithin i1 (1 : Int32) (500 : Int32)) = 0 then (some (Sum.inl (1, M))) else (bnd (sI M 4 1 i0) (fun M1 => bnd (sI M1 4 2 i1) (fun M3 => bndO (f_X10_cornersInFront F M3) (fun v6 => some (Sum.inr (v6, M3)))))))
set_option maxHeartbeats 4000000 in
set_option maxRecDepth 100000 in
theorem w_X10_setLens {x : GX} (X : GC x cX10_setLens 3 RX10 6) {i0 : Int32} {i1 : Int32}  {F : Nat} {M : GM} {r9 : ((Nat × GM) ⊕ (Int32 × GM))} (hR : ∀ (v9 : Int32) (M9 : GM) (lv9 : List (Nat × Value)) (pc9 : Nat), r9 = Sum.inr (v9, M9) → decode cX10_setLens pc9 = .ok (.ireturn, 1) → WG x M9 lv9 pc9 [.int v9]) (hX : ∀ (n9 : Nat) (M9 : GM), r9 = Sum.inl (n9, M9) → GThr x n9 M9) (h : f_X10_setLens F i0 i1 M = some r9) : WG x M [(0, .ref (gad (xz x) 0)), (1, .int i0), (2, .int i1)] 0 [] := by
  unfold f_X10_setLens at h
  refine g_iload_n X (j := 1) dX10_setLens_0 rfl rfl ?_
  refine g_iconst X (v := 1) dX10_setLens_1 (by decide) ?_
  refine g_sipush X (v := 1000) dX10_setLens_2 (by decide) ?_
  refine gc_X10_86 X (ct_X10_isWithin X.htr ) (by decide) (Nat.le_of_ble_eq_true rfl) dX10_setLens_5 ?_
  refine g_if_ne X (tgt := 21) dX10_setLens_8 (by decide) (fun hb => ?_) (fun hb => ?_)
  · have h := ite_f hb h
    refine g_iload_n X (j := 2) dX10_setLens_21 rfl rfl ?_
    refine g_iconst X (v := 1) dX10_setLens_22 (by decide) ?_
    refine g_sipush X (v := 500) dX10_setLens_23 (by decide) ?_
    refine gc_X10_86 X (ct_X10_isWithin X.htr ) (by decide) (Nat.le_of_ble_eq_true rfl) dX10_setLens_26 ?_
    refine g_if_ne X (tgt := 42) dX10_setLens_29 (by decide) (fun hb => ?_) (fun hb => ?_)
    · have h := ite_f hb h
      refine g_aload_n X (j := 0) dX10_setLens_42 rfl rfl ?_
      refine gf_X10_30 X gT_c0 dX10_setLens_43 ?_
      refine g_iload_n X (j := 1) dX10_setLens_46 rfl rfl ?_
      refine gp_X10_186 X gT_c4 dX10_setLens_47 ?_
      refine g_mem (fun M1 e2 => ?_)
      have h := bnd_e e2 h
      refine g_aload_n X (j := 0) dX10_setLens_50 rfl rfl ?_
      refine gf_X10_30 X gT_c0 dX10_setLens_51 ?_
      refine g_iload_n X (j := 2) dX10_setLens_54 rfl rfl ?_
      refine gp_X10_189 X gT_c4 dX10_setLens_55 ?_
      refine g_mem (fun M3 e4 => ?_)
      have h := bnd_e e4 h
      refine g_aload_n X (j := 0) dX10_setLens_58 rfl rfl ?_
      obtain ⟨v6, hc5, h⟩ := bndO_e h
      refine gc_X10_178 X gT_c0 (ct_X10_cornersInFront X.htr  hc5) (by decide) (Nat.le_of_ble_eq_true rfl) dX10_setLens_59 ?_
      exact hR v6 M3 _ _ (Option.some.inj h).symm dX10_setLens_62
    · have h := ite_t hb h
      exact gthr_1 X (by decide) (List.mem_of_getElem? (i := 19) rfl) (Nat.le_of_ble_eq_true rfl) dX10_setLens_32 dX10_setLens_35 (Or.inl ⟨dX10_setLens_36, dX10_setLens_38, dX10_setLens_41⟩) (hX 1 M (Option.some.inj h).symm)
  · have h := ite_t hb h
    exact gthr_1 X (by decide) (List.mem_of_getElem? (i := 18) rfl) (Nat.le_of_ble_eq_true rfl) dX10_setLens_11 dX10_setLens_14 (Or.inl ⟨dX10_setLens_15, dX10_setLens_17, dX10_setLens_20⟩) (hX 1 M (Option.some.inj h).symm)
theorem ct_X10_setLens {l : Launch} {z : GZ} (htr : l.stackTraces = false) {i0 : Int32} {i1 : Int32}  {M : GM} {F : Nat} {v : Int32} {M1 : GM} (h : f_X10_setLens F i0 i1 M = some (Sum.inr (v, M1))) : gMet l z yX10_setLens cX10_setLens 3 (some .int) 6 [.ref (gad z 0), .int i0, .int i1] M (some (.int v)) M1 := gMet_ofI (by decide +kernel) (Nat.le_of_ble_eq_true rfl) htr rfl (fun x X ez el hR => by subst ez; subst el; exact w_X10_setLens X  (fun v9 M9 lv9 pc9 e9 d9 => by cases e9; exact hR lv9 pc9 d9) (by intros; rename_i e9; cases e9) h)
theorem cx_X10_setLens {l : Launch} {z : GZ} (htr : l.stackTraces = false) {i0 : Int32} {i1 : Int32}  {M : GM} {F n : Nat} {M1 : GM} (h : f_X10_setLens F i0 i1 M = some (Sum.inl (n, M1))) : gMetX l z yX10_setLens cX10_setLens 3 (some .int) 6 [.ref (gad z 0), .int i0, .int i1] M n M1 := gMetX_of (by decide +kernel) (Nat.le_of_ble_eq_true rfl) htr (fun x X ez el hT => by subst ez; subst el; exact w_X10_setLens X  (by intros; rename_i e9 _; cases e9) (fun n9 M9 e9 => by cases e9; exact hT) h)
theorem dX10_setBackground_0 : decode cX10_setBackground 0 = .ok (.iload_n 1, 1) := by decide +kernel
theorem dX10_setBackground_1 : decode cX10_setBackground 1 = .ok (.invokestatic 82, 3) := by decide +kernel
theorem dX10_setBackground_4 : decode cX10_setBackground 4 = .ok (.aload_n 0, 1) := by decide +kernel
theorem dX10_setBackground_5 : decode cX10_setBackground 5 = .ok (.getfield 192, 3) := by decide +kernel
theorem dX10_setBackground_8 : decode cX10_setBackground 8 = .ok (.istore_n 2, 1) := by decide +kernel
theorem dX10_setBackground_9 : decode cX10_setBackground 9 = .ok (.aload_n 0, 1) := by decide +kernel
theorem dX10_setBackground_10 : decode cX10_setBackground 10 = .ok (.iload_n 1, 1) := by decide +kernel
theorem dX10_setBackground_11 : decode cX10_setBackground 11 = .ok (.putfield 192, 3) := by decide +kernel
theorem dX10_setBackground_14 : decode cX10_setBackground 14 = .ok (.iload_n 2, 1) := by decide +kernel
theorem dX10_setBackground_15 : decode cX10_setBackground 15 = .ok (.ireturn, 1) := by decide +kernel
def f_X10_setBackground (F : Nat) (i0 : Int32) (M : GM) : Option ((Nat × GM) ⊕ (Int32 × GM)) := bndT (f_X10_requireColour F i0 M) (fun n2 => some (Sum.inl (n2, M))) (fun _ => bnd (gI M 0 14) (fun v3 => bnd (sI M 0 14 i0) (fun M5 => some (Sum.inr (v3, M5)))))
set_option maxHeartbeats 4000000 in
set_option maxRecDepth 100000 in
theorem w_X10_setBackground {x : GX} (X : GC x cX10_setBackground 3 RX10 7) {i0 : Int32}  {F : Nat} {M : GM} {r9 : ((Nat × GM) ⊕ (Int32 × GM))} (hR : ∀ (v9 : Int32) (M9 : GM) (lv9 : List (Nat × Value)) (pc9 : Nat), r9 = Sum.inr (v9, M9) → decode cX10_setBackground pc9 = .ok (.ireturn, 1) → WG x M9 lv9 pc9 [.int v9]) (hX : ∀ (n9 : Nat) (M9 : GM), r9 = Sum.inl (n9, M9) → GThr x n9 M9) (h : f_X10_setBackground F i0 M = some r9) : WG x M [(0, .ref (gad (xz x) 0)), (1, .int i0)] 0 [] := by
  unfold f_X10_setBackground at h
  refine g_iload_n X (j := 1) dX10_setBackground_0 rfl rfl ?_
  rcases bndT_e h with ⟨n2, hc1, h⟩ | ⟨⟨⟩, hc1, h⟩
  · exact gx_X10_82 X (cx_X10_requireColour X.htr  hc1) (by decide) (Nat.le_of_ble_eq_true rfl) dX10_setBackground_1 (hX n2 M (Option.some.inj h).symm)
  refine gc_X10_82 X (ct_X10_requireColour X.htr  hc1) (by decide) (Nat.le_of_ble_eq_true rfl) dX10_setBackground_1 ?_
  refine g_aload_n X (j := 0) dX10_setBackground_4 rfl rfl ?_
  refine gf_X10_192 X gT_c0 dX10_setBackground_5 ?_
  refine g_topi (fun v3 e4 => ?_)
  have h := bnd_e e4 h
  refine g_istore_n X (lv' := [(2, .int v3), (0, .ref (gad (xz x) 0)), (1, .int i0)]) dX10_setBackground_8 rfl (by decide) rfl ?_
  refine g_aload_n X (j := 1) dX10_setBackground_9 rfl rfl ?_
  refine g_iload_n X (j := 2) dX10_setBackground_10 rfl rfl ?_
  refine gp_X10_192 X gT_c0 dX10_setBackground_11 ?_
  refine g_mem (fun M5 e6 => ?_)
  have h := bnd_e e6 h
  refine g_iload_n X (j := 0) dX10_setBackground_14 rfl rfl ?_
  exact hR v3 M5 _ _ (Option.some.inj h).symm dX10_setBackground_15
theorem ct_X10_setBackground {l : Launch} {z : GZ} (htr : l.stackTraces = false) {i0 : Int32}  {M : GM} {F : Nat} {v : Int32} {M1 : GM} (h : f_X10_setBackground F i0 M = some (Sum.inr (v, M1))) : gMet l z yX10_setBackground cX10_setBackground 3 (some .int) 7 [.ref (gad z 0), .int i0] M (some (.int v)) M1 := gMet_ofI (by decide +kernel) (Nat.le_of_ble_eq_true rfl) htr rfl (fun x X ez el hR => by subst ez; subst el; exact w_X10_setBackground X  (fun v9 M9 lv9 pc9 e9 d9 => by cases e9; exact hR lv9 pc9 d9) (by intros; rename_i e9; cases e9) h)
theorem cx_X10_setBackground {l : Launch} {z : GZ} (htr : l.stackTraces = false) {i0 : Int32}  {M : GM} {F n : Nat} {M1 : GM} (h : f_X10_setBackground F i0 M = some (Sum.inl (n, M1))) : gMetX l z yX10_setBackground cX10_setBackground 3 (some .int) 7 [.ref (gad z 0), .int i0] M n M1 := gMetX_of (by decide +kernel) (Nat.le_of_ble_eq_true rfl) htr (fun x X ez el hT => by subst ez; subst el; exact w_X10_setBackground X  (by intros; rename_i e9 _; cases e9) (fun n9 M9 e9 => by cases e9; exact hT) h)
theorem dX10_corners_0 : decode cX10_corners 0 = .ok (.aload_n 0, 1) := by decide +kernel
theorem dX10_corners_1 : decode cX10_corners 1 = .ok (.getfield 97, 3) := by decide +kernel
theorem dX10_corners_4 : decode cX10_corners 4 = .ok (.ireturn, 1) := by decide +kernel
def f_X10_corners (M : GM) : Int32 := (gI M 0 12)
set_option maxHeartbeats 4000000 in
set_option maxRecDepth 100000 in
theorem w_X10_corners {x : GX} (X : GC x cX10_corners 1 RX10 0)   {M : GM} {r9 : Int32} (hR : ∀ (v9 : Int32) (lv9 : List (Nat × Value)) (pc9 : Nat), r9 = v9 → decode cX10_corners pc9 = .ok (.ireturn, 1) → WG x M lv9 pc9 [.int v9]) (h : f_X10_corners M = r9) : WG x M [(0, .ref (gad (xz x) 0))] 0 [] := by
  unfold f_X10_corners at h
  refine g_aload_n X (j := 0) dX10_corners_0 rfl rfl ?_
  refine gf_X10_97 X gT_c0 dX10_corners_1 ?_
  exact hR (gI M 0 12) _ _ h.symm dX10_corners_4
theorem ct_X10_corners {l : Launch} {z : GZ} (htr : l.stackTraces = false)   {M : GM} : gMet l z yX10_corners cX10_corners 1 (some .int) 0 [.ref (gad z 0)] M (some (.int (f_X10_corners M))) M := gMet_ofI (by decide +kernel) (Nat.le_of_ble_eq_true rfl) htr rfl (fun x X ez el hR => by subst ez; subst el; exact w_X10_corners X  (fun v9 lv9 pc9 e9 d9 => by cases e9; exact hR lv9 pc9 d9) rfl)
theorem dX10_panes_0 : decode cX10_panes 0 = .ok (.aload_n 0, 1) := by decide +kernel
theorem dX10_panes_1 : decode cX10_panes 1 = .ok (.getfield 121, 3) := by decide +kernel
theorem dX10_panes_4 : decode cX10_panes 4 = .ok (.ireturn, 1) := by decide +kernel
def f_X10_panes (M : GM) : Int32 := (gI M 0 13)
set_option maxHeartbeats 4000000 in
set_option maxRecDepth 100000 in
theorem w_X10_panes {x : GX} (X : GC x cX10_panes 1 RX10 0)   {M : GM} {r9 : Int32} (hR : ∀ (v9 : Int32) (lv9 : List (Nat × Value)) (pc9 : Nat), r9 = v9 → decode cX10_panes pc9 = .ok (.ireturn, 1) → WG x M lv9 pc9 [.int v9]) (h : f_X10_panes M = r9) : WG x M [(0, .ref (gad (xz x) 0))] 0 [] := by
  unfold f_X10_panes at h
  refine g_aload_n X (j := 0) dX10_panes_0 rfl rfl ?_
  refine gf_X10_121 X gT_c0 dX10_panes_1 ?_
  exact hR (gI M 0 13) _ _ h.symm dX10_panes_4
theorem ct_X10_panes {l : Launch} {z : GZ} (htr : l.stackTraces = false)   {M : GM} : gMet l z yX10_panes cX10_panes 1 (some .int) 0 [.ref (gad z 0)] M (some (.int (f_X10_panes M))) M := gMet_ofI (by decide +kernel) (Nat.le_of_ble_eq_true rfl) htr rfl (fun x X ez el hR => by subst ez; subst el; exact w_X10_panes X  (fun v9 lv9 pc9 e9 d9 => by cases e9; exact hR lv9 pc9 d9) rfl)
theorem dX10_seen_0 : decode cX10_seen 0 = .ok (.aload_n 0, 1) := by decide +kernel
theorem dX10_seen_1 : decode cX10_seen 1 = .ok (.iload_n 1, 1) := by decide +kernel
theorem dX10_seen_2 : decode cX10_seen 2 = .ok (.invokevirtual 118, 3) := by decide +kernel
theorem dX10_seen_5 : decode cX10_seen 5 = .ok (.iload_n 2, 1) := by decide +kernel
theorem dX10_seen_6 : decode cX10_seen 6 = .ok (.invokestatic 167, 3) := by decide +kernel
theorem dX10_seen_9 : decode cX10_seen 9 = .ok (.aload_n 0, 1) := by decide +kernel
theorem dX10_seen_10 : decode cX10_seen 10 = .ok (.getfield 30, 3) := by decide +kernel
theorem dX10_seen_13 : decode cX10_seen 13 = .ok (.iload_n 2, 1) := by decide +kernel
theorem dX10_seen_14 : decode cX10_seen 14 = .ok (.aload_n 0, 1) := by decide +kernel
theorem dX10_seen_15 : decode cX10_seen 15 = .ok (.getfield 11, 3) := by decide +kernel
theorem dX10_seen_18 : decode cX10_seen 18 = .ok (.iload_n 1, 1) := by decide +kernel
theorem dX10_seen_19 : decode cX10_seen 19 = .ok (.aaload, 1) := by decide +kernel
theorem dX10_seen_20 : decode cX10_seen 20 = .ok (.invokevirtual 195, 3) := by decide +kernel
theorem dX10_seen_23 : decode cX10_seen 23 = .ok (.ireturn, 1) := by decide +kernel
def f_X10_seen (F : Nat) (i0 : Int32) (i1 : Int32) (M : GM) : Option (Nat ⊕ Int32) := bndT (f_X10_requireCorner F i0 M) (fun n2 => some (Sum.inl n2)) (fun _ => bndT (f_X10_requireCameraRow F i1 M) (fun n4 => some (Sum.inl n4)) (fun _ => grd (gIn i0 (gN 1)) (bnd (gR 1 i0.toNatClampNeg) (fun o6 => bndO (f_X1_along F i1 o6 M) (fun v10 => some (Sum.inr v10))))))
set_option maxHeartbeats 4000000 in
set_option maxRecDepth 100000 in
theorem w_X10_seen {x : GX} (X : GC x cX10_seen 3 RX10 7) {i0 : Int32} {i1 : Int32}  {F : Nat} {M : GM} {r9 : (Nat ⊕ Int32)} (hR : ∀ (v9 : Int32) (lv9 : List (Nat × Value)) (pc9 : Nat), r9 = Sum.inr v9 → decode cX10_seen pc9 = .ok (.ireturn, 1) → WG x M lv9 pc9 [.int v9]) (hX : ∀ (n9 : Nat), r9 = Sum.inl n9 → GThr x n9 M) (h : f_X10_seen F i0 i1 M = some r9) : WG x M [(0, .ref (gad (xz x) 0)), (1, .int i0), (2, .int i1)] 0 [] := by
  unfold f_X10_seen at h
  refine g_aload_n X (j := 0) dX10_seen_0 rfl rfl ?_
  refine g_iload_n X (j := 1) dX10_seen_1 rfl rfl ?_
  rcases bndT_e h with ⟨n2, hc1, h⟩ | ⟨⟨⟩, hc1, h⟩
  · exact gx_X10_118 X gT_c0 (cx_X10_requireCorner X.htr  hc1) (by decide) (Nat.le_of_ble_eq_true rfl) dX10_seen_2 (hX n2 (Option.some.inj h).symm)
  refine gc_X10_118 X gT_c0 (ct_X10_requireCorner X.htr  hc1) (by decide) (Nat.le_of_ble_eq_true rfl) dX10_seen_2 ?_
  refine g_iload_n X (j := 2) dX10_seen_5 rfl rfl ?_
  rcases bndT_e h with ⟨n4, hc3, h⟩ | ⟨⟨⟩, hc3, h⟩
  · exact gx_X10_167 X (cx_X10_requireCameraRow X.htr  hc3) (by decide) (Nat.le_of_ble_eq_true rfl) dX10_seen_6 (hX n4 (Option.some.inj h).symm)
  refine gc_X10_167 X (ct_X10_requireCameraRow X.htr  hc3) (by decide) (Nat.le_of_ble_eq_true rfl) dX10_seen_6 ?_
  refine g_aload_n X (j := 0) dX10_seen_9 rfl rfl ?_
  refine gf_X10_30 X gT_c0 dX10_seen_10 ?_
  refine g_iload_n X (j := 2) dX10_seen_13 rfl rfl ?_
  refine g_aload_n X (j := 0) dX10_seen_14 rfl rfl ?_
  refine gf_X10_11 X gT_c0 dX10_seen_15 ?_
  refine g_iload_n X (j := 1) dX10_seen_18 rfl rfl ?_
  obtain ⟨hg5, h⟩ := grd_e h
  refine g_aald_23 X gT_c1 hg5 dX10_seen_19 ?_
  refine g_topr (fun o6 e7 => ?_)
  have h := bnd_e e7 h
  have k8 : gT o6 = 3 := by rw [e7]; exact gR_23 gT_c1 (gIn_lt hg5)
  obtain ⟨v10, hc9, h⟩ := bndO_e h
  refine gc_X10_195 X gT_c4 (ct_X1_along X.htr k8 hc9) (by decide) (Nat.le_of_ble_eq_true rfl) dX10_seen_20 ?_
  exact hR v10 _ _ (Option.some.inj h).symm dX10_seen_23
theorem ct_X10_seen {l : Launch} {z : GZ} (htr : l.stackTraces = false) {i0 : Int32} {i1 : Int32}  {M : GM} {F : Nat} {v : Int32} (h : f_X10_seen F i0 i1 M = some (Sum.inr v)) : gMet l z yX10_seen cX10_seen 3 (some .int) 7 [.ref (gad z 0), .int i0, .int i1] M (some (.int v)) M := gMet_ofI (by decide +kernel) (Nat.le_of_ble_eq_true rfl) htr rfl (fun x X ez el hR => by subst ez; subst el; exact w_X10_seen X  (fun v9 lv9 pc9 e9 d9 => by cases e9; exact hR lv9 pc9 d9) (by intros; rename_i e9; cases e9) h)
theorem cx_X10_seen {l : Launch} {z : GZ} (htr : l.stackTraces = false) {i0 : Int32} {i1 : Int32}  {M : GM} {F n : Nat} (h : f_X10_seen F i0 i1 M = some (Sum.inl n)) : gMetX l z yX10_seen cX10_seen 3 (some .int) 7 [.ref (gad z 0), .int i0, .int i1] M n M := gMetX_of (by decide +kernel) (Nat.le_of_ble_eq_true rfl) htr (fun x X ez el hT => by subst ez; subst el; exact w_X10_seen X  (by intros; rename_i e9 _; cases e9) (fun n9 e9 => by cases e9; exact hT) h)
theorem gc_X10_429 {x : GX} {cc : ByteArray} {nL d pc : Nat} {M : GM} {lv : List (Nat × Value)} {st : List Value} (X : GC x cc nL RX10 d) {i0 : Nat} {i1 : Nat} {M1 : GM} (ht : gT 4 = 1) (hM : gMet (xl x) (xz x) yX1_look cX1_look 3 none 1 [.ref (gad (xz x) 4), .ref (gad (xz x) i0), .ref (gad (xz x) i1)] M (none) M1) (hd : 2 ≤ d) (hsum : (st.map fun v => v.category).sum ≤ 8) (dec : decode cc pc = .ok (.invokevirtual 429, 3)) (go : WG x M1 lv (pc + 3) (st)) : WG x M lv pc (.ref (gad (xz x) i1) :: .ref (gad (xz x) i0) :: .ref (gad (xz x) 4) :: st) := g_callV X (n := 2) (As := [.ref (gad (xz x) i0), .ref (gad (xz x) i1)]) (rest := st) hM ht (by decide) (gE_1 ht) rfl q_163 q_164 q_165 q_18 q_166 (by decide +kernel) rfl hd (by decide) rfl hsum dec go
theorem gc_X10_439 {x : GX} {cc : ByteArray} {nL d pc : Nat} {M : GM} {lv : List (Nat × Value)} {st : List Value} (X : GC x cc nL RX10 d) {i0 : Int32} {M1 : GM} (ht : gT 6 = 8) (hM : gMet (xl x) (xz x) yX8_cutAt cX8_cutAt 7 none 3 [.ref (gad (xz x) 6), .int i0] M (none) M1) (hd : 4 ≤ d) (hsum : (st.map fun v => v.category).sum ≤ 8) (dec : decode cc pc = .ok (.invokevirtual 439, 3)) (go : WG x M1 lv (pc + 3) (st)) : WG x M lv pc (.int i0 :: .ref (gad (xz x) 6) :: st) := g_callV X (n := 1) (As := [.int i0]) (rest := st) hM ht (by decide) (gE_8 ht) rfl q_180 q_181 q_182 q_19 q_183 (by decide +kernel) rfl hd (by decide) rfl hsum dec go
theorem gc_X10_442 {x : GX} {cc : ByteArray} {nL d pc : Nat} {M : GM} {lv : List (Nat × Value)} {st : List Value} (X : GC x cc nL RX10 d) {i0 : Nat} {M1 : GM} (ht : gT 4 = 1) (hM : gMet (xl x) (xz x) yX1_project cX1_project 4 none 2 [.ref (gad (xz x) 4), .ref (gad (xz x) i0)] M (none) M1) (hd : 3 ≤ d) (hsum : (st.map fun v => v.category).sum ≤ 8) (dec : decode cc pc = .ok (.invokevirtual 442, 3)) (go : WG x M1 lv (pc + 3) (st)) : WG x M lv pc (.ref (gad (xz x) i0) :: .ref (gad (xz x) 4) :: st) := g_callV X (n := 1) (As := [.ref (gad (xz x) i0)]) (rest := st) hM ht (by decide) (gE_1 ht) rfl q_198 q_199 q_200 q_18 q_201 (by decide +kernel) rfl hd (by decide) rfl hsum dec go
theorem gc_X10_446 {x : GX} {cc : ByteArray} {nL d pc : Nat} {M : GM} {lv : List (Nat × Value)} {st : List Value} (X : GC x cc nL RX10 d) {i0 : Int32} {M1 : GM} (ht : gT 6 = 8) (hM : gMet (xl x) (xz x) yX8_split cX8_split 4 none 3 [.ref (gad (xz x) 6), .int i0] M (none) M1) (hd : 4 ≤ d) (hsum : (st.map fun v => v.category).sum ≤ 8) (dec : decode cc pc = .ok (.invokevirtual 446, 3)) (go : WG x M1 lv (pc + 3) (st)) : WG x M lv pc (.int i0 :: .ref (gad (xz x) 6) :: st) := g_callV X (n := 1) (As := [.int i0]) (rest := st) hM ht (by decide) (gE_8 ht) rfl q_210 q_211 q_212 q_19 q_213 (by decide +kernel) rfl hd (by decide) rfl hsum dec go
theorem dX10_formShape_0 : decode cX10_formShape 0 = .ok (.aload_n 0, 1) := by decide +kernel
theorem dX10_formShape_1 : decode cX10_formShape 1 = .ok (.getfield 17, 3) := by decide +kernel
theorem dX10_formShape_4 : decode cX10_formShape 4 = .ok (.iload_n 1, 1) := by decide +kernel
theorem dX10_formShape_5 : decode cX10_formShape 5 = .ok (.aaload, 1) := by decide +kernel
theorem dX10_formShape_6 : decode cX10_formShape 6 = .ok (.astore_n 2, 1) := by decide +kernel
theorem dX10_formShape_7 : decode cX10_formShape 7 = .ok (.aload_n 0, 1) := by decide +kernel
theorem dX10_formShape_8 : decode cX10_formShape 8 = .ok (.getfield 30, 3) := by decide +kernel
theorem dX10_formShape_11 : decode cX10_formShape 11 = .ok (.aload_n 0, 1) := by decide +kernel
theorem dX10_formShape_12 : decode cX10_formShape 12 = .ok (.getfield 11, 3) := by decide +kernel
theorem dX10_formShape_15 : decode cX10_formShape 15 = .ok (.aload_n 2, 1) := by decide +kernel
theorem dX10_formShape_16 : decode cX10_formShape 16 = .ok (.getfield 423, 3) := by decide +kernel
theorem dX10_formShape_19 : decode cX10_formShape 19 = .ok (.aaload, 1) := by decide +kernel
theorem dX10_formShape_20 : decode cX10_formShape 20 = .ok (.aload_n 0, 1) := by decide +kernel
theorem dX10_formShape_21 : decode cX10_formShape 21 = .ok (.getfield 37, 3) := by decide +kernel
theorem dX10_formShape_24 : decode cX10_formShape 24 = .ok (.getfield 426, 3) := by decide +kernel
theorem dX10_formShape_27 : decode cX10_formShape 27 = .ok (.iconst 0, 1) := by decide +kernel
theorem dX10_formShape_28 : decode cX10_formShape 28 = .ok (.aaload, 1) := by decide +kernel
theorem dX10_formShape_29 : decode cX10_formShape 29 = .ok (.invokevirtual 429, 3) := by decide +kernel
theorem dX10_formShape_32 : decode cX10_formShape 32 = .ok (.aload_n 0, 1) := by decide +kernel
theorem dX10_formShape_33 : decode cX10_formShape 33 = .ok (.getfield 30, 3) := by decide +kernel
theorem dX10_formShape_36 : decode cX10_formShape 36 = .ok (.aload_n 0, 1) := by decide +kernel
theorem dX10_formShape_37 : decode cX10_formShape 37 = .ok (.getfield 11, 3) := by decide +kernel
theorem dX10_formShape_40 : decode cX10_formShape 40 = .ok (.aload_n 2, 1) := by decide +kernel
theorem dX10_formShape_41 : decode cX10_formShape 41 = .ok (.getfield 433, 3) := by decide +kernel
theorem dX10_formShape_44 : decode cX10_formShape 44 = .ok (.aaload, 1) := by decide +kernel
theorem dX10_formShape_45 : decode cX10_formShape 45 = .ok (.aload_n 0, 1) := by decide +kernel
theorem dX10_formShape_46 : decode cX10_formShape 46 = .ok (.getfield 37, 3) := by decide +kernel
theorem dX10_formShape_49 : decode cX10_formShape 49 = .ok (.getfield 426, 3) := by decide +kernel
theorem dX10_formShape_52 : decode cX10_formShape 52 = .ok (.iconst 1, 1) := by decide +kernel
theorem dX10_formShape_53 : decode cX10_formShape 53 = .ok (.aaload, 1) := by decide +kernel
theorem dX10_formShape_54 : decode cX10_formShape 54 = .ok (.invokevirtual 429, 3) := by decide +kernel
theorem dX10_formShape_57 : decode cX10_formShape 57 = .ok (.aload_n 0, 1) := by decide +kernel
theorem dX10_formShape_58 : decode cX10_formShape 58 = .ok (.getfield 30, 3) := by decide +kernel
theorem dX10_formShape_61 : decode cX10_formShape 61 = .ok (.aload_n 0, 1) := by decide +kernel
theorem dX10_formShape_62 : decode cX10_formShape 62 = .ok (.getfield 11, 3) := by decide +kernel
theorem dX10_formShape_65 : decode cX10_formShape 65 = .ok (.aload_n 2, 1) := by decide +kernel
theorem dX10_formShape_66 : decode cX10_formShape 66 = .ok (.getfield 436, 3) := by decide +kernel
theorem dX10_formShape_69 : decode cX10_formShape 69 = .ok (.aaload, 1) := by decide +kernel
theorem dX10_formShape_70 : decode cX10_formShape 70 = .ok (.aload_n 0, 1) := by decide +kernel
theorem dX10_formShape_71 : decode cX10_formShape 71 = .ok (.getfield 37, 3) := by decide +kernel
theorem dX10_formShape_74 : decode cX10_formShape 74 = .ok (.getfield 426, 3) := by decide +kernel
theorem dX10_formShape_77 : decode cX10_formShape 77 = .ok (.iconst 2, 1) := by decide +kernel
theorem dX10_formShape_78 : decode cX10_formShape 78 = .ok (.aaload, 1) := by decide +kernel
theorem dX10_formShape_79 : decode cX10_formShape 79 = .ok (.invokevirtual 429, 3) := by decide +kernel
theorem dX10_formShape_82 : decode cX10_formShape 82 = .ok (.aload_n 0, 1) := by decide +kernel
theorem dX10_formShape_83 : decode cX10_formShape 83 = .ok (.getfield 37, 3) := by decide +kernel
theorem dX10_formShape_86 : decode cX10_formShape 86 = .ok (.aload_n 0, 1) := by decide +kernel
theorem dX10_formShape_87 : decode cX10_formShape 87 = .ok (.getfield 30, 3) := by decide +kernel
theorem dX10_formShape_90 : decode cX10_formShape 90 = .ok (.getfield 186, 3) := by decide +kernel
theorem dX10_formShape_93 : decode cX10_formShape 93 = .ok (.invokevirtual 439, 3) := by decide +kernel
theorem dX10_formShape_96 : decode cX10_formShape 96 = .ok (.iconst 0, 1) := by decide +kernel
theorem dX10_formShape_97 : decode cX10_formShape 97 = .ok (.istore_n 3, 1) := by decide +kernel
theorem dX10_formShape_98 : decode cX10_formShape 98 = .ok (.iload_n 3, 1) := by decide +kernel
theorem dX10_formShape_99 : decode cX10_formShape 99 = .ok (.aload_n 0, 1) := by decide +kernel
theorem dX10_formShape_100 : decode cX10_formShape 100 = .ok (.getfield 37, 3) := by decide +kernel
theorem dX10_formShape_103 : decode cX10_formShape 103 = .ok (.getfield 202, 3) := by decide +kernel
theorem dX10_formShape_106 : decode cX10_formShape 106 = .ok (.if_icmp .ge 25, 3) := by decide +kernel
theorem dX10_formShape_109 : decode cX10_formShape 109 = .ok (.aload_n 0, 1) := by decide +kernel
theorem dX10_formShape_110 : decode cX10_formShape 110 = .ok (.getfield 30, 3) := by decide +kernel
theorem dX10_formShape_113 : decode cX10_formShape 113 = .ok (.aload_n 0, 1) := by decide +kernel
theorem dX10_formShape_114 : decode cX10_formShape 114 = .ok (.getfield 37, 3) := by decide +kernel
theorem dX10_formShape_117 : decode cX10_formShape 117 = .ok (.getfield 210, 3) := by decide +kernel
theorem dX10_formShape_120 : decode cX10_formShape 120 = .ok (.iload_n 3, 1) := by decide +kernel
theorem dX10_formShape_121 : decode cX10_formShape 121 = .ok (.aaload, 1) := by decide +kernel
theorem dX10_formShape_122 : decode cX10_formShape 122 = .ok (.invokevirtual 442, 3) := by decide +kernel
theorem dX10_formShape_125 : decode cX10_formShape 125 = .ok (.iinc 3 1, 3) := by decide +kernel
theorem dX10_formShape_128 : decode cX10_formShape 128 = .ok (.goto (-30), 3) := by decide +kernel
theorem dX10_formShape_131 : decode cX10_formShape 131 = .ok (.aload_n 0, 1) := by decide +kernel
theorem dX10_formShape_132 : decode cX10_formShape 132 = .ok (.getfield 37, 3) := by decide +kernel
theorem dX10_formShape_135 : decode cX10_formShape 135 = .ok (.aload_n 2, 1) := by decide +kernel
theorem dX10_formShape_136 : decode cX10_formShape 136 = .ok (.getfield 144, 3) := by decide +kernel
theorem dX10_formShape_139 : decode cX10_formShape 139 = .ok (.invokevirtual 446, 3) := by decide +kernel
theorem dX10_formShape_142 : decode cX10_formShape 142 = .ok (.return_, 1) := by decide +kernel
def st_X10_formShape_98 (F : Nat) (p27 : Nat) (rec : Int32 → GM → Option GM) (a29 : Int32) (M : GM) : Option GM := if (gI M 6 3) ≤ a29 then (some M) else (grd (gIn a29 (gN 11)) (bnd (gR 11 a29.toNatClampNeg) (fun o31 => bndO (f_X1_project F o31 M) (fun M35 => bnd (a29 + (1 : Int32)) (fun v36 => rec v36 M35)))))
def lp_X10_formShape_98 (F : Nat) (p27 : Nat) : Nat → Int32 → GM → Option GM
  | 0 => fun _ _ => none
  | f + 1 => fun a29 M => st_X10_formShape_98 F p27 (lp_X10_formShape_98 F p27 f) a29 M
set_option maxHeartbeats 4000000 in
set_option maxRecDepth 100000 in
theorem lw_X10_formShape_98 {x : GX} (X : GC x cX10_formShape 4 RX10 4) {p27 : Nat} (k28 : gT p27 = 4) {F : Nat} {r9 : GM} (hE : ∀  (M9 : GM), r9 = M9 → WG x M9 [(0, .ref (gad (xz x) 0)), (2, .ref (gad (xz x) p27))] 131 []) : ∀ (f : Nat) (a29 : Int32) (M : GM), lp_X10_formShape_98 F p27 f a29 M = some r9 → WG x M [(0, .ref (gad (xz x) 0)), (2, .ref (gad (xz x) p27)), (3, .int a29)] 98 [] := by
  intro f
  induction f with
  | zero => intro a29 M h; cases h
  | succ f ih =>
    intro a29 M h
    have hrec := ih
    have h : st_X10_formShape_98 F p27 (lp_X10_formShape_98 F p27 f) a29 M = some r9 := h
    generalize lp_X10_formShape_98 F p27 f = rec at h hrec
    unfold st_X10_formShape_98 at h
    refine g_iload_n X (j := 2) dX10_formShape_98 rfl rfl ?_
    refine g_aload_n X (j := 0) dX10_formShape_99 rfl rfl ?_
    refine gf_X10_37 X gT_c0 dX10_formShape_100 ?_
    refine gf_X10_202 X gT_c6 dX10_formShape_103 ?_
    refine g_icmp_ge X (tgt := 131) dX10_formShape_106 (by decide) (fun hb => ?_) (fun hb => ?_)
    · have h := ite_t hb h
      refine g_lv [0, 1] rfl ?_
      exact hE M (Option.some.inj h).symm
    · have h := ite_f hb h
      refine g_aload_n X (j := 0) dX10_formShape_109 rfl rfl ?_
      refine gf_X10_30 X gT_c0 dX10_formShape_110 ?_
      refine g_aload_n X (j := 0) dX10_formShape_113 rfl rfl ?_
      refine gf_X10_37 X gT_c0 dX10_formShape_114 ?_
      refine gf_X10_210 X gT_c6 dX10_formShape_117 ?_
      refine g_iload_n X (j := 2) dX10_formShape_120 rfl rfl ?_
      obtain ⟨hg30, h⟩ := grd_e h
      refine g_aald_26 X gT_c11 hg30 dX10_formShape_121 ?_
      refine g_topr (fun o31 e32 => ?_)
      have h := bnd_e e32 h
      have k33 : gT o31 = 9 := by rw [e32]; exact gR_26 gT_c11 (gIn_lt hg30)
      obtain ⟨M35, hc34, h⟩ := bndO_e h
      refine gc_X10_442 X gT_c4 (ct_X1_project X.htr k33 hc34) (by decide) (Nat.le_of_ble_eq_true rfl) dX10_formShape_122 ?_
      refine g_iinc X (j := 2) (w := a29 + (1 : Int32)) (lv' := [(0, .ref (gad (xz x) 0)), (2, .ref (gad (xz x) p27))]) dX10_formShape_125 rfl (by rw [ii_1]) (by decide) (fun _ => rfl) (fun v36 e37 => ?_)
      have h := bnd_e e37 h
      refine g_goto X (tgt := 98) dX10_formShape_128 (by decide) ?_
      refine g_lv [1, 2, 0] rfl ?_
      exact hrec v36 M35 h
def f_X10_formShape (F : Nat) (i0 : Int32) (M : GM) : Option GM := grd (gIn i0 (gN 2)) (bnd (gR 2 i0.toNatClampNeg) (fun o2 => grd (gIn (gI M o2 0) (gN 1)) (bnd (gR 1 (gI M o2 0).toNatClampNeg) (fun o6 => bndO (f_X1_look F o6 8 M) (fun M10 => grd (gIn (gI M10 o2 1) (gN 1)) (bnd (gR 1 (gI M10 o2 1).toNatClampNeg) (fun o12 => bndO (f_X1_look F o12 9 M10) (fun M16 => grd (gIn (gI M16 o2 2) (gN 1)) (bnd (gR 1 (gI M16 o2 2).toNatClampNeg) (fun o18 => bndO (f_X1_look F o18 10 M16) (fun M22 => bndO (f_X8_cutAt F (gI M22 4 1) M22) (fun M24 => bnd (0 : Int32) (fun v25 => bndO (lp_X10_formShape_98 F o2 F v25 M24) (fun M38 => bndO (f_X8_split F (gI M38 o2 5) M38) (fun M41 => some M41)))))))))))))))
set_option maxHeartbeats 4000000 in
set_option maxRecDepth 100000 in
theorem w_X10_formShape {x : GX} (X : GC x cX10_formShape 4 RX10 4) {i0 : Int32}  {F : Nat} {M : GM} {r9 : GM} (hR : ∀ (M9 : GM) (lv9 : List (Nat × Value)) (pc9 : Nat), r9 = M9 → decode cX10_formShape pc9 = .ok (.return_, 1) → WG x M9 lv9 pc9 []) (h : f_X10_formShape F i0 M = some r9) : WG x M [(0, .ref (gad (xz x) 0)), (1, .int i0)] 0 [] := by
  unfold f_X10_formShape at h
  refine g_aload_n X (j := 0) dX10_formShape_0 rfl rfl ?_
  refine gf_X10_17 X gT_c0 dX10_formShape_1 ?_
  refine g_iload_n X (j := 1) dX10_formShape_4 rfl rfl ?_
  obtain ⟨hg1, h⟩ := grd_e h
  refine g_aald_24 X gT_c2 hg1 dX10_formShape_5 ?_
  refine g_topr (fun o2 e3 => ?_)
  have h := bnd_e e3 h
  have k4 : gT o2 = 4 := by rw [e3]; exact gR_24 gT_c2 (gIn_lt hg1)
  refine g_astore_n X (lv' := [(2, .ref (gad (xz x) o2)), (0, .ref (gad (xz x) 0)), (1, .int i0)]) dX10_formShape_6 rfl (by decide) rfl ?_
  refine g_aload_n X (j := 1) dX10_formShape_7 rfl rfl ?_
  refine gf_X10_30 X gT_c0 dX10_formShape_8 ?_
  refine g_aload_n X (j := 1) dX10_formShape_11 rfl rfl ?_
  refine gf_X10_11 X gT_c0 dX10_formShape_12 ?_
  refine g_aload_n X (j := 0) dX10_formShape_15 rfl rfl ?_
  refine gf_X10_423 X k4 dX10_formShape_16 ?_
  obtain ⟨hg5, h⟩ := grd_e h
  refine g_aald_23 X gT_c1 hg5 dX10_formShape_19 ?_
  refine g_topr (fun o6 e7 => ?_)
  have h := bnd_e e7 h
  have k8 : gT o6 = 3 := by rw [e7]; exact gR_23 gT_c1 (gIn_lt hg5)
  refine g_aload_n X (j := 1) dX10_formShape_20 rfl rfl ?_
  refine gf_X10_37 X gT_c0 dX10_formShape_21 ?_
  refine gf_X10_426 X gT_c6 dX10_formShape_24 ?_
  refine g_iconst X (v := 0) dX10_formShape_27 (by decide) ?_
  refine g_aald_26 X gT_c7 (by decide +kernel) dX10_formShape_28 ?_
  rw [show gR 7 (Int32.toNatClampNeg 0) = 8 by decide +kernel]
  obtain ⟨M10, hc9, h⟩ := bndO_e h
  refine gc_X10_429 X gT_c4 (ct_X1_look X.htr k8 gT_c8 hc9) (by decide) (Nat.le_of_ble_eq_true rfl) dX10_formShape_29 ?_
  refine g_aload_n X (j := 1) dX10_formShape_32 rfl rfl ?_
  refine gf_X10_30 X gT_c0 dX10_formShape_33 ?_
  refine g_aload_n X (j := 1) dX10_formShape_36 rfl rfl ?_
  refine gf_X10_11 X gT_c0 dX10_formShape_37 ?_
  refine g_aload_n X (j := 0) dX10_formShape_40 rfl rfl ?_
  refine gf_X10_433 X k4 dX10_formShape_41 ?_
  obtain ⟨hg11, h⟩ := grd_e h
  refine g_aald_23 X gT_c1 hg11 dX10_formShape_44 ?_
  refine g_topr (fun o12 e13 => ?_)
  have h := bnd_e e13 h
  have k14 : gT o12 = 3 := by rw [e13]; exact gR_23 gT_c1 (gIn_lt hg11)
  refine g_aload_n X (j := 1) dX10_formShape_45 rfl rfl ?_
  refine gf_X10_37 X gT_c0 dX10_formShape_46 ?_
  refine gf_X10_426 X gT_c6 dX10_formShape_49 ?_
  refine g_iconst X (v := 1) dX10_formShape_52 (by decide) ?_
  refine g_aald_26 X gT_c7 (by decide +kernel) dX10_formShape_53 ?_
  rw [show gR 7 (Int32.toNatClampNeg 1) = 9 by decide +kernel]
  obtain ⟨M16, hc15, h⟩ := bndO_e h
  refine gc_X10_429 X gT_c4 (ct_X1_look X.htr k14 gT_c9 hc15) (by decide) (Nat.le_of_ble_eq_true rfl) dX10_formShape_54 ?_
  refine g_aload_n X (j := 1) dX10_formShape_57 rfl rfl ?_
  refine gf_X10_30 X gT_c0 dX10_formShape_58 ?_
  refine g_aload_n X (j := 1) dX10_formShape_61 rfl rfl ?_
  refine gf_X10_11 X gT_c0 dX10_formShape_62 ?_
  refine g_aload_n X (j := 0) dX10_formShape_65 rfl rfl ?_
  refine gf_X10_436 X k4 dX10_formShape_66 ?_
  obtain ⟨hg17, h⟩ := grd_e h
  refine g_aald_23 X gT_c1 hg17 dX10_formShape_69 ?_
  refine g_topr (fun o18 e19 => ?_)
  have h := bnd_e e19 h
  have k20 : gT o18 = 3 := by rw [e19]; exact gR_23 gT_c1 (gIn_lt hg17)
  refine g_aload_n X (j := 1) dX10_formShape_70 rfl rfl ?_
  refine gf_X10_37 X gT_c0 dX10_formShape_71 ?_
  refine gf_X10_426 X gT_c6 dX10_formShape_74 ?_
  refine g_iconst X (v := 2) dX10_formShape_77 (by decide) ?_
  refine g_aald_26 X gT_c7 (by decide +kernel) dX10_formShape_78 ?_
  rw [show gR 7 (Int32.toNatClampNeg 2) = 10 by decide +kernel]
  obtain ⟨M22, hc21, h⟩ := bndO_e h
  refine gc_X10_429 X gT_c4 (ct_X1_look X.htr k20 gT_c10 hc21) (by decide) (Nat.le_of_ble_eq_true rfl) dX10_formShape_79 ?_
  refine g_aload_n X (j := 1) dX10_formShape_82 rfl rfl ?_
  refine gf_X10_37 X gT_c0 dX10_formShape_83 ?_
  refine g_aload_n X (j := 1) dX10_formShape_86 rfl rfl ?_
  refine gf_X10_30 X gT_c0 dX10_formShape_87 ?_
  refine gf_X10_186 X gT_c4 dX10_formShape_90 ?_
  obtain ⟨M24, hc23, h⟩ := bndO_e h
  refine gc_X10_439 X gT_c6 (ct_X8_cutAt X.htr  hc23) (by decide) (Nat.le_of_ble_eq_true rfl) dX10_formShape_93 ?_
  refine g_iconst X (v := 0) dX10_formShape_96 (by decide) ?_
  refine g_topi (fun v25 e26 => ?_)
  have h := bnd_e e26 h
  refine g_istore_n X (lv' := [(3, .int v25), (2, .ref (gad (xz x) o2)), (0, .ref (gad (xz x) 0)), (1, .int i0)]) dX10_formShape_97 rfl (by decide) rfl ?_
  refine g_lv [2, 1, 0] rfl ?_
  obtain ⟨M38, hl39, h⟩ := bndO_e h
  refine lw_X10_formShape_98 X k4 (fun M38_ e9 => ?_) F v25 M24 hl39
  cases e9
  refine g_aload_n X (j := 0) dX10_formShape_131 rfl rfl ?_
  refine gf_X10_37 X gT_c0 dX10_formShape_132 ?_
  refine g_aload_n X (j := 1) dX10_formShape_135 rfl rfl ?_
  refine gf_X10_144 X k4 dX10_formShape_136 ?_
  obtain ⟨M41, hc40, h⟩ := bndO_e h
  refine gc_X10_446 X gT_c6 (ct_X8_split X.htr  hc40) (by decide) (Nat.le_of_ble_eq_true rfl) dX10_formShape_139 ?_
  exact hR M41 _ _ (Option.some.inj h).symm dX10_formShape_142
theorem ct_X10_formShape {l : Launch} {z : GZ} (htr : l.stackTraces = false) {i0 : Int32}  {M : GM} {F : Nat} {M1 : GM} (h : f_X10_formShape F i0 M = some M1) : gMet l z yX10_formShape cX10_formShape 4 none 4 [.ref (gad z 0), .int i0] M (none) M1 := gMet_ofV (by decide +kernel) (Nat.le_of_ble_eq_true rfl) htr (fun x X ez el hR => by subst ez; subst el; exact w_X10_formShape X  (fun M9 lv9 pc9 e9 d9 => by cases e9; exact hR lv9 pc9 d9) h)
theorem gc_X10_199 {x : GX} {cc : ByteArray} {nL d pc : Nat} {M : GM} {lv : List (Nat × Value)} {st : List Value} (X : GC x cc nL RX10 d) {i0 : Int32} {M1 : GM} (ht : gT 0 = 10) (hM : gMet (xl x) (xz x) yX10_formShape cX10_formShape 4 none 4 [.ref (gad (xz x) 0), .int i0] M (none) M1) (hd : 5 ≤ d) (hsum : (st.map fun v => v.category).sum ≤ 8) (dec : decode cc pc = .ok (.invokevirtual 199, 3)) (go : WG x M1 lv (pc + 3) (st)) : WG x M lv pc (.int i0 :: .ref (gad (xz x) 0) :: st) := g_callV X (n := 1) (As := [.int i0]) (rest := st) hM ht (by decide) (gE_10 ht) rfl q_159 q_161 q_3 q_17 q_162 (by decide +kernel) rfl hd (by decide) rfl hsum dec go
theorem dX10_polygonOf_0 : decode cX10_polygonOf 0 = .ok (.aload_n 0, 1) := by decide +kernel
theorem dX10_polygonOf_1 : decode cX10_polygonOf 1 = .ok (.iload_n 1, 1) := by decide +kernel
theorem dX10_polygonOf_2 : decode cX10_polygonOf 2 = .ok (.invokevirtual 150, 3) := by decide +kernel
theorem dX10_polygonOf_5 : decode cX10_polygonOf 5 = .ok (.aload_n 0, 1) := by decide +kernel
theorem dX10_polygonOf_6 : decode cX10_polygonOf 6 = .ok (.iload_n 1, 1) := by decide +kernel
theorem dX10_polygonOf_7 : decode cX10_polygonOf 7 = .ok (.invokevirtual 199, 3) := by decide +kernel
theorem dX10_polygonOf_10 : decode cX10_polygonOf 10 = .ok (.aload_n 0, 1) := by decide +kernel
theorem dX10_polygonOf_11 : decode cX10_polygonOf 11 = .ok (.getfield 37, 3) := by decide +kernel
theorem dX10_polygonOf_14 : decode cX10_polygonOf 14 = .ok (.getfield 202, 3) := by decide +kernel
theorem dX10_polygonOf_17 : decode cX10_polygonOf 17 = .ok (.ireturn, 1) := by decide +kernel
def f_X10_polygonOf (F : Nat) (i0 : Int32) (M : GM) : Option ((Nat × GM) ⊕ (Int32 × GM)) := bndT (f_X10_requirePane F i0 M) (fun n2 => some (Sum.inl (n2, M))) (fun _ => bndO (f_X10_formShape F i0 M) (fun M4 => some (Sum.inr ((gI M4 6 3), M4))))
set_option maxHeartbeats 4000000 in
set_option maxRecDepth 100000 in
theorem w_X10_polygonOf {x : GX} (X : GC x cX10_polygonOf 2 RX10 7) {i0 : Int32}  {F : Nat} {M : GM} {r9 : ((Nat × GM) ⊕ (Int32 × GM))} (hR : ∀ (v9 : Int32) (M9 : GM) (lv9 : List (Nat × Value)) (pc9 : Nat), r9 = Sum.inr (v9, M9) → decode cX10_polygonOf pc9 = .ok (.ireturn, 1) → WG x M9 lv9 pc9 [.int v9]) (hX : ∀ (n9 : Nat) (M9 : GM), r9 = Sum.inl (n9, M9) → GThr x n9 M9) (h : f_X10_polygonOf F i0 M = some r9) : WG x M [(0, .ref (gad (xz x) 0)), (1, .int i0)] 0 [] := by
  unfold f_X10_polygonOf at h
  refine g_aload_n X (j := 0) dX10_polygonOf_0 rfl rfl ?_
  refine g_iload_n X (j := 1) dX10_polygonOf_1 rfl rfl ?_
  rcases bndT_e h with ⟨n2, hc1, h⟩ | ⟨⟨⟩, hc1, h⟩
  · exact gx_X10_150 X gT_c0 (cx_X10_requirePane X.htr  hc1) (by decide) (Nat.le_of_ble_eq_true rfl) dX10_polygonOf_2 (hX n2 M (Option.some.inj h).symm)
  refine gc_X10_150 X gT_c0 (ct_X10_requirePane X.htr  hc1) (by decide) (Nat.le_of_ble_eq_true rfl) dX10_polygonOf_2 ?_
  refine g_aload_n X (j := 0) dX10_polygonOf_5 rfl rfl ?_
  refine g_iload_n X (j := 1) dX10_polygonOf_6 rfl rfl ?_
  obtain ⟨M4, hc3, h⟩ := bndO_e h
  refine gc_X10_199 X gT_c0 (ct_X10_formShape X.htr  hc3) (by decide) (Nat.le_of_ble_eq_true rfl) dX10_polygonOf_7 ?_
  refine g_aload_n X (j := 0) dX10_polygonOf_10 rfl rfl ?_
  refine gf_X10_37 X gT_c0 dX10_polygonOf_11 ?_
  refine gf_X10_202 X gT_c6 dX10_polygonOf_14 ?_
  exact hR (gI M4 6 3) M4 _ _ (Option.some.inj h).symm dX10_polygonOf_17
theorem ct_X10_polygonOf {l : Launch} {z : GZ} (htr : l.stackTraces = false) {i0 : Int32}  {M : GM} {F : Nat} {v : Int32} {M1 : GM} (h : f_X10_polygonOf F i0 M = some (Sum.inr (v, M1))) : gMet l z yX10_polygonOf cX10_polygonOf 2 (some .int) 7 [.ref (gad z 0), .int i0] M (some (.int v)) M1 := gMet_ofI (by decide +kernel) (Nat.le_of_ble_eq_true rfl) htr rfl (fun x X ez el hR => by subst ez; subst el; exact w_X10_polygonOf X  (fun v9 M9 lv9 pc9 e9 d9 => by cases e9; exact hR lv9 pc9 d9) (by intros; rename_i e9; cases e9) h)
theorem cx_X10_polygonOf {l : Launch} {z : GZ} (htr : l.stackTraces = false) {i0 : Int32}  {M : GM} {F n : Nat} {M1 : GM} (h : f_X10_polygonOf F i0 M = some (Sum.inl (n, M1))) : gMetX l z yX10_polygonOf cX10_polygonOf 2 (some .int) 7 [.ref (gad z 0), .int i0] M n M1 := gMetX_of (by decide +kernel) (Nat.le_of_ble_eq_true rfl) htr (fun x X ez el hT => by subst ez; subst el; exact w_X10_polygonOf X  (by intros; rename_i e9 _; cases e9) (fun n9 M9 e9 => by cases e9; exact hT) h)
theorem dX10_requireSpot_0 : decode cX10_requireSpot 0 = .ok (.iload_n 1, 1) := by decide +kernel
theorem dX10_requireSpot_1 : decode cX10_requireSpot 1 = .ok (.iconst 0, 1) := by decide +kernel
theorem dX10_requireSpot_2 : decode cX10_requireSpot 2 = .ok (.aload_n 0, 1) := by decide +kernel
theorem dX10_requireSpot_3 : decode cX10_requireSpot 3 = .ok (.getfield 37, 3) := by decide +kernel
theorem dX10_requireSpot_6 : decode cX10_requireSpot 6 = .ok (.getfield 202, 3) := by decide +kernel
theorem dX10_requireSpot_9 : decode cX10_requireSpot 9 = .ok (.iconst 1, 1) := by decide +kernel
theorem dX10_requireSpot_10 : decode cX10_requireSpot 10 = .ok (.isub, 1) := by decide +kernel
theorem dX10_requireSpot_11 : decode cX10_requireSpot 11 = .ok (.invokestatic 86, 3) := by decide +kernel
theorem dX10_requireSpot_14 : decode cX10_requireSpot 14 = .ok (.ifCond .ne 14, 3) := by decide +kernel
theorem dX10_requireSpot_17 : decode cX10_requireSpot 17 = .ok (.new 156, 3) := by decide +kernel
theorem dX10_requireSpot_20 : decode cX10_requireSpot 20 = .ok (.dup, 1) := by decide +kernel
theorem dX10_requireSpot_21 : decode cX10_requireSpot 21 = .ok (.ldc_w 395, 3) := by decide +kernel
theorem dX10_requireSpot_24 : decode cX10_requireSpot 24 = .ok (.invokespecial 160, 3) := by decide +kernel
theorem dX10_requireSpot_27 : decode cX10_requireSpot 27 = .ok (.athrow, 1) := by decide +kernel
theorem dX10_requireSpot_28 : decode cX10_requireSpot 28 = .ok (.return_, 1) := by decide +kernel
def f_X10_requireSpot (F : Nat) (i0 : Int32) (M : GM) : Option (Nat ⊕ Unit) := if (f_X10_isWithin i0 (0 : Int32) ((gI M 6 3) - (1 : Int32))) = 0 then (some (Sum.inl 3)) else (some (Sum.inr ()))
set_option maxHeartbeats 4000000 in
set_option maxRecDepth 100000 in
theorem w_X10_requireSpot {x : GX} (X : GC x cX10_requireSpot 2 RX10 6) {i0 : Int32}  {F : Nat} {M : GM} {r9 : (Nat ⊕ Unit)} (hR : ∀ (lv9 : List (Nat × Value)) (pc9 : Nat), r9 = Sum.inr () → decode cX10_requireSpot pc9 = .ok (.return_, 1) → WG x M lv9 pc9 []) (hX : ∀ (n9 : Nat), r9 = Sum.inl n9 → GThr x n9 M) (h : f_X10_requireSpot F i0 M = some r9) : WG x M [(0, .ref (gad (xz x) 0)), (1, .int i0)] 0 [] := by
  unfold f_X10_requireSpot at h
  refine g_iload_n X (j := 1) dX10_requireSpot_0 rfl rfl ?_
  refine g_iconst X (v := 0) dX10_requireSpot_1 (by decide) ?_
  refine g_aload_n X (j := 0) dX10_requireSpot_2 rfl rfl ?_
  refine gf_X10_37 X gT_c0 dX10_requireSpot_3 ?_
  refine gf_X10_202 X gT_c6 dX10_requireSpot_6 ?_
  refine g_iconst X (v := 1) dX10_requireSpot_9 (by decide) ?_
  refine g_isub X dX10_requireSpot_10 ?_
  refine gc_X10_86 X (ct_X10_isWithin X.htr ) (by decide) (Nat.le_of_ble_eq_true rfl) dX10_requireSpot_11 ?_
  refine g_if_ne X (tgt := 28) dX10_requireSpot_14 (by decide) (fun hb => ?_) (fun hb => ?_)
  · have h := ite_f hb h
    exact hR  _ _ (Option.some.inj h).symm dX10_requireSpot_28
  · have h := ite_t hb h
    exact gthr_3 X (by decide) (List.mem_of_getElem? (i := 6) rfl) (Nat.le_of_ble_eq_true rfl) dX10_requireSpot_17 dX10_requireSpot_20 (Or.inr ⟨dX10_requireSpot_21, dX10_requireSpot_24, dX10_requireSpot_27⟩) (hX 3 (Option.some.inj h).symm)
theorem ct_X10_requireSpot {l : Launch} {z : GZ} (htr : l.stackTraces = false) {i0 : Int32}  {M : GM} {F : Nat} (h : f_X10_requireSpot F i0 M = some (Sum.inr ())) : gMet l z yX10_requireSpot cX10_requireSpot 2 none 6 [.ref (gad z 0), .int i0] M (none) M := gMet_ofV (by decide +kernel) (Nat.le_of_ble_eq_true rfl) htr (fun x X ez el hR => by subst ez; subst el; exact w_X10_requireSpot X  (fun  lv9 pc9 e9 d9 => by cases e9; exact hR lv9 pc9 d9) (by intros; rename_i e9; cases e9) h)
theorem cx_X10_requireSpot {l : Launch} {z : GZ} (htr : l.stackTraces = false) {i0 : Int32}  {M : GM} {F n : Nat} (h : f_X10_requireSpot F i0 M = some (Sum.inl n)) : gMetX l z yX10_requireSpot cX10_requireSpot 2 none 6 [.ref (gad z 0), .int i0] M n M := gMetX_of (by decide +kernel) (Nat.le_of_ble_eq_true rfl) htr (fun x X ez el hT => by subst ez; subst el; exact w_X10_requireSpot X  (by intros; rename_i e9 _; cases e9) (fun n9 e9 => by cases e9; exact hT) h)
theorem gm_X10_416 {x : GX} {cc : ByteArray} {nL d pc : Nat} {M : GM} {lv : List (Nat × Value)} {st : List Value} (X : GC x cc nL RX10 d) {a b : Int32} (hd : 1 ≤ d) (hsum : (st.map fun v => v.category).sum ≤ 8) (dec : decode cc pc = .ok (.invokestatic 416, 3)) (go : WG x M lv (pc + 3) (.int (g_min a b) :: st)) : WG x M lv pc (.int b :: .int a :: st) := fun H locs ls hP hO hS hl => va_mmin X.1 X.2.1 hl.1.symm X.2.2.2.1 (X.hw q_346) (X.hw q_230) (X.hw q_34) (X.hw q_231) (by have := X.2.2.2.2.2.2.2.1; omega) (by have := X.2.2.2.2.2.2.2.2.1; omega) X.2.2.2.2.2.2.2.2.2.1 X.2.2.2.2.2.2.2.2.2.2.1 dec (go H locs ls hP hO hS hl)
theorem gm_X10_419 {x : GX} {cc : ByteArray} {nL d pc : Nat} {M : GM} {lv : List (Nat × Value)} {st : List Value} (X : GC x cc nL RX10 d) {a b : Int32} (hd : 1 ≤ d) (hsum : (st.map fun v => v.category).sum ≤ 8) (dec : decode cc pc = .ok (.invokestatic 419, 3)) (go : WG x M lv (pc + 3) (.int (g_max a b) :: st)) : WG x M lv pc (.int b :: .int a :: st) := fun H locs ls hP hO hS hl => va_mmax X.1 X.2.1 hl.1.symm X.2.2.2.1 (X.hw q_345) (X.hw q_239) (X.hw q_34) (X.hw q_240) (by have := X.2.2.2.2.2.2.2.1; omega) (by have := X.2.2.2.2.2.2.2.2.1; omega) X.2.2.2.2.2.2.2.2.2.1 X.2.2.2.2.2.2.2.2.2.2.1 dec (go H locs ls hP hO hS hl)
theorem dX10_cutToScreenLimit_0 : decode cX10_cutToScreenLimit 0 = .ok (.sipush (-30001), 3) := by decide +kernel
theorem dX10_cutToScreenLimit_3 : decode cX10_cutToScreenLimit 3 = .ok (.sipush 30001, 3) := by decide +kernel
theorem dX10_cutToScreenLimit_6 : decode cX10_cutToScreenLimit 6 = .ok (.iload_n 0, 1) := by decide +kernel
theorem dX10_cutToScreenLimit_7 : decode cX10_cutToScreenLimit 7 = .ok (.invokestatic 416, 3) := by decide +kernel
theorem dX10_cutToScreenLimit_10 : decode cX10_cutToScreenLimit 10 = .ok (.invokestatic 419, 3) := by decide +kernel
theorem dX10_cutToScreenLimit_13 : decode cX10_cutToScreenLimit 13 = .ok (.ireturn, 1) := by decide +kernel
def f_X10_cutToScreenLimit (i0 : Int32) : Int32 := (g_max ((-30001) : Int32) (g_min (30001 : Int32) i0))
set_option maxHeartbeats 4000000 in
set_option maxRecDepth 100000 in
theorem w_X10_cutToScreenLimit {x : GX} (X : GC x cX10_cutToScreenLimit 1 RX10 1) {i0 : Int32}  {M : GM} {r9 : Int32} (hR : ∀ (v9 : Int32) (lv9 : List (Nat × Value)) (pc9 : Nat), r9 = v9 → decode cX10_cutToScreenLimit pc9 = .ok (.ireturn, 1) → WG x M lv9 pc9 [.int v9]) (h : f_X10_cutToScreenLimit i0 = r9) : WG x M [(0, .int i0)] 0 [] := by
  unfold f_X10_cutToScreenLimit at h
  refine g_sipush X (v := (-30001)) dX10_cutToScreenLimit_0 (by decide) ?_
  refine g_sipush X (v := 30001) dX10_cutToScreenLimit_3 (by decide) ?_
  refine g_iload_n X (j := 0) dX10_cutToScreenLimit_6 rfl rfl ?_
  refine gm_X10_416 X (by decide) (Nat.le_of_ble_eq_true rfl) dX10_cutToScreenLimit_7 ?_
  refine gm_X10_419 X (by decide) (Nat.le_of_ble_eq_true rfl) dX10_cutToScreenLimit_10 ?_
  exact hR (g_max ((-30001) : Int32) (g_min (30001 : Int32) i0)) _ _ h.symm dX10_cutToScreenLimit_13
theorem ct_X10_cutToScreenLimit {l : Launch} {z : GZ} (htr : l.stackTraces = false) {i0 : Int32}  {M : GM} : gMet l z yX10_cutToScreenLimit cX10_cutToScreenLimit 1 (some .int) 1 [.int i0] M (some (.int (f_X10_cutToScreenLimit i0))) M := gMet_ofI (by decide +kernel) (Nat.le_of_ble_eq_true rfl) htr rfl (fun x X ez el hR => by subst ez; subst el; exact w_X10_cutToScreenLimit X  (fun v9 lv9 pc9 e9 d9 => by cases e9; exact hR lv9 pc9 d9) rfl)
theorem gc_X10_205 {x : GX} {cc : ByteArray} {nL d pc : Nat} {M : GM} {lv : List (Nat × Value)} {st : List Value} (X : GC x cc nL RX10 d) {i0 : Int32} {M1 : GM} (ht : gT 0 = 10) (hM : gMet (xl x) (xz x) yX10_requireSpot cX10_requireSpot 2 none 6 [.ref (gad (xz x) 0), .int i0] M (none) M1) (hd : 7 ≤ d) (hsum : (st.map fun v => v.category).sum ≤ 8) (dec : decode cc pc = .ok (.invokevirtual 205, 3)) (go : WG x M1 lv (pc + 3) (st)) : WG x M lv pc (.int i0 :: .ref (gad (xz x) 0) :: st) := g_callV X (n := 1) (As := [.int i0]) (rest := st) hM ht (by decide) (gE_10 ht) rfl q_455 q_457 q_13 q_17 q_458 (by decide +kernel) rfl hd (by decide) rfl hsum dec go
theorem gx_X10_205 {x : GX} {cc : ByteArray} {nL d pc : Nat} {M : GM} {lv : List (Nat × Value)} {st : List Value} (X : GC x cc nL RX10 d) {i0 : Int32} {M1 : GM} {n9 : Nat} (ht : gT 0 = 10) (hM : gMetX (xl x) (xz x) yX10_requireSpot cX10_requireSpot 2 none 6 [.ref (gad (xz x) 0), .int i0] M n9 M1) (hd : 7 ≤ d) (hsum : (st.map fun v => v.category).sum ≤ 8) (dec : decode cc pc = .ok (.invokevirtual 205, 3)) (hT : GThr x n9 M1) : WG x M lv pc (.int i0 :: .ref (gad (xz x) 0) :: st) := g_xV X (n := 1) (As := [.int i0]) (rest := st) hM ht (by decide) (gE_10 ht) rfl q_455 q_457 q_13 q_17 q_458 (by decide +kernel) rfl hd (by decide) rfl hsum dec hT
theorem gc_X10_245 {x : GX} {cc : ByteArray} {nL d pc : Nat} {M : GM} {lv : List (Nat × Value)} {st : List Value} (X : GC x cc nL RX10 d) {i0 : Int32} {M1 : GM} {r : Int32} (hM : gMet (xl x) (xz x) yX10_cutToScreenLimit cX10_cutToScreenLimit 1 (some .int) 1 [.int i0] M (some (.int r)) M1) (hd : 2 ≤ d) (hsum : (st.map fun v => v.category).sum ≤ 8) (dec : decode cc pc = .ok (.invokestatic 245, 3)) (go : WG x M1 lv (pc + 3) (.int r :: st)) : WG x M lv pc (.int i0 :: st) := g_callS X (n := 1) (As := [.int i0]) (rest := st) hM q_461 q_462 q_17 q_463 (by decide +kernel) rfl hd (by decide) rfl hsum dec go
theorem dX10_screenOf_0 : decode cX10_screenOf 0 = .ok (.aload_n 0, 1) := by decide +kernel
theorem dX10_screenOf_1 : decode cX10_screenOf 1 = .ok (.iload_n 1, 1) := by decide +kernel
theorem dX10_screenOf_2 : decode cX10_screenOf 2 = .ok (.invokevirtual 150, 3) := by decide +kernel
theorem dX10_screenOf_5 : decode cX10_screenOf 5 = .ok (.aload_n 0, 1) := by decide +kernel
theorem dX10_screenOf_6 : decode cX10_screenOf 6 = .ok (.iload_n 1, 1) := by decide +kernel
theorem dX10_screenOf_7 : decode cX10_screenOf 7 = .ok (.invokevirtual 199, 3) := by decide +kernel
theorem dX10_screenOf_10 : decode cX10_screenOf 10 = .ok (.aload_n 0, 1) := by decide +kernel
theorem dX10_screenOf_11 : decode cX10_screenOf 11 = .ok (.iload_n 2, 1) := by decide +kernel
theorem dX10_screenOf_12 : decode cX10_screenOf 12 = .ok (.invokevirtual 205, 3) := by decide +kernel
theorem dX10_screenOf_15 : decode cX10_screenOf 15 = .ok (.iload_n 3, 1) := by decide +kernel
theorem dX10_screenOf_16 : decode cX10_screenOf 16 = .ok (.iconst 0, 1) := by decide +kernel
theorem dX10_screenOf_17 : decode cX10_screenOf 17 = .ok (.iconst 3, 1) := by decide +kernel
theorem dX10_screenOf_18 : decode cX10_screenOf 18 = .ok (.invokestatic 86, 3) := by decide +kernel
theorem dX10_screenOf_21 : decode cX10_screenOf 21 = .ok (.ifCond .ne 13, 3) := by decide +kernel
theorem dX10_screenOf_24 : decode cX10_screenOf 24 = .ok (.new 156, 3) := by decide +kernel
theorem dX10_screenOf_27 : decode cX10_screenOf 27 = .ok (.dup, 1) := by decide +kernel
theorem dX10_screenOf_28 : decode cX10_screenOf 28 = .ok (.ldc 240, 2) := by decide +kernel
theorem dX10_screenOf_30 : decode cX10_screenOf 30 = .ok (.invokespecial 160, 3) := by decide +kernel
theorem dX10_screenOf_33 : decode cX10_screenOf 33 = .ok (.athrow, 1) := by decide +kernel
theorem dX10_screenOf_34 : decode cX10_screenOf 34 = .ok (.aload_n 0, 1) := by decide +kernel
theorem dX10_screenOf_35 : decode cX10_screenOf 35 = .ok (.getfield 37, 3) := by decide +kernel
theorem dX10_screenOf_38 : decode cX10_screenOf 38 = .ok (.getfield 210, 3) := by decide +kernel
theorem dX10_screenOf_41 : decode cX10_screenOf 41 = .ok (.iload_n 2, 1) := by decide +kernel
theorem dX10_screenOf_42 : decode cX10_screenOf 42 = .ok (.aaload, 1) := by decide +kernel
theorem dX10_screenOf_43 : decode cX10_screenOf 43 = .ok (.astore 4, 2) := by decide +kernel
theorem dX10_screenOf_45 : decode cX10_screenOf 45 = .ok (.iload_n 3, 1) := by decide +kernel
theorem dX10_screenOf_46 : decode cX10_screenOf 46 = .ok (.tableswitch 50 0 2 #[26, 35, 44], 26) := by decide +kernel
theorem dX10_screenOf_72 : decode cX10_screenOf 72 = .ok (.aload 4, 2) := by decide +kernel
theorem dX10_screenOf_74 : decode cX10_screenOf 74 = .ok (.getfield 242, 3) := by decide +kernel
theorem dX10_screenOf_77 : decode cX10_screenOf 77 = .ok (.invokestatic 245, 3) := by decide +kernel
theorem dX10_screenOf_80 : decode cX10_screenOf 80 = .ok (.ireturn, 1) := by decide +kernel
theorem dX10_screenOf_81 : decode cX10_screenOf 81 = .ok (.aload 4, 2) := by decide +kernel
theorem dX10_screenOf_83 : decode cX10_screenOf 83 = .ok (.getfield 249, 3) := by decide +kernel
theorem dX10_screenOf_86 : decode cX10_screenOf 86 = .ok (.invokestatic 245, 3) := by decide +kernel
theorem dX10_screenOf_89 : decode cX10_screenOf 89 = .ok (.ireturn, 1) := by decide +kernel
theorem dX10_screenOf_90 : decode cX10_screenOf 90 = .ok (.aload 4, 2) := by decide +kernel
theorem dX10_screenOf_92 : decode cX10_screenOf 92 = .ok (.getfield 252, 3) := by decide +kernel
theorem dX10_screenOf_95 : decode cX10_screenOf 95 = .ok (.ireturn, 1) := by decide +kernel
theorem dX10_screenOf_96 : decode cX10_screenOf 96 = .ok (.aload 4, 2) := by decide +kernel
theorem dX10_screenOf_98 : decode cX10_screenOf 98 = .ok (.getfield 255, 3) := by decide +kernel
theorem dX10_screenOf_101 : decode cX10_screenOf 101 = .ok (.ireturn, 1) := by decide +kernel
def f_X10_screenOf (F : Nat) (i0 : Int32) (i1 : Int32) (i2 : Int32) (M : GM) : Option ((Nat × GM) ⊕ (Int32 × GM)) := bndT (f_X10_requirePane F i0 M) (fun n2 => some (Sum.inl (n2, M))) (fun _ => bndO (f_X10_formShape F i0 M) (fun M4 => bndT (f_X10_requireSpot F i1 M4) (fun n6 => some (Sum.inl (n6, M4))) (fun _ => if (f_X10_isWithin i2 (0 : Int32) (3 : Int32)) = 0 then (some (Sum.inl (3, M4))) else (grd (gIn i1 (gN 11)) (bnd (gR 11 i1.toNatClampNeg) (fun o8 => if i2 = (0 : Int32) then (some (Sum.inr ((f_X10_cutToScreenLimit (gI M4 o8 8)), M4))) else if i2 = (1 : Int32) then (some (Sum.inr ((f_X10_cutToScreenLimit (gI M4 o8 9)), M4))) else if i2 = (2 : Int32) then (some (Sum.inr ((gI M4 o8 10), M4))) else (some (Sum.inr ((gI M4 o8 11), M4)))))))))
set_option maxHeartbeats 4000000 in
set_option maxRecDepth 100000 in
theorem w_X10_screenOf {x : GX} (X : GC x cX10_screenOf 5 RX10 7) {i0 : Int32} {i1 : Int32} {i2 : Int32}  {F : Nat} {M : GM} {r9 : ((Nat × GM) ⊕ (Int32 × GM))} (hR : ∀ (v9 : Int32) (M9 : GM) (lv9 : List (Nat × Value)) (pc9 : Nat), r9 = Sum.inr (v9, M9) → decode cX10_screenOf pc9 = .ok (.ireturn, 1) → WG x M9 lv9 pc9 [.int v9]) (hX : ∀ (n9 : Nat) (M9 : GM), r9 = Sum.inl (n9, M9) → GThr x n9 M9) (h : f_X10_screenOf F i0 i1 i2 M = some r9) : WG x M [(0, .ref (gad (xz x) 0)), (1, .int i0), (2, .int i1), (3, .int i2)] 0 [] := by
  unfold f_X10_screenOf at h
  refine g_aload_n X (j := 0) dX10_screenOf_0 rfl rfl ?_
  refine g_iload_n X (j := 1) dX10_screenOf_1 rfl rfl ?_
  rcases bndT_e h with ⟨n2, hc1, h⟩ | ⟨⟨⟩, hc1, h⟩
  · exact gx_X10_150 X gT_c0 (cx_X10_requirePane X.htr  hc1) (by decide) (Nat.le_of_ble_eq_true rfl) dX10_screenOf_2 (hX n2 M (Option.some.inj h).symm)
  refine gc_X10_150 X gT_c0 (ct_X10_requirePane X.htr  hc1) (by decide) (Nat.le_of_ble_eq_true rfl) dX10_screenOf_2 ?_
  refine g_aload_n X (j := 0) dX10_screenOf_5 rfl rfl ?_
  refine g_iload_n X (j := 1) dX10_screenOf_6 rfl rfl ?_
  obtain ⟨M4, hc3, h⟩ := bndO_e h
  refine gc_X10_199 X gT_c0 (ct_X10_formShape X.htr  hc3) (by decide) (Nat.le_of_ble_eq_true rfl) dX10_screenOf_7 ?_
  refine g_aload_n X (j := 0) dX10_screenOf_10 rfl rfl ?_
  refine g_iload_n X (j := 2) dX10_screenOf_11 rfl rfl ?_
  rcases bndT_e h with ⟨n6, hc5, h⟩ | ⟨⟨⟩, hc5, h⟩
  · exact gx_X10_205 X gT_c0 (cx_X10_requireSpot X.htr  hc5) (by decide) (Nat.le_of_ble_eq_true rfl) dX10_screenOf_12 (hX n6 M4 (Option.some.inj h).symm)
  refine gc_X10_205 X gT_c0 (ct_X10_requireSpot X.htr  hc5) (by decide) (Nat.le_of_ble_eq_true rfl) dX10_screenOf_12 ?_
  refine g_iload_n X (j := 3) dX10_screenOf_15 rfl rfl ?_
  refine g_iconst X (v := 0) dX10_screenOf_16 (by decide) ?_
  refine g_iconst X (v := 3) dX10_screenOf_17 (by decide) ?_
  refine gc_X10_86 X (ct_X10_isWithin X.htr ) (by decide) (Nat.le_of_ble_eq_true rfl) dX10_screenOf_18 ?_
  refine g_if_ne X (tgt := 34) dX10_screenOf_21 (by decide) (fun hb => ?_) (fun hb => ?_)
  · have h := ite_f hb h
    refine g_aload_n X (j := 0) dX10_screenOf_34 rfl rfl ?_
    refine gf_X10_37 X gT_c0 dX10_screenOf_35 ?_
    refine gf_X10_210 X gT_c6 dX10_screenOf_38 ?_
    refine g_iload_n X (j := 2) dX10_screenOf_41 rfl rfl ?_
    obtain ⟨hg7, h⟩ := grd_e h
    refine g_aald_26 X gT_c11 hg7 dX10_screenOf_42 ?_
    refine g_topr (fun o8 e9 => ?_)
    have h := bnd_e e9 h
    have k10 : gT o8 = 9 := by rw [e9]; exact gR_26 gT_c11 (gIn_lt hg7)
    refine g_astore X (lv' := [(4, .ref (gad (xz x) o8)), (0, .ref (gad (xz x) 0)), (1, .int i0), (2, .int i1), (3, .int i2)]) dX10_screenOf_43 (by decide) rfl ?_
    refine g_iload_n X (j := 4) dX10_screenOf_45 rfl rfl ?_
    by_cases hs0 : i2 = (0 : Int32)
    · have h := ite_t hs0 h
      refine g_swIn X (tgt := 72) dX10_screenOf_46 (by rw [hs0]; decide) (by rw [hs0]; decide) (by rw [hs0]; rfl) (by decide) ?_
      refine g_aload X (j := 0) dX10_screenOf_72 rfl ?_
      refine gf_X10_242 X k10 dX10_screenOf_74 ?_
      refine gc_X10_245 X (ct_X10_cutToScreenLimit X.htr ) (by decide) (Nat.le_of_ble_eq_true rfl) dX10_screenOf_77 ?_
      exact hR (f_X10_cutToScreenLimit (gI M4 o8 8)) M4 _ _ (Option.some.inj h).symm dX10_screenOf_80
    have h := ite_f hs0 h
    by_cases hs1 : i2 = (1 : Int32)
    · have h := ite_t hs1 h
      refine g_swIn X (tgt := 81) dX10_screenOf_46 (by rw [hs1]; decide) (by rw [hs1]; decide) (by rw [hs1]; rfl) (by decide) ?_
      refine g_aload X (j := 0) dX10_screenOf_81 rfl ?_
      refine gf_X10_249 X k10 dX10_screenOf_83 ?_
      refine gc_X10_245 X (ct_X10_cutToScreenLimit X.htr ) (by decide) (Nat.le_of_ble_eq_true rfl) dX10_screenOf_86 ?_
      exact hR (f_X10_cutToScreenLimit (gI M4 o8 9)) M4 _ _ (Option.some.inj h).symm dX10_screenOf_89
    have h := ite_f hs1 h
    by_cases hs2 : i2 = (2 : Int32)
    · have h := ite_t hs2 h
      refine g_swIn X (tgt := 90) dX10_screenOf_46 (by rw [hs2]; decide) (by rw [hs2]; decide) (by rw [hs2]; rfl) (by decide) ?_
      refine g_aload X (j := 0) dX10_screenOf_90 rfl ?_
      refine gf_X10_252 X k10 dX10_screenOf_92 ?_
      exact hR (gI M4 o8 10) M4 _ _ (Option.some.inj h).symm dX10_screenOf_95
    have h := ite_f hs2 h
    have hn0 := (lv_neT hs0 (by decide : Int32.toInt (0 : Int32) = 0))
    have hn1 := (lv_neT hs1 (by decide : Int32.toInt (1 : Int32) = 1))
    have hn2 := (lv_neT hs2 (by decide : Int32.toInt (2 : Int32) = 2))
    refine g_swOut X (tgt := 96) dX10_screenOf_46 (by omega) (by decide) ?_
    refine g_aload X (j := 0) dX10_screenOf_96 rfl ?_
    refine gf_X10_255 X k10 dX10_screenOf_98 ?_
    exact hR (gI M4 o8 11) M4 _ _ (Option.some.inj h).symm dX10_screenOf_101
  · have h := ite_t hb h
    exact gthr_3 X (by decide) (List.mem_of_getElem? (i := 7) rfl) (Nat.le_of_ble_eq_true rfl) dX10_screenOf_24 dX10_screenOf_27 (Or.inl ⟨dX10_screenOf_28, dX10_screenOf_30, dX10_screenOf_33⟩) (hX 3 M4 (Option.some.inj h).symm)
theorem ct_X10_screenOf {l : Launch} {z : GZ} (htr : l.stackTraces = false) {i0 : Int32} {i1 : Int32} {i2 : Int32}  {M : GM} {F : Nat} {v : Int32} {M1 : GM} (h : f_X10_screenOf F i0 i1 i2 M = some (Sum.inr (v, M1))) : gMet l z yX10_screenOf cX10_screenOf 5 (some .int) 7 [.ref (gad z 0), .int i0, .int i1, .int i2] M (some (.int v)) M1 := gMet_ofI (by decide +kernel) (Nat.le_of_ble_eq_true rfl) htr rfl (fun x X ez el hR => by subst ez; subst el; exact w_X10_screenOf X  (fun v9 M9 lv9 pc9 e9 d9 => by cases e9; exact hR lv9 pc9 d9) (by intros; rename_i e9; cases e9) h)
theorem cx_X10_screenOf {l : Launch} {z : GZ} (htr : l.stackTraces = false) {i0 : Int32} {i1 : Int32} {i2 : Int32}  {M : GM} {F n : Nat} {M1 : GM} (h : f_X10_screenOf F i0 i1 i2 M = some (Sum.inl (n, M1))) : gMetX l z yX10_screenOf cX10_screenOf 5 (some .int) 7 [.ref (gad z 0), .int i0, .int i1, .int i2] M n M1 := gMetX_of (by decide +kernel) (Nat.le_of_ble_eq_true rfl) htr (fun x X ez el hT => by subst ez; subst el; exact w_X10_screenOf X  (by intros; rename_i e9 _; cases e9) (fun n9 M9 e9 => by cases e9; exact hT) h)
theorem dX10_piecesOf_0 : decode cX10_piecesOf 0 = .ok (.aload_n 0, 1) := by decide +kernel
theorem dX10_piecesOf_1 : decode cX10_piecesOf 1 = .ok (.iload_n 1, 1) := by decide +kernel
theorem dX10_piecesOf_2 : decode cX10_piecesOf 2 = .ok (.invokevirtual 150, 3) := by decide +kernel
theorem dX10_piecesOf_5 : decode cX10_piecesOf 5 = .ok (.aload_n 0, 1) := by decide +kernel
theorem dX10_piecesOf_6 : decode cX10_piecesOf 6 = .ok (.iload_n 1, 1) := by decide +kernel
theorem dX10_piecesOf_7 : decode cX10_piecesOf 7 = .ok (.invokevirtual 199, 3) := by decide +kernel
theorem dX10_piecesOf_10 : decode cX10_piecesOf 10 = .ok (.iconst 0, 1) := by decide +kernel
theorem dX10_piecesOf_11 : decode cX10_piecesOf 11 = .ok (.istore_n 2, 1) := by decide +kernel
theorem dX10_piecesOf_12 : decode cX10_piecesOf 12 = .ok (.aload_n 0, 1) := by decide +kernel
theorem dX10_piecesOf_13 : decode cX10_piecesOf 13 = .ok (.getfield 37, 3) := by decide +kernel
theorem dX10_piecesOf_16 : decode cX10_piecesOf 16 = .ok (.getfield 258, 3) := by decide +kernel
theorem dX10_piecesOf_19 : decode cX10_piecesOf 19 = .ok (.astore_n 3, 1) := by decide +kernel
theorem dX10_piecesOf_20 : decode cX10_piecesOf 20 = .ok (.aload_n 3, 1) := by decide +kernel
theorem dX10_piecesOf_21 : decode cX10_piecesOf 21 = .ok (.arraylength, 1) := by decide +kernel
theorem dX10_piecesOf_22 : decode cX10_piecesOf 22 = .ok (.istore 4, 2) := by decide +kernel
theorem dX10_piecesOf_24 : decode cX10_piecesOf 24 = .ok (.iconst 0, 1) := by decide +kernel
theorem dX10_piecesOf_25 : decode cX10_piecesOf 25 = .ok (.istore 5, 2) := by decide +kernel
theorem dX10_piecesOf_27 : decode cX10_piecesOf 27 = .ok (.iload 5, 2) := by decide +kernel
theorem dX10_piecesOf_29 : decode cX10_piecesOf 29 = .ok (.iload 4, 2) := by decide +kernel
theorem dX10_piecesOf_31 : decode cX10_piecesOf 31 = .ok (.if_icmp .ge 26, 3) := by decide +kernel
theorem dX10_piecesOf_34 : decode cX10_piecesOf 34 = .ok (.aload_n 3, 1) := by decide +kernel
theorem dX10_piecesOf_35 : decode cX10_piecesOf 35 = .ok (.iload 5, 2) := by decide +kernel
theorem dX10_piecesOf_37 : decode cX10_piecesOf 37 = .ok (.aaload, 1) := by decide +kernel
theorem dX10_piecesOf_38 : decode cX10_piecesOf 38 = .ok (.astore 6, 2) := by decide +kernel
theorem dX10_piecesOf_40 : decode cX10_piecesOf 40 = .ok (.aload 6, 2) := by decide +kernel
theorem dX10_piecesOf_42 : decode cX10_piecesOf 42 = .ok (.getfield 262, 3) := by decide +kernel
theorem dX10_piecesOf_45 : decode cX10_piecesOf 45 = .ok (.ifCond .eq 6, 3) := by decide +kernel
theorem dX10_piecesOf_48 : decode cX10_piecesOf 48 = .ok (.iinc 2 1, 3) := by decide +kernel
theorem dX10_piecesOf_51 : decode cX10_piecesOf 51 = .ok (.iinc 5 1, 3) := by decide +kernel
theorem dX10_piecesOf_54 : decode cX10_piecesOf 54 = .ok (.goto (-27), 3) := by decide +kernel
theorem dX10_piecesOf_57 : decode cX10_piecesOf 57 = .ok (.iload_n 2, 1) := by decide +kernel
theorem dX10_piecesOf_58 : decode cX10_piecesOf 58 = .ok (.ireturn, 1) := by decide +kernel
def st_X10_piecesOf_27 (F : Nat) (a12 : Int32) (rec : Int32 → Int32 → GM → Option (Int32 × GM)) (a11 : Int32) (a13 : Int32) (M : GM) : Option (Int32 × GM) := if a12 ≤ a13 then (some (a11, M)) else (grd (gIn a13 (gN 16)) (bnd (gR 16 a13.toNatClampNeg) (fun o15 => if (gI M o15 5) = 0 then (bnd (a13 + (1 : Int32)) (fun v18 => rec a11 v18 M)) else (bnd (a11 + (1 : Int32)) (fun v20 => bnd (a13 + (1 : Int32)) (fun v22 => rec v20 v22 M))))))
def lp_X10_piecesOf_27 (F : Nat) (a12 : Int32) : Nat → Int32 → Int32 → GM → Option (Int32 × GM)
  | 0 => fun _ _ _ => none
  | f + 1 => fun a11 a13 M => st_X10_piecesOf_27 F a12 (lp_X10_piecesOf_27 F a12 f) a11 a13 M
set_option maxHeartbeats 4000000 in
set_option maxRecDepth 100000 in
theorem lw_X10_piecesOf_27 {x : GX} (X : GC x cX10_piecesOf 7 RX10 7) {a12 : Int32}  {F : Nat} {r9 : (Int32 × GM)} (hE : ∀ (x2_9 : Int32) (M9 : GM), r9 = (x2_9, M9) → WG x M9 [(2, .int x2_9)] 57 []) : ∀ (f : Nat) (a11 : Int32) (a13 : Int32) (M : GM), lp_X10_piecesOf_27 F a12 f a11 a13 M = some r9 → WG x M [(2, .int a11), (3, .ref (gad (xz x) 16)), (4, .int a12), (5, .int a13)] 27 [] := by
  intro f
  induction f with
  | zero => intro a11 a13 M h; cases h
  | succ f ih =>
    intro a11 a13 M h
    have hrec := ih
    have h : st_X10_piecesOf_27 F a12 (lp_X10_piecesOf_27 F a12 f) a11 a13 M = some r9 := h
    generalize lp_X10_piecesOf_27 F a12 f = rec at h hrec
    unfold st_X10_piecesOf_27 at h
    refine g_iload X (j := 3) dX10_piecesOf_27 rfl ?_
    refine g_iload X (j := 2) dX10_piecesOf_29 rfl ?_
    refine g_icmp_ge X (tgt := 57) dX10_piecesOf_31 (by decide) (fun hb => ?_) (fun hb => ?_)
    · have h := ite_t hb h
      refine g_lv [0] rfl ?_
      exact hE a11 M (Option.some.inj h).symm
    · have h := ite_f hb h
      refine g_aload_n X (j := 1) dX10_piecesOf_34 rfl rfl ?_
      refine g_iload X (j := 3) dX10_piecesOf_35 rfl ?_
      obtain ⟨hg14, h⟩ := grd_e h
      refine g_aald_27 X gT_c16 hg14 dX10_piecesOf_37 ?_
      refine g_topr (fun o15 e16 => ?_)
      have h := bnd_e e16 h
      have k17 : gT o15 = 6 := by rw [e16]; exact gR_27 gT_c16 (gIn_lt hg14)
      refine g_astore X (lv' := [(6, .ref (gad (xz x) o15)), (2, .int a11), (3, .ref (gad (xz x) 16)), (4, .int a12), (5, .int a13)]) dX10_piecesOf_38 (by decide) rfl ?_
      refine g_aload X (j := 0) dX10_piecesOf_40 rfl ?_
      refine gf_X10_262 X k17 dX10_piecesOf_42 ?_
      refine g_if_eq X (tgt := 51) dX10_piecesOf_45 (by decide) (fun hb => ?_) (fun hb => ?_)
      · have h := ite_t hb h
        refine g_iinc X (j := 4) (w := a13 + (1 : Int32)) (lv' := [(6, .ref (gad (xz x) o15)), (2, .int a11), (3, .ref (gad (xz x) 16)), (4, .int a12)]) dX10_piecesOf_51 rfl (by rw [ii_1]) (by decide) (fun _ => rfl) (fun v18 e19 => ?_)
        have h := bnd_e e19 h
        refine g_goto X (tgt := 27) dX10_piecesOf_54 (by decide) ?_
        refine g_lv [2, 3, 4, 0] rfl ?_
        exact hrec a11 v18 M h
      · have h := ite_f hb h
        refine g_iinc X (j := 1) (w := a11 + (1 : Int32)) (lv' := [(6, .ref (gad (xz x) o15)), (3, .ref (gad (xz x) 16)), (4, .int a12), (5, .int a13)]) dX10_piecesOf_48 rfl (by rw [ii_1]) (by decide) (fun _ => rfl) (fun v20 e21 => ?_)
        have h := bnd_e e21 h
        refine g_iinc X (j := 4) (w := a13 + (1 : Int32)) (lv' := [(2, .int v20), (6, .ref (gad (xz x) o15)), (3, .ref (gad (xz x) 16)), (4, .int a12)]) dX10_piecesOf_51 rfl (by rw [ii_1]) (by decide) (fun _ => rfl) (fun v22 e23 => ?_)
        have h := bnd_e e23 h
        refine g_goto X (tgt := 27) dX10_piecesOf_54 (by decide) ?_
        refine g_lv [1, 3, 4, 0] rfl ?_
        exact hrec v20 v22 M h
def f_X10_piecesOf (F : Nat) (i0 : Int32) (M : GM) : Option ((Nat × GM) ⊕ (Int32 × GM)) := bndT (f_X10_requirePane F i0 M) (fun n2 => some (Sum.inl (n2, M))) (fun _ => bndO (f_X10_formShape F i0 M) (fun M4 => bnd (0 : Int32) (fun v5 => bnd (2 : Int32) (fun v7 => bnd (0 : Int32) (fun v9 => bndO (lp_X10_piecesOf_27 F v7 F v5 v9 M4) (fun (v24, M25) => some (Sum.inr (v24, M25))))))))
set_option maxHeartbeats 4000000 in
set_option maxRecDepth 100000 in
theorem w_X10_piecesOf {x : GX} (X : GC x cX10_piecesOf 7 RX10 7) {i0 : Int32}  {F : Nat} {M : GM} {r9 : ((Nat × GM) ⊕ (Int32 × GM))} (hR : ∀ (v9 : Int32) (M9 : GM) (lv9 : List (Nat × Value)) (pc9 : Nat), r9 = Sum.inr (v9, M9) → decode cX10_piecesOf pc9 = .ok (.ireturn, 1) → WG x M9 lv9 pc9 [.int v9]) (hX : ∀ (n9 : Nat) (M9 : GM), r9 = Sum.inl (n9, M9) → GThr x n9 M9) (h : f_X10_piecesOf F i0 M = some r9) : WG x M [(0, .ref (gad (xz x) 0)), (1, .int i0)] 0 [] := by
  unfold f_X10_piecesOf at h
  refine g_aload_n X (j := 0) dX10_piecesOf_0 rfl rfl ?_
  refine g_iload_n X (j := 1) dX10_piecesOf_1 rfl rfl ?_
  rcases bndT_e h with ⟨n2, hc1, h⟩ | ⟨⟨⟩, hc1, h⟩
  · exact gx_X10_150 X gT_c0 (cx_X10_requirePane X.htr  hc1) (by decide) (Nat.le_of_ble_eq_true rfl) dX10_piecesOf_2 (hX n2 M (Option.some.inj h).symm)
  refine gc_X10_150 X gT_c0 (ct_X10_requirePane X.htr  hc1) (by decide) (Nat.le_of_ble_eq_true rfl) dX10_piecesOf_2 ?_
  refine g_aload_n X (j := 0) dX10_piecesOf_5 rfl rfl ?_
  refine g_iload_n X (j := 1) dX10_piecesOf_6 rfl rfl ?_
  obtain ⟨M4, hc3, h⟩ := bndO_e h
  refine gc_X10_199 X gT_c0 (ct_X10_formShape X.htr  hc3) (by decide) (Nat.le_of_ble_eq_true rfl) dX10_piecesOf_7 ?_
  refine g_iconst X (v := 0) dX10_piecesOf_10 (by decide) ?_
  refine g_topi (fun v5 e6 => ?_)
  have h := bnd_e e6 h
  refine g_istore_n X (lv' := [(2, .int v5), (0, .ref (gad (xz x) 0)), (1, .int i0)]) dX10_piecesOf_11 rfl (by decide) rfl ?_
  refine g_aload_n X (j := 1) dX10_piecesOf_12 rfl rfl ?_
  refine gf_X10_37 X gT_c0 dX10_piecesOf_13 ?_
  refine gf_X10_258 X gT_c6 dX10_piecesOf_16 ?_
  refine g_astore_n X (lv' := [(3, .ref (gad (xz x) 16)), (2, .int v5), (0, .ref (gad (xz x) 0)), (1, .int i0)]) dX10_piecesOf_19 rfl (by decide) rfl ?_
  refine g_aload_n X (j := 0) dX10_piecesOf_20 rfl rfl ?_
  refine g_alen_27 X gT_c16 dX10_piecesOf_21 ?_
  rw [show Int32.ofNat (gN 16) = 2 by decide +kernel]
  refine g_topi (fun v7 e8 => ?_)
  have h := bnd_e e8 h
  refine g_istore X (lv' := [(4, .int v7), (3, .ref (gad (xz x) 16)), (2, .int v5), (0, .ref (gad (xz x) 0)), (1, .int i0)]) dX10_piecesOf_22 (by decide) rfl ?_
  refine g_iconst X (v := 0) dX10_piecesOf_24 (by decide) ?_
  refine g_topi (fun v9 e10 => ?_)
  have h := bnd_e e10 h
  refine g_istore X (lv' := [(5, .int v9), (4, .int v7), (3, .ref (gad (xz x) 16)), (2, .int v5), (0, .ref (gad (xz x) 0)), (1, .int i0)]) dX10_piecesOf_25 (by decide) rfl ?_
  refine g_lv [3, 2, 1, 0] rfl ?_
  obtain ⟨⟨v24, M25⟩, hl26, h⟩ := bndO_e h
  refine lw_X10_piecesOf_27 X  (fun v24_ M25_ e9 => ?_) F v5 v9 M4 hl26
  cases e9
  refine g_iload_n X (j := 0) dX10_piecesOf_57 rfl rfl ?_
  exact hR v24 M25 _ _ (Option.some.inj h).symm dX10_piecesOf_58
theorem ct_X10_piecesOf {l : Launch} {z : GZ} (htr : l.stackTraces = false) {i0 : Int32}  {M : GM} {F : Nat} {v : Int32} {M1 : GM} (h : f_X10_piecesOf F i0 M = some (Sum.inr (v, M1))) : gMet l z yX10_piecesOf cX10_piecesOf 7 (some .int) 7 [.ref (gad z 0), .int i0] M (some (.int v)) M1 := gMet_ofI (by decide +kernel) (Nat.le_of_ble_eq_true rfl) htr rfl (fun x X ez el hR => by subst ez; subst el; exact w_X10_piecesOf X  (fun v9 M9 lv9 pc9 e9 d9 => by cases e9; exact hR lv9 pc9 d9) (by intros; rename_i e9; cases e9) h)
theorem cx_X10_piecesOf {l : Launch} {z : GZ} (htr : l.stackTraces = false) {i0 : Int32}  {M : GM} {F n : Nat} {M1 : GM} (h : f_X10_piecesOf F i0 M = some (Sum.inl (n, M1))) : gMetX l z yX10_piecesOf cX10_piecesOf 7 (some .int) 7 [.ref (gad z 0), .int i0] M n M1 := gMetX_of (by decide +kernel) (Nat.le_of_ble_eq_true rfl) htr (fun x X ez el hT => by subst ez; subst el; exact w_X10_piecesOf X  (by intros; rename_i e9 _; cases e9) (fun n9 M9 e9 => by cases e9; exact hT) h)
theorem gc_X10_267 {x : GX} {cc : ByteArray} {nL d pc : Nat} {M : GM} {lv : List (Nat × Value)} {st : List Value} (X : GC x cc nL RX10 d) {i0 : Int32} {i1 : Int32} {M1 : GM} {r : Int32} (ht : gT 6 = 8) (hM : gMet (xl x) (xz x) yX8_firstPieceAt cX8_firstPieceAt 5 (some .int) 2 [.ref (gad (xz x) 6), .int i0, .int i1] M (some (.int r)) M1) (hd : 3 ≤ d) (hsum : (st.map fun v => v.category).sum ≤ 8) (dec : decode cc pc = .ok (.invokevirtual 267, 3)) (go : WG x M1 lv (pc + 3) (.int r :: st)) : WG x M lv pc (.int i1 :: .int i0 :: .ref (gad (xz x) 6) :: st) := g_callV X (n := 2) (As := [.int i0, .int i1]) (rest := st) hM ht (by decide) (gE_8 ht) rfl q_258 q_259 q_260 q_19 q_261 (by decide +kernel) rfl hd (by decide) rfl hsum dec go
theorem dX10_pointsOf_0 : decode cX10_pointsOf 0 = .ok (.aload_n 0, 1) := by decide +kernel
theorem dX10_pointsOf_1 : decode cX10_pointsOf 1 = .ok (.iload_n 1, 1) := by decide +kernel
theorem dX10_pointsOf_2 : decode cX10_pointsOf 2 = .ok (.invokevirtual 150, 3) := by decide +kernel
theorem dX10_pointsOf_5 : decode cX10_pointsOf 5 = .ok (.aload_n 0, 1) := by decide +kernel
theorem dX10_pointsOf_6 : decode cX10_pointsOf 6 = .ok (.iload_n 1, 1) := by decide +kernel
theorem dX10_pointsOf_7 : decode cX10_pointsOf 7 = .ok (.invokevirtual 199, 3) := by decide +kernel
theorem dX10_pointsOf_10 : decode cX10_pointsOf 10 = .ok (.iconst 0, 1) := by decide +kernel
theorem dX10_pointsOf_11 : decode cX10_pointsOf 11 = .ok (.istore_n 2, 1) := by decide +kernel
theorem dX10_pointsOf_12 : decode cX10_pointsOf 12 = .ok (.iconst 0, 1) := by decide +kernel
theorem dX10_pointsOf_13 : decode cX10_pointsOf 13 = .ok (.istore_n 3, 1) := by decide +kernel
theorem dX10_pointsOf_14 : decode cX10_pointsOf 14 = .ok (.iload_n 3, 1) := by decide +kernel
theorem dX10_pointsOf_15 : decode cX10_pointsOf 15 = .ok (.bipush 24, 2) := by decide +kernel
theorem dX10_pointsOf_17 : decode cX10_pointsOf 17 = .ok (.if_icmp .ge 42, 3) := by decide +kernel
theorem dX10_pointsOf_20 : decode cX10_pointsOf 20 = .ok (.iconst 0, 1) := by decide +kernel
theorem dX10_pointsOf_21 : decode cX10_pointsOf 21 = .ok (.istore 4, 2) := by decide +kernel
theorem dX10_pointsOf_23 : decode cX10_pointsOf 23 = .ok (.iload 4, 2) := by decide +kernel
theorem dX10_pointsOf_25 : decode cX10_pointsOf 25 = .ok (.bipush 40, 2) := by decide +kernel
theorem dX10_pointsOf_27 : decode cX10_pointsOf 27 = .ok (.if_icmp .ge 26, 3) := by decide +kernel
theorem dX10_pointsOf_30 : decode cX10_pointsOf 30 = .ok (.aload_n 0, 1) := by decide +kernel
theorem dX10_pointsOf_31 : decode cX10_pointsOf 31 = .ok (.getfield 37, 3) := by decide +kernel
theorem dX10_pointsOf_34 : decode cX10_pointsOf 34 = .ok (.iload 4, 2) := by decide +kernel
theorem dX10_pointsOf_36 : decode cX10_pointsOf 36 = .ok (.iload_n 3, 1) := by decide +kernel
theorem dX10_pointsOf_37 : decode cX10_pointsOf 37 = .ok (.invokevirtual 267, 3) := by decide +kernel
theorem dX10_pointsOf_40 : decode cX10_pointsOf 40 = .ok (.iconst (-1), 1) := by decide +kernel
theorem dX10_pointsOf_41 : decode cX10_pointsOf 41 = .ok (.if_icmp .eq 6, 3) := by decide +kernel
theorem dX10_pointsOf_44 : decode cX10_pointsOf 44 = .ok (.iinc 2 1, 3) := by decide +kernel
theorem dX10_pointsOf_47 : decode cX10_pointsOf 47 = .ok (.iinc 4 1, 3) := by decide +kernel
theorem dX10_pointsOf_50 : decode cX10_pointsOf 50 = .ok (.goto (-27), 3) := by decide +kernel
theorem dX10_pointsOf_53 : decode cX10_pointsOf 53 = .ok (.iinc 3 1, 3) := by decide +kernel
theorem dX10_pointsOf_56 : decode cX10_pointsOf 56 = .ok (.goto (-42), 3) := by decide +kernel
theorem dX10_pointsOf_59 : decode cX10_pointsOf 59 = .ok (.iload_n 2, 1) := by decide +kernel
theorem dX10_pointsOf_60 : decode cX10_pointsOf 60 = .ok (.ireturn, 1) := by decide +kernel
def st_X10_pointsOf_23 (F : Nat) (a14 : Int32) (rec : Int32 → Int32 → GM → Option (Int32 × GM)) (a13 : Int32) (a15 : Int32) (M : GM) : Option (Int32 × GM) := if (40 : Int32) ≤ a15 then (some (a13, M)) else (bndO (f_X8_firstPieceAt F a15 a14 M) (fun (v17, M18) => if v17 = ((-1) : Int32) then (bnd (a15 + (1 : Int32)) (fun v19 => rec a13 v19 M18)) else (bnd (a13 + (1 : Int32)) (fun v21 => bnd (a15 + (1 : Int32)) (fun v23 => rec v21 v23 M18)))))
def lp_X10_pointsOf_23 (F : Nat) (a14 : Int32) : Nat → Int32 → Int32 → GM → Option (Int32 × GM)
  | 0 => fun _ _ _ => none
  | f + 1 => fun a13 a15 M => st_X10_pointsOf_23 F a14 (lp_X10_pointsOf_23 F a14 f) a13 a15 M
set_option maxHeartbeats 4000000 in
set_option maxRecDepth 100000 in
theorem lw_X10_pointsOf_23 {x : GX} (X : GC x cX10_pointsOf 5 RX10 7) {a14 : Int32}  {F : Nat} {r9 : (Int32 × GM)} (hE : ∀ (x2_9 : Int32) (M9 : GM), r9 = (x2_9, M9) → WG x M9 [(0, .ref (gad (xz x) 0)), (2, .int x2_9), (3, .int a14)] 53 []) : ∀ (f : Nat) (a13 : Int32) (a15 : Int32) (M : GM), lp_X10_pointsOf_23 F a14 f a13 a15 M = some r9 → WG x M [(0, .ref (gad (xz x) 0)), (2, .int a13), (3, .int a14), (4, .int a15)] 23 [] := by
  intro f
  induction f with
  | zero => intro a13 a15 M h; cases h
  | succ f ih =>
    intro a13 a15 M h
    have hrec := ih
    have h : st_X10_pointsOf_23 F a14 (lp_X10_pointsOf_23 F a14 f) a13 a15 M = some r9 := h
    generalize lp_X10_pointsOf_23 F a14 f = rec at h hrec
    unfold st_X10_pointsOf_23 at h
    refine g_iload X (j := 3) dX10_pointsOf_23 rfl ?_
    refine g_bipush X (v := 40) dX10_pointsOf_25 (by decide) ?_
    refine g_icmp_ge X (tgt := 53) dX10_pointsOf_27 (by decide) (fun hb => ?_) (fun hb => ?_)
    · have h := ite_t hb h
      refine g_lv [0, 1, 2] rfl ?_
      exact hE a13 M (Option.some.inj h).symm
    · have h := ite_f hb h
      refine g_aload_n X (j := 0) dX10_pointsOf_30 rfl rfl ?_
      refine gf_X10_37 X gT_c0 dX10_pointsOf_31 ?_
      refine g_iload X (j := 3) dX10_pointsOf_34 rfl ?_
      refine g_iload_n X (j := 2) dX10_pointsOf_36 rfl rfl ?_
      obtain ⟨⟨v17, M18⟩, hc16, h⟩ := bndO_e h
      refine gc_X10_267 X gT_c6 (ct_X8_firstPieceAt X.htr  hc16) (by decide) (Nat.le_of_ble_eq_true rfl) dX10_pointsOf_37 ?_
      refine g_iconst X (v := (-1)) dX10_pointsOf_40 (by decide) ?_
      refine g_icmp_eq X (tgt := 47) dX10_pointsOf_41 (by decide) (fun hb => ?_) (fun hb => ?_)
      · have h := ite_t hb h
        refine g_iinc X (j := 3) (w := a15 + (1 : Int32)) (lv' := [(0, .ref (gad (xz x) 0)), (2, .int a13), (3, .int a14)]) dX10_pointsOf_47 rfl (by rw [ii_1]) (by decide) (fun _ => rfl) (fun v19 e20 => ?_)
        have h := bnd_e e20 h
        refine g_goto X (tgt := 23) dX10_pointsOf_50 (by decide) ?_
        refine g_lv [1, 2, 3, 0] rfl ?_
        exact hrec a13 v19 M18 h
      · have h := ite_f hb h
        refine g_iinc X (j := 1) (w := a13 + (1 : Int32)) (lv' := [(0, .ref (gad (xz x) 0)), (3, .int a14), (4, .int a15)]) dX10_pointsOf_44 rfl (by rw [ii_1]) (by decide) (fun _ => rfl) (fun v21 e22 => ?_)
        have h := bnd_e e22 h
        refine g_iinc X (j := 3) (w := a15 + (1 : Int32)) (lv' := [(2, .int v21), (0, .ref (gad (xz x) 0)), (3, .int a14)]) dX10_pointsOf_47 rfl (by rw [ii_1]) (by decide) (fun _ => rfl) (fun v23 e24 => ?_)
        have h := bnd_e e24 h
        refine g_goto X (tgt := 23) dX10_pointsOf_50 (by decide) ?_
        refine g_lv [2, 1, 3, 0] rfl ?_
        exact hrec v21 v23 M18 h
def st_X10_pointsOf_14 (F : Nat)  (rec : Int32 → Int32 → GM → Option (Int32 × GM)) (a9 : Int32) (a10 : Int32) (M : GM) : Option (Int32 × GM) := if (24 : Int32) ≤ a10 then (some (a9, M)) else (bnd (0 : Int32) (fun v11 => bndO (lp_X10_pointsOf_23 F a10 F a9 v11 M) (fun (v25, M26) => bnd (a10 + (1 : Int32)) (fun v28 => rec v25 v28 M26))))
def lp_X10_pointsOf_14 (F : Nat)  : Nat → Int32 → Int32 → GM → Option (Int32 × GM)
  | 0 => fun _ _ _ => none
  | f + 1 => fun a9 a10 M => st_X10_pointsOf_14 F  (lp_X10_pointsOf_14 F  f) a9 a10 M
set_option maxHeartbeats 4000000 in
set_option maxRecDepth 100000 in
theorem lw_X10_pointsOf_14 {x : GX} (X : GC x cX10_pointsOf 5 RX10 7)   {F : Nat} {r9 : (Int32 × GM)} (hE : ∀ (x2_9 : Int32) (M9 : GM), r9 = (x2_9, M9) → WG x M9 [(2, .int x2_9)] 59 []) : ∀ (f : Nat) (a9 : Int32) (a10 : Int32) (M : GM), lp_X10_pointsOf_14 F  f a9 a10 M = some r9 → WG x M [(0, .ref (gad (xz x) 0)), (2, .int a9), (3, .int a10)] 14 [] := by
  intro f
  induction f with
  | zero => intro a9 a10 M h; cases h
  | succ f ih =>
    intro a9 a10 M h
    have hrec := ih
    have h : st_X10_pointsOf_14 F  (lp_X10_pointsOf_14 F  f) a9 a10 M = some r9 := h
    generalize lp_X10_pointsOf_14 F  f = rec at h hrec
    unfold st_X10_pointsOf_14 at h
    refine g_iload_n X (j := 2) dX10_pointsOf_14 rfl rfl ?_
    refine g_bipush X (v := 24) dX10_pointsOf_15 (by decide) ?_
    refine g_icmp_ge X (tgt := 59) dX10_pointsOf_17 (by decide) (fun hb => ?_) (fun hb => ?_)
    · have h := ite_t hb h
      refine g_lv [1] rfl ?_
      exact hE a9 M (Option.some.inj h).symm
    · have h := ite_f hb h
      refine g_iconst X (v := 0) dX10_pointsOf_20 (by decide) ?_
      refine g_topi (fun v11 e12 => ?_)
      have h := bnd_e e12 h
      refine g_istore X (lv' := [(4, .int v11), (0, .ref (gad (xz x) 0)), (2, .int a9), (3, .int a10)]) dX10_pointsOf_21 (by decide) rfl ?_
      refine g_lv [1, 2, 3, 0] rfl ?_
      obtain ⟨⟨v25, M26⟩, hl27, h⟩ := bndO_e h
      refine lw_X10_pointsOf_23 X  (fun v25_ M26_ e9 => ?_) F a9 v11 M hl27
      cases e9
      refine g_iinc X (j := 2) (w := a10 + (1 : Int32)) (lv' := [(0, .ref (gad (xz x) 0)), (2, .int v25)]) dX10_pointsOf_53 rfl (by rw [ii_1]) (by decide) (fun _ => rfl) (fun v28 e29 => ?_)
      have h := bnd_e e29 h
      refine g_goto X (tgt := 14) dX10_pointsOf_56 (by decide) ?_
      refine g_lv [1, 2, 0] rfl ?_
      exact hrec v25 v28 M26 h
def f_X10_pointsOf (F : Nat) (i0 : Int32) (M : GM) : Option ((Nat × GM) ⊕ (Int32 × GM)) := bndT (f_X10_requirePane F i0 M) (fun n2 => some (Sum.inl (n2, M))) (fun _ => bndO (f_X10_formShape F i0 M) (fun M4 => bnd (0 : Int32) (fun v5 => bnd (0 : Int32) (fun v7 => bndO (lp_X10_pointsOf_14 F  F v5 v7 M4) (fun (v30, M31) => some (Sum.inr (v30, M31)))))))
set_option maxHeartbeats 4000000 in
set_option maxRecDepth 100000 in
theorem w_X10_pointsOf {x : GX} (X : GC x cX10_pointsOf 5 RX10 7) {i0 : Int32}  {F : Nat} {M : GM} {r9 : ((Nat × GM) ⊕ (Int32 × GM))} (hR : ∀ (v9 : Int32) (M9 : GM) (lv9 : List (Nat × Value)) (pc9 : Nat), r9 = Sum.inr (v9, M9) → decode cX10_pointsOf pc9 = .ok (.ireturn, 1) → WG x M9 lv9 pc9 [.int v9]) (hX : ∀ (n9 : Nat) (M9 : GM), r9 = Sum.inl (n9, M9) → GThr x n9 M9) (h : f_X10_pointsOf F i0 M = some r9) : WG x M [(0, .ref (gad (xz x) 0)), (1, .int i0)] 0 [] := by
  unfold f_X10_pointsOf at h
  refine g_aload_n X (j := 0) dX10_pointsOf_0 rfl rfl ?_
  refine g_iload_n X (j := 1) dX10_pointsOf_1 rfl rfl ?_
  rcases bndT_e h with ⟨n2, hc1, h⟩ | ⟨⟨⟩, hc1, h⟩
  · exact gx_X10_150 X gT_c0 (cx_X10_requirePane X.htr  hc1) (by decide) (Nat.le_of_ble_eq_true rfl) dX10_pointsOf_2 (hX n2 M (Option.some.inj h).symm)
  refine gc_X10_150 X gT_c0 (ct_X10_requirePane X.htr  hc1) (by decide) (Nat.le_of_ble_eq_true rfl) dX10_pointsOf_2 ?_
  refine g_aload_n X (j := 0) dX10_pointsOf_5 rfl rfl ?_
  refine g_iload_n X (j := 1) dX10_pointsOf_6 rfl rfl ?_
  obtain ⟨M4, hc3, h⟩ := bndO_e h
  refine gc_X10_199 X gT_c0 (ct_X10_formShape X.htr  hc3) (by decide) (Nat.le_of_ble_eq_true rfl) dX10_pointsOf_7 ?_
  refine g_iconst X (v := 0) dX10_pointsOf_10 (by decide) ?_
  refine g_topi (fun v5 e6 => ?_)
  have h := bnd_e e6 h
  refine g_istore_n X (lv' := [(2, .int v5), (0, .ref (gad (xz x) 0)), (1, .int i0)]) dX10_pointsOf_11 rfl (by decide) rfl ?_
  refine g_iconst X (v := 0) dX10_pointsOf_12 (by decide) ?_
  refine g_topi (fun v7 e8 => ?_)
  have h := bnd_e e8 h
  refine g_istore_n X (lv' := [(3, .int v7), (2, .int v5), (0, .ref (gad (xz x) 0)), (1, .int i0)]) dX10_pointsOf_13 rfl (by decide) rfl ?_
  refine g_lv [2, 1, 0] rfl ?_
  obtain ⟨⟨v30, M31⟩, hl32, h⟩ := bndO_e h
  refine lw_X10_pointsOf_14 X  (fun v30_ M31_ e9 => ?_) F v5 v7 M4 hl32
  cases e9
  refine g_iload_n X (j := 0) dX10_pointsOf_59 rfl rfl ?_
  exact hR v30 M31 _ _ (Option.some.inj h).symm dX10_pointsOf_60
theorem ct_X10_pointsOf {l : Launch} {z : GZ} (htr : l.stackTraces = false) {i0 : Int32}  {M : GM} {F : Nat} {v : Int32} {M1 : GM} (h : f_X10_pointsOf F i0 M = some (Sum.inr (v, M1))) : gMet l z yX10_pointsOf cX10_pointsOf 5 (some .int) 7 [.ref (gad z 0), .int i0] M (some (.int v)) M1 := gMet_ofI (by decide +kernel) (Nat.le_of_ble_eq_true rfl) htr rfl (fun x X ez el hR => by subst ez; subst el; exact w_X10_pointsOf X  (fun v9 M9 lv9 pc9 e9 d9 => by cases e9; exact hR lv9 pc9 d9) (by intros; rename_i e9; cases e9) h)
theorem cx_X10_pointsOf {l : Launch} {z : GZ} (htr : l.stackTraces = false) {i0 : Int32}  {M : GM} {F n : Nat} {M1 : GM} (h : f_X10_pointsOf F i0 M = some (Sum.inl (n, M1))) : gMetX l z yX10_pointsOf cX10_pointsOf 5 (some .int) 7 [.ref (gad z 0), .int i0] M n M1 := gMetX_of (by decide +kernel) (Nat.le_of_ble_eq_true rfl) htr (fun x X ez el hT => by subst ez; subst el; exact w_X10_pointsOf X  (by intros; rename_i e9 _; cases e9) (fun n9 M9 e9 => by cases e9; exact hT) h)
theorem dX10_requirePoint_0 : decode cX10_requirePoint 0 = .ok (.iload_n 0, 1) := by decide +kernel
theorem dX10_requirePoint_1 : decode cX10_requirePoint 1 = .ok (.iconst 0, 1) := by decide +kernel
theorem dX10_requirePoint_2 : decode cX10_requirePoint 2 = .ok (.bipush 39, 2) := by decide +kernel
theorem dX10_requirePoint_4 : decode cX10_requirePoint 4 = .ok (.invokestatic 86, 3) := by decide +kernel
theorem dX10_requirePoint_7 : decode cX10_requirePoint 7 = .ok (.ifCond .ne 14, 3) := by decide +kernel
theorem dX10_requirePoint_10 : decode cX10_requirePoint 10 = .ok (.new 156, 3) := by decide +kernel
theorem dX10_requirePoint_13 : decode cX10_requirePoint 13 = .ok (.dup, 1) := by decide +kernel
theorem dX10_requirePoint_14 : decode cX10_requirePoint 14 = .ok (.ldc_w 401, 3) := by decide +kernel
theorem dX10_requirePoint_17 : decode cX10_requirePoint 17 = .ok (.invokespecial 160, 3) := by decide +kernel
theorem dX10_requirePoint_20 : decode cX10_requirePoint 20 = .ok (.athrow, 1) := by decide +kernel
theorem dX10_requirePoint_21 : decode cX10_requirePoint 21 = .ok (.iload_n 1, 1) := by decide +kernel
theorem dX10_requirePoint_22 : decode cX10_requirePoint 22 = .ok (.iconst 0, 1) := by decide +kernel
theorem dX10_requirePoint_23 : decode cX10_requirePoint 23 = .ok (.bipush 23, 2) := by decide +kernel
theorem dX10_requirePoint_25 : decode cX10_requirePoint 25 = .ok (.invokestatic 86, 3) := by decide +kernel
theorem dX10_requirePoint_28 : decode cX10_requirePoint 28 = .ok (.ifCond .ne 14, 3) := by decide +kernel
theorem dX10_requirePoint_31 : decode cX10_requirePoint 31 = .ok (.new 156, 3) := by decide +kernel
theorem dX10_requirePoint_34 : decode cX10_requirePoint 34 = .ok (.dup, 1) := by decide +kernel
theorem dX10_requirePoint_35 : decode cX10_requirePoint 35 = .ok (.ldc_w 403, 3) := by decide +kernel
theorem dX10_requirePoint_38 : decode cX10_requirePoint 38 = .ok (.invokespecial 160, 3) := by decide +kernel
theorem dX10_requirePoint_41 : decode cX10_requirePoint 41 = .ok (.athrow, 1) := by decide +kernel
theorem dX10_requirePoint_42 : decode cX10_requirePoint 42 = .ok (.return_, 1) := by decide +kernel
def f_X10_requirePoint (F : Nat) (i0 : Int32) (i1 : Int32) (M : GM) : Option (Nat ⊕ Unit) := if (f_X10_isWithin i0 (0 : Int32) (39 : Int32)) = 0 then (some (Sum.inl 3)) else (if (f_X10_isWithin i1 (0 : Int32) (23 : Int32)) = 0 then (some (Sum.inl 3)) else (some (Sum.inr ())))
set_option maxHeartbeats 4000000 in
set_option maxRecDepth 100000 in
theorem w_X10_requirePoint {x : GX} (X : GC x cX10_requirePoint 2 RX10 6) {i0 : Int32} {i1 : Int32}  {F : Nat} {M : GM} {r9 : (Nat ⊕ Unit)} (hR : ∀ (lv9 : List (Nat × Value)) (pc9 : Nat), r9 = Sum.inr () → decode cX10_requirePoint pc9 = .ok (.return_, 1) → WG x M lv9 pc9 []) (hX : ∀ (n9 : Nat), r9 = Sum.inl n9 → GThr x n9 M) (h : f_X10_requirePoint F i0 i1 M = some r9) : WG x M [(0, .int i0), (1, .int i1)] 0 [] := by
  unfold f_X10_requirePoint at h
  refine g_iload_n X (j := 0) dX10_requirePoint_0 rfl rfl ?_
  refine g_iconst X (v := 0) dX10_requirePoint_1 (by decide) ?_
  refine g_bipush X (v := 39) dX10_requirePoint_2 (by decide) ?_
  refine gc_X10_86 X (ct_X10_isWithin X.htr ) (by decide) (Nat.le_of_ble_eq_true rfl) dX10_requirePoint_4 ?_
  refine g_if_ne X (tgt := 21) dX10_requirePoint_7 (by decide) (fun hb => ?_) (fun hb => ?_)
  · have h := ite_f hb h
    refine g_iload_n X (j := 1) dX10_requirePoint_21 rfl rfl ?_
    refine g_iconst X (v := 0) dX10_requirePoint_22 (by decide) ?_
    refine g_bipush X (v := 23) dX10_requirePoint_23 (by decide) ?_
    refine gc_X10_86 X (ct_X10_isWithin X.htr ) (by decide) (Nat.le_of_ble_eq_true rfl) dX10_requirePoint_25 ?_
    refine g_if_ne X (tgt := 42) dX10_requirePoint_28 (by decide) (fun hb => ?_) (fun hb => ?_)
    · have h := ite_f hb h
      exact hR  _ _ (Option.some.inj h).symm dX10_requirePoint_42
    · have h := ite_t hb h
      exact gthr_3 X (by decide) (List.mem_of_getElem? (i := 4) rfl) (Nat.le_of_ble_eq_true rfl) dX10_requirePoint_31 dX10_requirePoint_34 (Or.inr ⟨dX10_requirePoint_35, dX10_requirePoint_38, dX10_requirePoint_41⟩) (hX 3 (Option.some.inj h).symm)
  · have h := ite_t hb h
    exact gthr_3 X (by decide) (List.mem_of_getElem? (i := 3) rfl) (Nat.le_of_ble_eq_true rfl) dX10_requirePoint_10 dX10_requirePoint_13 (Or.inr ⟨dX10_requirePoint_14, dX10_requirePoint_17, dX10_requirePoint_20⟩) (hX 3 (Option.some.inj h).symm)
theorem ct_X10_requirePoint {l : Launch} {z : GZ} (htr : l.stackTraces = false) {i0 : Int32} {i1 : Int32}  {M : GM} {F : Nat} (h : f_X10_requirePoint F i0 i1 M = some (Sum.inr ())) : gMet l z yX10_requirePoint cX10_requirePoint 2 none 6 [.int i0, .int i1] M (none) M := gMet_ofV (by decide +kernel) (Nat.le_of_ble_eq_true rfl) htr (fun x X ez el hR => by subst ez; subst el; exact w_X10_requirePoint X  (fun  lv9 pc9 e9 d9 => by cases e9; exact hR lv9 pc9 d9) (by intros; rename_i e9; cases e9) h)
theorem cx_X10_requirePoint {l : Launch} {z : GZ} (htr : l.stackTraces = false) {i0 : Int32} {i1 : Int32}  {M : GM} {F n : Nat} (h : f_X10_requirePoint F i0 i1 M = some (Sum.inl n)) : gMetX l z yX10_requirePoint cX10_requirePoint 2 none 6 [.int i0, .int i1] M n M := gMetX_of (by decide +kernel) (Nat.le_of_ble_eq_true rfl) htr (fun x X ez el hT => by subst ez; subst el; exact w_X10_requirePoint X  (by intros; rename_i e9 _; cases e9) (fun n9 e9 => by cases e9; exact hT) h)
