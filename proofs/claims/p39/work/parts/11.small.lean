/-! 11.small -/
theorem dX10_isWithin_0 : decode cX10_isWithin 0 = .ok (.iload_n 0, 1) := by decide +kernel
theorem dX10_isWithin_1 : decode cX10_isWithin 1 = .ok (.iload_n 1, 1) := by decide +kernel
theorem dX10_isWithin_2 : decode cX10_isWithin 2 = .ok (.if_icmp .lt 12, 3) := by decide +kernel
theorem dX10_isWithin_5 : decode cX10_isWithin 5 = .ok (.iload_n 0, 1) := by decide +kernel
theorem dX10_isWithin_6 : decode cX10_isWithin 6 = .ok (.iload_n 2, 1) := by decide +kernel
theorem dX10_isWithin_7 : decode cX10_isWithin 7 = .ok (.if_icmp .gt 7, 3) := by decide +kernel
theorem dX10_isWithin_10 : decode cX10_isWithin 10 = .ok (.iconst 1, 1) := by decide +kernel
theorem dX10_isWithin_11 : decode cX10_isWithin 11 = .ok (.goto 4, 3) := by decide +kernel
theorem dX10_isWithin_14 : decode cX10_isWithin 14 = .ok (.iconst 0, 1) := by decide +kernel
theorem dX10_isWithin_15 : decode cX10_isWithin 15 = .ok (.ireturn, 1) := by decide +kernel
def f_X10_isWithin (i0 : Int32) (i1 : Int32) (i2 : Int32) : Int32 := if i0 < i1 then ((0 : Int32)) else (if i2 < i0 then ((0 : Int32)) else ((1 : Int32)))
set_option maxHeartbeats 4000000 in
set_option maxRecDepth 100000 in
theorem w_X10_isWithin {x : GX} (X : GC x cX10_isWithin 3 RX10 0) {i0 : Int32} {i1 : Int32} {i2 : Int32}  {M : GM} {r9 : Int32} (hR : ∀ (v9 : Int32) (lv9 : List (Nat × Value)) (pc9 : Nat), r9 = v9 → (v9 = 0 ∨ v9 = 1) → decode cX10_isWithin pc9 = .ok (.ireturn, 1) → WG x M lv9 pc9 [.int v9]) (h : f_X10_isWithin i0 i1 i2 = r9) : WG x M [(0, .int i0), (1, .int i1), (2, .int i2)] 0 [] := by
  unfold f_X10_isWithin at h
  refine g_iload_n X (j := 0) dX10_isWithin_0 rfl rfl ?_
  refine g_iload_n X (j := 1) dX10_isWithin_1 rfl rfl ?_
  refine g_icmp_lt X (tgt := 14) dX10_isWithin_2 (by decide) (fun hb => ?_) (fun hb => ?_)
  · have h := ite_t hb h
    refine g_iconst X (v := 0) dX10_isWithin_14 (by decide) ?_
    exact hR (0 : Int32) _ _ h.symm (Or.inl rfl) dX10_isWithin_15
  · have h := ite_f hb h
    refine g_iload_n X (j := 0) dX10_isWithin_5 rfl rfl ?_
    refine g_iload_n X (j := 2) dX10_isWithin_6 rfl rfl ?_
    refine g_icmp_gt X (tgt := 14) dX10_isWithin_7 (by decide) (fun hb => ?_) (fun hb => ?_)
    · have h := ite_t hb h
      refine g_iconst X (v := 0) dX10_isWithin_14 (by decide) ?_
      exact hR (0 : Int32) _ _ h.symm (Or.inl rfl) dX10_isWithin_15
    · have h := ite_f hb h
      refine g_iconst X (v := 1) dX10_isWithin_10 (by decide) ?_
      refine g_goto X (tgt := 15) dX10_isWithin_11 (by decide) ?_
      exact hR (1 : Int32) _ _ h.symm (Or.inr rfl) dX10_isWithin_15
theorem ct_X10_isWithin {l : Launch} {z : GZ} (htr : l.stackTraces = false) {i0 : Int32} {i1 : Int32} {i2 : Int32}  {M : GM} : gMet l z yX10_isWithin cX10_isWithin 3 (some .boolean) 0 [.int i0, .int i1, .int i2] M (some (.int (f_X10_isWithin i0 i1 i2))) M := gMet_ofZ (by decide +kernel) (Nat.le_of_ble_eq_true rfl) htr (fun x X ez el hR => by subst ez; subst el; exact w_X10_isWithin X  (fun v9 lv9 pc9 e9 z9 d9 => by cases e9; exact hR lv9 pc9 z9 d9) rfl)
theorem fz_X10_isWithin (i0 : Int32) (i1 : Int32) (i2 : Int32) : f_X10_isWithin i0 i1 i2 = 0 ∨ f_X10_isWithin i0 i1 i2 = 1 := by
  unfold f_X10_isWithin
  repeat' split
  all_goals first | exact Or.inl rfl | exact Or.inr rfl | exact fz_X10_isWithin _ _ _
theorem dX10_redOf_0 : decode cX10_redOf 0 = .ok (.iload_n 0, 1) := by decide +kernel
theorem dX10_redOf_1 : decode cX10_redOf 1 = .ok (.bipush 16, 2) := by decide +kernel
theorem dX10_redOf_3 : decode cX10_redOf 3 = .ok (.ishr, 1) := by decide +kernel
theorem dX10_redOf_4 : decode cX10_redOf 4 = .ok (.sipush 255, 3) := by decide +kernel
theorem dX10_redOf_7 : decode cX10_redOf 7 = .ok (.iand, 1) := by decide +kernel
theorem dX10_redOf_8 : decode cX10_redOf 8 = .ok (.ireturn, 1) := by decide +kernel
def f_X10_redOf (i0 : Int32) : Int32 := ((i0 >>> ((16 : Int32) &&& 31)) &&& (255 : Int32))
set_option maxHeartbeats 4000000 in
set_option maxRecDepth 100000 in
theorem w_X10_redOf {x : GX} (X : GC x cX10_redOf 1 RX10 0) {i0 : Int32}  {M : GM} {r9 : Int32} (hR : ∀ (v9 : Int32) (lv9 : List (Nat × Value)) (pc9 : Nat), r9 = v9 → decode cX10_redOf pc9 = .ok (.ireturn, 1) → WG x M lv9 pc9 [.int v9]) (h : f_X10_redOf i0 = r9) : WG x M [(0, .int i0)] 0 [] := by
  unfold f_X10_redOf at h
  refine g_iload_n X (j := 0) dX10_redOf_0 rfl rfl ?_
  refine g_bipush X (v := 16) dX10_redOf_1 (by decide) ?_
  refine g_ishr X dX10_redOf_3 ?_
  refine g_sipush X (v := 255) dX10_redOf_4 (by decide) ?_
  refine g_iand X dX10_redOf_7 ?_
  exact hR ((i0 >>> ((16 : Int32) &&& 31)) &&& (255 : Int32)) _ _ h.symm dX10_redOf_8
theorem ct_X10_redOf {l : Launch} {z : GZ} (htr : l.stackTraces = false) {i0 : Int32}  {M : GM} : gMet l z yX10_redOf cX10_redOf 1 (some .int) 0 [.int i0] M (some (.int (f_X10_redOf i0))) M := gMet_ofI (by decide +kernel) (Nat.le_of_ble_eq_true rfl) htr rfl (fun x X ez el hR => by subst ez; subst el; exact w_X10_redOf X  (fun v9 lv9 pc9 e9 d9 => by cases e9; exact hR lv9 pc9 d9) rfl)
theorem dX10_greenOf_0 : decode cX10_greenOf 0 = .ok (.iload_n 0, 1) := by decide +kernel
theorem dX10_greenOf_1 : decode cX10_greenOf 1 = .ok (.bipush 8, 2) := by decide +kernel
theorem dX10_greenOf_3 : decode cX10_greenOf 3 = .ok (.ishr, 1) := by decide +kernel
theorem dX10_greenOf_4 : decode cX10_greenOf 4 = .ok (.sipush 255, 3) := by decide +kernel
theorem dX10_greenOf_7 : decode cX10_greenOf 7 = .ok (.iand, 1) := by decide +kernel
theorem dX10_greenOf_8 : decode cX10_greenOf 8 = .ok (.ireturn, 1) := by decide +kernel
def f_X10_greenOf (i0 : Int32) : Int32 := ((i0 >>> ((8 : Int32) &&& 31)) &&& (255 : Int32))
set_option maxHeartbeats 4000000 in
set_option maxRecDepth 100000 in
theorem w_X10_greenOf {x : GX} (X : GC x cX10_greenOf 1 RX10 0) {i0 : Int32}  {M : GM} {r9 : Int32} (hR : ∀ (v9 : Int32) (lv9 : List (Nat × Value)) (pc9 : Nat), r9 = v9 → decode cX10_greenOf pc9 = .ok (.ireturn, 1) → WG x M lv9 pc9 [.int v9]) (h : f_X10_greenOf i0 = r9) : WG x M [(0, .int i0)] 0 [] := by
  unfold f_X10_greenOf at h
  refine g_iload_n X (j := 0) dX10_greenOf_0 rfl rfl ?_
  refine g_bipush X (v := 8) dX10_greenOf_1 (by decide) ?_
  refine g_ishr X dX10_greenOf_3 ?_
  refine g_sipush X (v := 255) dX10_greenOf_4 (by decide) ?_
  refine g_iand X dX10_greenOf_7 ?_
  exact hR ((i0 >>> ((8 : Int32) &&& 31)) &&& (255 : Int32)) _ _ h.symm dX10_greenOf_8
theorem ct_X10_greenOf {l : Launch} {z : GZ} (htr : l.stackTraces = false) {i0 : Int32}  {M : GM} : gMet l z yX10_greenOf cX10_greenOf 1 (some .int) 0 [.int i0] M (some (.int (f_X10_greenOf i0))) M := gMet_ofI (by decide +kernel) (Nat.le_of_ble_eq_true rfl) htr rfl (fun x X ez el hR => by subst ez; subst el; exact w_X10_greenOf X  (fun v9 lv9 pc9 e9 d9 => by cases e9; exact hR lv9 pc9 d9) rfl)
theorem dX10_blueOf_0 : decode cX10_blueOf 0 = .ok (.iload_n 0, 1) := by decide +kernel
theorem dX10_blueOf_1 : decode cX10_blueOf 1 = .ok (.sipush 255, 3) := by decide +kernel
theorem dX10_blueOf_4 : decode cX10_blueOf 4 = .ok (.iand, 1) := by decide +kernel
theorem dX10_blueOf_5 : decode cX10_blueOf 5 = .ok (.ireturn, 1) := by decide +kernel
def f_X10_blueOf (i0 : Int32) : Int32 := (i0 &&& (255 : Int32))
set_option maxHeartbeats 4000000 in
set_option maxRecDepth 100000 in
theorem w_X10_blueOf {x : GX} (X : GC x cX10_blueOf 1 RX10 0) {i0 : Int32}  {M : GM} {r9 : Int32} (hR : ∀ (v9 : Int32) (lv9 : List (Nat × Value)) (pc9 : Nat), r9 = v9 → decode cX10_blueOf pc9 = .ok (.ireturn, 1) → WG x M lv9 pc9 [.int v9]) (h : f_X10_blueOf i0 = r9) : WG x M [(0, .int i0)] 0 [] := by
  unfold f_X10_blueOf at h
  refine g_iload_n X (j := 0) dX10_blueOf_0 rfl rfl ?_
  refine g_sipush X (v := 255) dX10_blueOf_1 (by decide) ?_
  refine g_iand X dX10_blueOf_4 ?_
  exact hR (i0 &&& (255 : Int32)) _ _ h.symm dX10_blueOf_5
theorem ct_X10_blueOf {l : Launch} {z : GZ} (htr : l.stackTraces = false) {i0 : Int32}  {M : GM} : gMet l z yX10_blueOf cX10_blueOf 1 (some .int) 0 [.int i0] M (some (.int (f_X10_blueOf i0))) M := gMet_ofI (by decide +kernel) (Nat.le_of_ble_eq_true rfl) htr rfl (fun x X ez el hR => by subst ez; subst el; exact w_X10_blueOf X  (fun v9 lv9 pc9 e9 d9 => by cases e9; exact hR lv9 pc9 d9) rfl)
theorem gc_X10_410 {x : GX} {cc : ByteArray} {nL d pc : Nat} {M : GM} {lv : List (Nat × Value)} {st : List Value} (X : GC x cc nL RX10 d) {i0 : Int64} {i1 : Int64} {M1 : GM} {r : Int64} (hM : gMet (xl x) (xz x) yJ9_floorDiv_f86c9 cJ9_floorDiv_f86c9 6 (some .long) 0 [.long i0, .long i1] M (some (.long r)) M1) (hd : 1 ≤ d) (hsum : (st.map fun v => v.category).sum ≤ 8) (dec : decode cc pc = .ok (.invokestatic 410, 3)) (go : WG x M1 lv (pc + 3) (.long r :: st)) : WG x M lv pc (.long i1 :: .long i0 :: st) := g_callS X (n := 2) (As := [.long i0, .long i1]) (rest := st) hM q_206 q_196 q_34 q_197 (by decide +kernel) rfl hd (by decide) rfl hsum dec go
theorem dX10_cutDown_0 : decode cX10_cutDown 0 = .ok (.lload_n 2, 1) := by decide +kernel
theorem dX10_cutDown_1 : decode cX10_cutDown 1 = .ok (.lconst 0, 1) := by decide +kernel
theorem dX10_cutDown_2 : decode cX10_cutDown 2 = .ok (.lcmp, 1) := by decide +kernel
theorem dX10_cutDown_3 : decode cX10_cutDown 3 = .ok (.ifCond .ne 7, 3) := by decide +kernel
theorem dX10_cutDown_6 : decode cX10_cutDown 6 = .ok (.lconst 0, 1) := by decide +kernel
theorem dX10_cutDown_7 : decode cX10_cutDown 7 = .ok (.goto 8, 3) := by decide +kernel
theorem dX10_cutDown_10 : decode cX10_cutDown 10 = .ok (.lload_n 0, 1) := by decide +kernel
theorem dX10_cutDown_11 : decode cX10_cutDown 11 = .ok (.lload_n 2, 1) := by decide +kernel
theorem dX10_cutDown_12 : decode cX10_cutDown 12 = .ok (.invokestatic 410, 3) := by decide +kernel
theorem dX10_cutDown_15 : decode cX10_cutDown 15 = .ok (.lreturn, 1) := by decide +kernel
def f_X10_cutDown (F : Nat) (j0 : Int64) (j1 : Int64) (M : GM) : Option Int64 := if (lg_cmp j1 (0 : Int64)) = 0 then (some (0 : Int64)) else (bndO (f_J9_floorDiv_f86c9 F j0 j1 M) (fun w2 => some w2))
set_option maxHeartbeats 4000000 in
set_option maxRecDepth 100000 in
theorem w_X10_cutDown {x : GX} (X : GC x cX10_cutDown 4 RX10 1) {j0 : Int64} {j1 : Int64}  {F : Nat} {M : GM} {r9 : Int64} (hR : ∀ (v9 : Int64) (lv9 : List (Nat × Value)) (pc9 : Nat), r9 = v9 → decode cX10_cutDown pc9 = .ok (.lreturn, 1) → WG x M lv9 pc9 [.long v9]) (h : f_X10_cutDown F j0 j1 M = some r9) : WG x M [(0, .long j0), (2, .long j1)] 0 [] := by
  unfold f_X10_cutDown at h
  refine g_lload_n X (j := 1) dX10_cutDown_0 rfl rfl ?_
  refine g_lconst X (v := 0) dX10_cutDown_1 (by decide) ?_
  refine g_lcmp X dX10_cutDown_2 ?_
  refine g_if_ne X (tgt := 10) dX10_cutDown_3 (by decide) (fun hb => ?_) (fun hb => ?_)
  · have h := ite_f hb h
    refine g_lload_n X (j := 0) dX10_cutDown_10 rfl rfl ?_
    refine g_lload_n X (j := 1) dX10_cutDown_11 rfl rfl ?_
    obtain ⟨w2, hc1, h⟩ := bndO_e h
    refine gc_X10_410 X (ct_J9_floorDiv_f86c9 X.htr  hc1) (by decide) (Nat.le_of_ble_eq_true rfl) dX10_cutDown_12 ?_
    exact hR w2 _ _ (Option.some.inj h).symm dX10_cutDown_15
  · have h := ite_t hb h
    refine g_lconst X (v := 0) dX10_cutDown_6 (by decide) ?_
    refine g_goto X (tgt := 15) dX10_cutDown_7 (by decide) ?_
    exact hR (0 : Int64) _ _ (Option.some.inj h).symm dX10_cutDown_15
theorem ct_X10_cutDown {l : Launch} {z : GZ} (htr : l.stackTraces = false) {j0 : Int64} {j1 : Int64}  {M : GM} {F : Nat} {v : Int64} (h : f_X10_cutDown F j0 j1 M = some v) : gMet l z yX10_cutDown cX10_cutDown 4 (some .long) 1 [.long j0, .long j1] M (some (.long v)) M := gMet_ofL (by decide +kernel) (Nat.le_of_ble_eq_true rfl) htr (fun x X ez el hR => by subst ez; subst el; exact w_X10_cutDown X  (fun v9 lv9 pc9 e9 d9 => by cases e9; exact hR lv9 pc9 d9) h)
theorem dX10_mixed_0 : decode cX10_mixed 0 = .ok (.iload_n 0, 1) := by decide +kernel
theorem dX10_mixed_1 : decode cX10_mixed 1 = .ok (.ldc_w 422, 3) := by decide +kernel
theorem dX10_mixed_4 : decode cX10_mixed 4 = .ok (.imul, 1) := by decide +kernel
theorem dX10_mixed_5 : decode cX10_mixed 5 = .ok (.iload_n 1, 1) := by decide +kernel
theorem dX10_mixed_6 : decode cX10_mixed 6 = .ok (.sipush 256, 3) := by decide +kernel
theorem dX10_mixed_9 : decode cX10_mixed 9 = .ok (.imul, 1) := by decide +kernel
theorem dX10_mixed_10 : decode cX10_mixed 10 = .ok (.iadd, 1) := by decide +kernel
theorem dX10_mixed_11 : decode cX10_mixed 11 = .ok (.iload_n 2, 1) := by decide +kernel
theorem dX10_mixed_12 : decode cX10_mixed 12 = .ok (.iadd, 1) := by decide +kernel
theorem dX10_mixed_13 : decode cX10_mixed 13 = .ok (.ireturn, 1) := by decide +kernel
def f_X10_mixed (i0 : Int32) (i1 : Int32) (i2 : Int32) : Int32 := (((i0 * (65536 : Int32)) + (i1 * (256 : Int32))) + i2)
set_option maxHeartbeats 4000000 in
set_option maxRecDepth 100000 in
theorem w_X10_mixed {x : GX} (X : GC x cX10_mixed 3 RX10 0) {i0 : Int32} {i1 : Int32} {i2 : Int32}  {M : GM} {r9 : Int32} (hR : ∀ (v9 : Int32) (lv9 : List (Nat × Value)) (pc9 : Nat), r9 = v9 → decode cX10_mixed pc9 = .ok (.ireturn, 1) → WG x M lv9 pc9 [.int v9]) (h : f_X10_mixed i0 i1 i2 = r9) : WG x M [(0, .int i0), (1, .int i1), (2, .int i2)] 0 [] := by
  unfold f_X10_mixed at h
  refine g_iload_n X (j := 0) dX10_mixed_0 rfl rfl ?_
  refine g_ldcw X q_307 dX10_mixed_1 ?_
  refine g_imul X dX10_mixed_4 ?_
  refine g_iload_n X (j := 1) dX10_mixed_5 rfl rfl ?_
  refine g_sipush X (v := 256) dX10_mixed_6 (by decide) ?_
  refine g_imul X dX10_mixed_9 ?_
  refine g_iadd X dX10_mixed_10 ?_
  refine g_iload_n X (j := 2) dX10_mixed_11 rfl rfl ?_
  refine g_iadd X dX10_mixed_12 ?_
  exact hR (((i0 * (65536 : Int32)) + (i1 * (256 : Int32))) + i2) _ _ h.symm dX10_mixed_13
theorem ct_X10_mixed {l : Launch} {z : GZ} (htr : l.stackTraces = false) {i0 : Int32} {i1 : Int32} {i2 : Int32}  {M : GM} : gMet l z yX10_mixed cX10_mixed 3 (some .int) 0 [.int i0, .int i1, .int i2] M (some (.int (f_X10_mixed i0 i1 i2))) M := gMet_ofI (by decide +kernel) (Nat.le_of_ble_eq_true rfl) htr rfl (fun x X ez el hR => by subst ez; subst el; exact w_X10_mixed X  (fun v9 lv9 pc9 e9 d9 => by cases e9; exact hR lv9 pc9 d9) rfl)
theorem gm_X0_18 {x : GX} {cc : ByteArray} {nL d pc : Nat} {M : GM} {lv : List (Nat × Value)} {st : List Value} (X : GC x cc nL RX0 d) {a b : Int32} (hd : 1 ≤ d) (hsum : (st.map fun v => v.category).sum ≤ 8) (dec : decode cc pc = .ok (.invokestatic 18, 3)) (go : WG x M lv (pc + 3) (.int (g_max a b) :: st)) : WG x M lv pc (.int b :: .int a :: st) := fun H locs ls hP hO hS hl => va_mmax X.1 X.2.1 hl.1.symm X.2.2.2.1 (X.hw q_248) (X.hw q_239) (X.hw q_34) (X.hw q_240) (by have := X.2.2.2.2.2.2.2.1; omega) (by have := X.2.2.2.2.2.2.2.2.1; omega) X.2.2.2.2.2.2.2.2.2.1 X.2.2.2.2.2.2.2.2.2.2.1 dec (go H locs ls hP hO hS hl)
theorem gm_X0_30 {x : GX} {cc : ByteArray} {nL d pc : Nat} {M : GM} {lv : List (Nat × Value)} {st : List Value} (X : GC x cc nL RX0 d) {a b : Int32} (hd : 1 ≤ d) (hsum : (st.map fun v => v.category).sum ≤ 8) (dec : decode cc pc = .ok (.invokestatic 30, 3)) (go : WG x M lv (pc + 3) (.int (g_min a b) :: st)) : WG x M lv pc (.int b :: .int a :: st) := fun H locs ls hP hO hS hl => va_mmin X.1 X.2.1 hl.1.symm X.2.2.2.1 (X.hw q_249) (X.hw q_230) (X.hw q_34) (X.hw q_231) (by have := X.2.2.2.2.2.2.2.1; omega) (by have := X.2.2.2.2.2.2.2.2.1; omega) X.2.2.2.2.2.2.2.2.2.1 X.2.2.2.2.2.2.2.2.2.2.1 dec (go H locs ls hP hO hS hl)
theorem dX0_span_0 : decode cX0_span 0 = .ok (.aload_n 0, 1) := by decide +kernel
theorem dX0_span_1 : decode cX0_span 1 = .ok (.iconst 0, 1) := by decide +kernel
theorem dX0_span_2 : decode cX0_span 2 = .ok (.iload_n 1, 1) := by decide +kernel
theorem dX0_span_3 : decode cX0_span 3 = .ok (.invokestatic 18, 3) := by decide +kernel
theorem dX0_span_6 : decode cX0_span 6 = .ok (.putfield 24, 3) := by decide +kernel
theorem dX0_span_9 : decode cX0_span 9 = .ok (.aload_n 0, 1) := by decide +kernel
theorem dX0_span_10 : decode cX0_span 10 = .ok (.iconst 0, 1) := by decide +kernel
theorem dX0_span_11 : decode cX0_span 11 = .ok (.iload_n 2, 1) := by decide +kernel
theorem dX0_span_12 : decode cX0_span 12 = .ok (.invokestatic 18, 3) := by decide +kernel
theorem dX0_span_15 : decode cX0_span 15 = .ok (.putfield 27, 3) := by decide +kernel
theorem dX0_span_18 : decode cX0_span 18 = .ok (.aload_n 0, 1) := by decide +kernel
theorem dX0_span_19 : decode cX0_span 19 = .ok (.bipush 39, 2) := by decide +kernel
theorem dX0_span_21 : decode cX0_span 21 = .ok (.iload_n 3, 1) := by decide +kernel
theorem dX0_span_22 : decode cX0_span 22 = .ok (.invokestatic 30, 3) := by decide +kernel
theorem dX0_span_25 : decode cX0_span 25 = .ok (.putfield 9, 3) := by decide +kernel
theorem dX0_span_28 : decode cX0_span 28 = .ok (.aload_n 0, 1) := by decide +kernel
theorem dX0_span_29 : decode cX0_span 29 = .ok (.bipush 23, 2) := by decide +kernel
theorem dX0_span_31 : decode cX0_span 31 = .ok (.iload 4, 2) := by decide +kernel
theorem dX0_span_33 : decode cX0_span 33 = .ok (.invokestatic 30, 3) := by decide +kernel
theorem dX0_span_36 : decode cX0_span 36 = .ok (.putfield 15, 3) := by decide +kernel
theorem dX0_span_39 : decode cX0_span 39 = .ok (.return_, 1) := by decide +kernel
def f_X0_span (t0 : Nat) (i0 : Int32) (i1 : Int32) (i2 : Int32) (i3 : Int32) (M : GM) : GM := bnd (sI M t0 0 (g_max (0 : Int32) i0)) (fun M1 => bnd (sI M1 t0 1 (g_max (0 : Int32) i1)) (fun M3 => bnd (sI M3 t0 2 (g_min (39 : Int32) i2)) (fun M5 => bnd (sI M5 t0 3 (g_min (23 : Int32) i3)) (fun M7 => M7))))
set_option maxHeartbeats 4000000 in
set_option maxRecDepth 100000 in
theorem w_X0_span {x : GX} (X : GC x cX0_span 5 RX0 1) {t0 : Nat} {i0 : Int32} {i1 : Int32} {i2 : Int32} {i3 : Int32} (h0 : gT t0 = 0) {M : GM} {r9 : GM} (hR : ∀ (M9 : GM) (lv9 : List (Nat × Value)) (pc9 : Nat), r9 = M9 → decode cX0_span pc9 = .ok (.return_, 1) → WG x M9 lv9 pc9 []) (h : f_X0_span t0 i0 i1 i2 i3 M = r9) : WG x M [(0, .ref (gad (xz x) t0)), (1, .int i0), (2, .int i1), (3, .int i2), (4, .int i3)] 0 [] := by
  unfold f_X0_span at h
  refine g_aload_n X (j := 0) dX0_span_0 rfl rfl ?_
  refine g_iconst X (v := 0) dX0_span_1 (by decide) ?_
  refine g_iload_n X (j := 1) dX0_span_2 rfl rfl ?_
  refine gm_X0_18 X (by decide) (Nat.le_of_ble_eq_true rfl) dX0_span_3 ?_
  refine gp_X0_24 X h0 dX0_span_6 ?_
  refine g_mem (fun M1 e2 => ?_)
  have h := bnd_e e2 h
  refine g_aload_n X (j := 0) dX0_span_9 rfl rfl ?_
  refine g_iconst X (v := 0) dX0_span_10 (by decide) ?_
  refine g_iload_n X (j := 2) dX0_span_11 rfl rfl ?_
  refine gm_X0_18 X (by decide) (Nat.le_of_ble_eq_true rfl) dX0_span_12 ?_
  refine gp_X0_27 X h0 dX0_span_15 ?_
  refine g_mem (fun M3 e4 => ?_)
  have h := bnd_e e4 h
  refine g_aload_n X (j := 0) dX0_span_18 rfl rfl ?_
  refine g_bipush X (v := 39) dX0_span_19 (by decide) ?_
  refine g_iload_n X (j := 3) dX0_span_21 rfl rfl ?_
  refine gm_X0_30 X (by decide) (Nat.le_of_ble_eq_true rfl) dX0_span_22 ?_
  refine gp_X0_9 X h0 dX0_span_25 ?_
  refine g_mem (fun M5 e6 => ?_)
  have h := bnd_e e6 h
  refine g_aload_n X (j := 0) dX0_span_28 rfl rfl ?_
  refine g_bipush X (v := 23) dX0_span_29 (by decide) ?_
  refine g_iload X (j := 4) dX0_span_31 rfl ?_
  refine gm_X0_30 X (by decide) (Nat.le_of_ble_eq_true rfl) dX0_span_33 ?_
  refine gp_X0_15 X h0 dX0_span_36 ?_
  refine g_mem (fun M7 e8 => ?_)
  have h := bnd_e e8 h
  exact hR M7 _ _ h.symm dX0_span_39
theorem ct_X0_span {l : Launch} {z : GZ} (htr : l.stackTraces = false) {t0 : Nat} {i0 : Int32} {i1 : Int32} {i2 : Int32} {i3 : Int32} (h0 : gT t0 = 0) {M : GM} : gMet l z yX0_span cX0_span 5 none 1 [.ref (gad z t0), .int i0, .int i1, .int i2, .int i3] M (none) (f_X0_span t0 i0 i1 i2 i3 M) := gMet_ofV (by decide +kernel) (Nat.le_of_ble_eq_true rfl) htr (fun x X ez el hR => by subst ez; subst el; exact w_X0_span X h0 (fun M9 lv9 pc9 e9 d9 => by cases e9; exact hR lv9 pc9 d9) rfl)
theorem gc_X0_33 {x : GX} {cc : ByteArray} {nL d pc : Nat} {M : GM} {lv : List (Nat × Value)} {st : List Value} (X : GC x cc nL RX0 d) {i0 : Int32} {i1 : Int32} {i2 : Int32} {M1 : GM} {r : Int32} (hM : gMet (xl x) (xz x) yX10_isWithin cX10_isWithin 3 (some .boolean) 0 [.int i0, .int i1, .int i2] M (some (.int r)) M1) (hd : 1 ≤ d) (hsum : (st.map fun v => v.category).sum ≤ 8) (dec : decode cc pc = .ok (.invokestatic 33, 3)) (go : WG x M1 lv (pc + 3) (.int r :: st)) : WG x M lv pc (.int i2 :: .int i1 :: .int i0 :: st) := g_callSN X (n := 3) (As := [.int i0, .int i1, .int i2]) (rest := st) (host := RX10) hM (fun h => h.2.2.2.2.2.1) q_47 q_17 q_48 (by decide +kernel) rfl hd (by decide) rfl hsum dec go
theorem dX0_spans_0 : decode cX0_spans 0 = .ok (.iload_n 1, 1) := by decide +kernel
theorem dX0_spans_1 : decode cX0_spans 1 = .ok (.aload_n 0, 1) := by decide +kernel
theorem dX0_spans_2 : decode cX0_spans 2 = .ok (.getfield 24, 3) := by decide +kernel
theorem dX0_spans_5 : decode cX0_spans 5 = .ok (.aload_n 0, 1) := by decide +kernel
theorem dX0_spans_6 : decode cX0_spans 6 = .ok (.getfield 9, 3) := by decide +kernel
theorem dX0_spans_9 : decode cX0_spans 9 = .ok (.invokestatic 33, 3) := by decide +kernel
theorem dX0_spans_12 : decode cX0_spans 12 = .ok (.ifCond .eq 22, 3) := by decide +kernel
theorem dX0_spans_15 : decode cX0_spans 15 = .ok (.iload_n 2, 1) := by decide +kernel
theorem dX0_spans_16 : decode cX0_spans 16 = .ok (.aload_n 0, 1) := by decide +kernel
theorem dX0_spans_17 : decode cX0_spans 17 = .ok (.getfield 27, 3) := by decide +kernel
theorem dX0_spans_20 : decode cX0_spans 20 = .ok (.aload_n 0, 1) := by decide +kernel
theorem dX0_spans_21 : decode cX0_spans 21 = .ok (.getfield 15, 3) := by decide +kernel
theorem dX0_spans_24 : decode cX0_spans 24 = .ok (.invokestatic 33, 3) := by decide +kernel
theorem dX0_spans_27 : decode cX0_spans 27 = .ok (.ifCond .eq 7, 3) := by decide +kernel
theorem dX0_spans_30 : decode cX0_spans 30 = .ok (.iconst 1, 1) := by decide +kernel
theorem dX0_spans_31 : decode cX0_spans 31 = .ok (.goto 4, 3) := by decide +kernel
theorem dX0_spans_34 : decode cX0_spans 34 = .ok (.iconst 0, 1) := by decide +kernel
theorem dX0_spans_35 : decode cX0_spans 35 = .ok (.ireturn, 1) := by decide +kernel
def f_X0_spans (t0 : Nat) (i0 : Int32) (i1 : Int32) (M : GM) : Int32 := if (f_X10_isWithin i0 (gI M t0 0) (gI M t0 2)) = 0 then ((0 : Int32)) else (if (f_X10_isWithin i1 (gI M t0 1) (gI M t0 3)) = 0 then ((0 : Int32)) else ((1 : Int32)))
set_option maxHeartbeats 4000000 in
set_option maxRecDepth 100000 in
theorem w_X0_spans {x : GX} (X : GC x cX0_spans 3 RX0 1) {t0 : Nat} {i0 : Int32} {i1 : Int32} (h0 : gT t0 = 0) {M : GM} {r9 : Int32} (hR : ∀ (v9 : Int32) (lv9 : List (Nat × Value)) (pc9 : Nat), r9 = v9 → (v9 = 0 ∨ v9 = 1) → decode cX0_spans pc9 = .ok (.ireturn, 1) → WG x M lv9 pc9 [.int v9]) (h : f_X0_spans t0 i0 i1 M = r9) : WG x M [(0, .ref (gad (xz x) t0)), (1, .int i0), (2, .int i1)] 0 [] := by
  unfold f_X0_spans at h
  refine g_iload_n X (j := 1) dX0_spans_0 rfl rfl ?_
  refine g_aload_n X (j := 0) dX0_spans_1 rfl rfl ?_
  refine gf_X0_24 X h0 dX0_spans_2 ?_
  refine g_aload_n X (j := 0) dX0_spans_5 rfl rfl ?_
  refine gf_X0_9 X h0 dX0_spans_6 ?_
  refine gc_X0_33 X (ct_X10_isWithin X.htr ) (by decide) (Nat.le_of_ble_eq_true rfl) dX0_spans_9 ?_
  refine g_if_eq X (tgt := 34) dX0_spans_12 (by decide) (fun hb => ?_) (fun hb => ?_)
  · have h := ite_t hb h
    refine g_iconst X (v := 0) dX0_spans_34 (by decide) ?_
    exact hR (0 : Int32) _ _ h.symm (Or.inl rfl) dX0_spans_35
  · have h := ite_f hb h
    refine g_iload_n X (j := 2) dX0_spans_15 rfl rfl ?_
    refine g_aload_n X (j := 0) dX0_spans_16 rfl rfl ?_
    refine gf_X0_27 X h0 dX0_spans_17 ?_
    refine g_aload_n X (j := 0) dX0_spans_20 rfl rfl ?_
    refine gf_X0_15 X h0 dX0_spans_21 ?_
    refine gc_X0_33 X (ct_X10_isWithin X.htr ) (by decide) (Nat.le_of_ble_eq_true rfl) dX0_spans_24 ?_
    refine g_if_eq X (tgt := 34) dX0_spans_27 (by decide) (fun hb => ?_) (fun hb => ?_)
    · have h := ite_t hb h
      refine g_iconst X (v := 0) dX0_spans_34 (by decide) ?_
      exact hR (0 : Int32) _ _ h.symm (Or.inl rfl) dX0_spans_35
    · have h := ite_f hb h
      refine g_iconst X (v := 1) dX0_spans_30 (by decide) ?_
      refine g_goto X (tgt := 35) dX0_spans_31 (by decide) ?_
      exact hR (1 : Int32) _ _ h.symm (Or.inr rfl) dX0_spans_35
theorem ct_X0_spans {l : Launch} {z : GZ} (htr : l.stackTraces = false) {t0 : Nat} {i0 : Int32} {i1 : Int32} (h0 : gT t0 = 0) {M : GM} : gMet l z yX0_spans cX0_spans 3 (some .boolean) 1 [.ref (gad z t0), .int i0, .int i1] M (some (.int (f_X0_spans t0 i0 i1 M))) M := gMet_ofZ (by decide +kernel) (Nat.le_of_ble_eq_true rfl) htr (fun x X ez el hR => by subst ez; subst el; exact w_X0_spans X h0 (fun v9 lv9 pc9 e9 z9 d9 => by cases e9; exact hR lv9 pc9 z9 d9) rfl)
theorem fz_X0_spans (t0 : Nat) (i0 : Int32) (i1 : Int32) (M : GM) : f_X0_spans t0 i0 i1 M = 0 ∨ f_X0_spans t0 i0 i1 M = 1 := by
  unfold f_X0_spans
  repeat' split
  all_goals first | exact Or.inl rfl | exact Or.inr rfl | exact fz_X10_isWithin _ _ _
theorem dX1_turnRow_0 : decode cX1_turnRow 0 = .ok (.iconst 4, 1) := by decide +kernel
theorem dX1_turnRow_1 : decode cX1_turnRow 1 = .ok (.iload_n 1, 1) := by decide +kernel
theorem dX1_turnRow_2 : decode cX1_turnRow 2 = .ok (.imul, 1) := by decide +kernel
theorem dX1_turnRow_3 : decode cX1_turnRow 3 = .ok (.istore 6, 2) := by decide +kernel
theorem dX1_turnRow_5 : decode cX1_turnRow 5 = .ok (.aload_n 0, 1) := by decide +kernel
theorem dX1_turnRow_6 : decode cX1_turnRow 6 = .ok (.getfield 9, 3) := by decide +kernel
theorem dX1_turnRow_9 : decode cX1_turnRow 9 = .ok (.iload 6, 2) := by decide +kernel
theorem dX1_turnRow_11 : decode cX1_turnRow 11 = .ok (.iload_n 2, 1) := by decide +kernel
theorem dX1_turnRow_12 : decode cX1_turnRow 12 = .ok (.iastore, 1) := by decide +kernel
theorem dX1_turnRow_13 : decode cX1_turnRow 13 = .ok (.aload_n 0, 1) := by decide +kernel
theorem dX1_turnRow_14 : decode cX1_turnRow 14 = .ok (.getfield 9, 3) := by decide +kernel
theorem dX1_turnRow_17 : decode cX1_turnRow 17 = .ok (.iload 6, 2) := by decide +kernel
theorem dX1_turnRow_19 : decode cX1_turnRow 19 = .ok (.iconst 1, 1) := by decide +kernel
theorem dX1_turnRow_20 : decode cX1_turnRow 20 = .ok (.iadd, 1) := by decide +kernel
theorem dX1_turnRow_21 : decode cX1_turnRow 21 = .ok (.iload_n 3, 1) := by decide +kernel
theorem dX1_turnRow_22 : decode cX1_turnRow 22 = .ok (.iastore, 1) := by decide +kernel
theorem dX1_turnRow_23 : decode cX1_turnRow 23 = .ok (.aload_n 0, 1) := by decide +kernel
theorem dX1_turnRow_24 : decode cX1_turnRow 24 = .ok (.getfield 9, 3) := by decide +kernel
theorem dX1_turnRow_27 : decode cX1_turnRow 27 = .ok (.iload 6, 2) := by decide +kernel
theorem dX1_turnRow_29 : decode cX1_turnRow 29 = .ok (.iconst 2, 1) := by decide +kernel
theorem dX1_turnRow_30 : decode cX1_turnRow 30 = .ok (.iadd, 1) := by decide +kernel
theorem dX1_turnRow_31 : decode cX1_turnRow 31 = .ok (.iload 4, 2) := by decide +kernel
theorem dX1_turnRow_33 : decode cX1_turnRow 33 = .ok (.iastore, 1) := by decide +kernel
theorem dX1_turnRow_34 : decode cX1_turnRow 34 = .ok (.aload_n 0, 1) := by decide +kernel
theorem dX1_turnRow_35 : decode cX1_turnRow 35 = .ok (.getfield 9, 3) := by decide +kernel
theorem dX1_turnRow_38 : decode cX1_turnRow 38 = .ok (.iload 6, 2) := by decide +kernel
theorem dX1_turnRow_40 : decode cX1_turnRow 40 = .ok (.iconst 3, 1) := by decide +kernel
theorem dX1_turnRow_41 : decode cX1_turnRow 41 = .ok (.iadd, 1) := by decide +kernel
theorem dX1_turnRow_42 : decode cX1_turnRow 42 = .ok (.iload 5, 2) := by decide +kernel
theorem dX1_turnRow_44 : decode cX1_turnRow 44 = .ok (.iastore, 1) := by decide +kernel
theorem dX1_turnRow_45 : decode cX1_turnRow 45 = .ok (.return_, 1) := by decide +kernel
def f_X1_turnRow (F : Nat) (i0 : Int32) (i1 : Int32) (i2 : Int32) (i3 : Int32) (i4 : Int32) (M : GM) : Option GM := bnd ((4 : Int32) * i0) (fun v1 => grd (gIn v1 (gN 5)) (bnd (sI M 5 v1.toNatClampNeg i1) (fun M4 => grd (gIn (v1 + (1 : Int32)) (gN 5)) (bnd (sI M4 5 ((v1 + (1 : Int32)).toNatClampNeg) i2) (fun M7 => grd (gIn (v1 + (2 : Int32)) (gN 5)) (bnd (sI M7 5 ((v1 + (2 : Int32)).toNatClampNeg) i3) (fun M10 => grd (gIn (v1 + (3 : Int32)) (gN 5)) (bnd (sI M10 5 ((v1 + (3 : Int32)).toNatClampNeg) i4) (fun M13 => some M13)))))))))
set_option maxHeartbeats 4000000 in
set_option maxRecDepth 100000 in
theorem w_X1_turnRow {x : GX} (X : GC x cX1_turnRow 7 RX1 0) {i0 : Int32} {i1 : Int32} {i2 : Int32} {i3 : Int32} {i4 : Int32}  {F : Nat} {M : GM} {r9 : GM} (hR : ∀ (M9 : GM) (lv9 : List (Nat × Value)) (pc9 : Nat), r9 = M9 → decode cX1_turnRow pc9 = .ok (.return_, 1) → WG x M9 lv9 pc9 []) (h : f_X1_turnRow F i0 i1 i2 i3 i4 M = some r9) : WG x M [(0, .ref (gad (xz x) 4)), (1, .int i0), (2, .int i1), (3, .int i2), (4, .int i3), (5, .int i4)] 0 [] := by
  unfold f_X1_turnRow at h
  refine g_iconst X (v := 4) dX1_turnRow_0 (by decide) ?_
  refine g_iload_n X (j := 1) dX1_turnRow_1 rfl rfl ?_
  refine g_imul X dX1_turnRow_2 ?_
  refine g_topi (fun v1 e2 => ?_)
  have h := bnd_e e2 h
  refine g_istore X (lv' := [(6, .int v1), (0, .ref (gad (xz x) 4)), (1, .int i0), (2, .int i1), (3, .int i2), (4, .int i3), (5, .int i4)]) dX1_turnRow_3 (by decide) rfl ?_
  refine g_aload_n X (j := 1) dX1_turnRow_5 rfl rfl ?_
  refine gf_X1_9 X gT_c4 dX1_turnRow_6 ?_
  refine g_iload X (j := 0) dX1_turnRow_9 rfl ?_
  refine g_iload_n X (j := 3) dX1_turnRow_11 rfl rfl ?_
  obtain ⟨hg3, h⟩ := grd_e h
  refine g_iast X gT_c5 hg3 dX1_turnRow_12 ?_
  refine g_mem (fun M4 e5 => ?_)
  have h := bnd_e e5 h
  refine g_aload_n X (j := 1) dX1_turnRow_13 rfl rfl ?_
  refine gf_X1_9 X gT_c4 dX1_turnRow_14 ?_
  refine g_iload X (j := 0) dX1_turnRow_17 rfl ?_
  refine g_iconst X (v := 1) dX1_turnRow_19 (by decide) ?_
  refine g_iadd X dX1_turnRow_20 ?_
  refine g_iload_n X (j := 4) dX1_turnRow_21 rfl rfl ?_
  obtain ⟨hg6, h⟩ := grd_e h
  refine g_iast X gT_c5 hg6 dX1_turnRow_22 ?_
  refine g_mem (fun M7 e8 => ?_)
  have h := bnd_e e8 h
  refine g_aload_n X (j := 1) dX1_turnRow_23 rfl rfl ?_
  refine gf_X1_9 X gT_c4 dX1_turnRow_24 ?_
  refine g_iload X (j := 0) dX1_turnRow_27 rfl ?_
  refine g_iconst X (v := 2) dX1_turnRow_29 (by decide) ?_
  refine g_iadd X dX1_turnRow_30 ?_
  refine g_iload X (j := 5) dX1_turnRow_31 rfl ?_
  obtain ⟨hg9, h⟩ := grd_e h
  refine g_iast X gT_c5 hg9 dX1_turnRow_33 ?_
  refine g_mem (fun M10 e11 => ?_)
  have h := bnd_e e11 h
  refine g_aload_n X (j := 1) dX1_turnRow_34 rfl rfl ?_
  refine gf_X1_9 X gT_c4 dX1_turnRow_35 ?_
  refine g_iload X (j := 0) dX1_turnRow_38 rfl ?_
  refine g_iconst X (v := 3) dX1_turnRow_40 (by decide) ?_
  refine g_iadd X dX1_turnRow_41 ?_
  refine g_iload X (j := 6) dX1_turnRow_42 rfl ?_
  obtain ⟨hg12, h⟩ := grd_e h
  refine g_iast X gT_c5 hg12 dX1_turnRow_44 ?_
  refine g_mem (fun M13 e14 => ?_)
  have h := bnd_e e14 h
  exact hR M13 _ _ (Option.some.inj h).symm dX1_turnRow_45
theorem ct_X1_turnRow {l : Launch} {z : GZ} (htr : l.stackTraces = false) {i0 : Int32} {i1 : Int32} {i2 : Int32} {i3 : Int32} {i4 : Int32}  {M : GM} {F : Nat} {M1 : GM} (h : f_X1_turnRow F i0 i1 i2 i3 i4 M = some M1) : gMet l z yX1_turnRow cX1_turnRow 7 none 0 [.ref (gad z 4), .int i0, .int i1, .int i2, .int i3, .int i4] M (none) M1 := gMet_ofV (by decide +kernel) (Nat.le_of_ble_eq_true rfl) htr (fun x X ez el hR => by subst ez; subst el; exact w_X1_turnRow X  (fun M9 lv9 pc9 e9 d9 => by cases e9; exact hR lv9 pc9 d9) h)
theorem dX1_along_0 : decode cX1_along 0 = .ok (.iconst 4, 1) := by decide +kernel
theorem dX1_along_1 : decode cX1_along 1 = .ok (.iload_n 1, 1) := by decide +kernel
theorem dX1_along_2 : decode cX1_along 2 = .ok (.imul, 1) := by decide +kernel
theorem dX1_along_3 : decode cX1_along 3 = .ok (.istore_n 3, 1) := by decide +kernel
theorem dX1_along_4 : decode cX1_along 4 = .ok (.aload_n 0, 1) := by decide +kernel
theorem dX1_along_5 : decode cX1_along 5 = .ok (.getfield 9, 3) := by decide +kernel
theorem dX1_along_8 : decode cX1_along 8 = .ok (.iload_n 3, 1) := by decide +kernel
theorem dX1_along_9 : decode cX1_along 9 = .ok (.iaload, 1) := by decide +kernel
theorem dX1_along_10 : decode cX1_along 10 = .ok (.aload_n 2, 1) := by decide +kernel
theorem dX1_along_11 : decode cX1_along 11 = .ok (.getfield 22, 3) := by decide +kernel
theorem dX1_along_14 : decode cX1_along 14 = .ok (.imul, 1) := by decide +kernel
theorem dX1_along_15 : decode cX1_along 15 = .ok (.aload_n 0, 1) := by decide +kernel
theorem dX1_along_16 : decode cX1_along 16 = .ok (.getfield 9, 3) := by decide +kernel
theorem dX1_along_19 : decode cX1_along 19 = .ok (.iload_n 3, 1) := by decide +kernel
theorem dX1_along_20 : decode cX1_along 20 = .ok (.iconst 1, 1) := by decide +kernel
theorem dX1_along_21 : decode cX1_along 21 = .ok (.iadd, 1) := by decide +kernel
theorem dX1_along_22 : decode cX1_along 22 = .ok (.iaload, 1) := by decide +kernel
theorem dX1_along_23 : decode cX1_along 23 = .ok (.aload_n 2, 1) := by decide +kernel
theorem dX1_along_24 : decode cX1_along 24 = .ok (.getfield 27, 3) := by decide +kernel
theorem dX1_along_27 : decode cX1_along 27 = .ok (.imul, 1) := by decide +kernel
theorem dX1_along_28 : decode cX1_along 28 = .ok (.iadd, 1) := by decide +kernel
theorem dX1_along_29 : decode cX1_along 29 = .ok (.aload_n 0, 1) := by decide +kernel
theorem dX1_along_30 : decode cX1_along 30 = .ok (.getfield 9, 3) := by decide +kernel
theorem dX1_along_33 : decode cX1_along 33 = .ok (.iload_n 3, 1) := by decide +kernel
theorem dX1_along_34 : decode cX1_along 34 = .ok (.iconst 2, 1) := by decide +kernel
theorem dX1_along_35 : decode cX1_along 35 = .ok (.iadd, 1) := by decide +kernel
theorem dX1_along_36 : decode cX1_along 36 = .ok (.iaload, 1) := by decide +kernel
theorem dX1_along_37 : decode cX1_along 37 = .ok (.aload_n 2, 1) := by decide +kernel
theorem dX1_along_38 : decode cX1_along 38 = .ok (.getfield 30, 3) := by decide +kernel
theorem dX1_along_41 : decode cX1_along 41 = .ok (.imul, 1) := by decide +kernel
theorem dX1_along_42 : decode cX1_along 42 = .ok (.iadd, 1) := by decide +kernel
theorem dX1_along_43 : decode cX1_along 43 = .ok (.istore 4, 2) := by decide +kernel
theorem dX1_along_45 : decode cX1_along 45 = .ok (.iload 4, 2) := by decide +kernel
theorem dX1_along_47 : decode cX1_along 47 = .ok (.bipush 10, 2) := by decide +kernel
theorem dX1_along_49 : decode cX1_along 49 = .ok (.ishr, 1) := by decide +kernel
theorem dX1_along_50 : decode cX1_along 50 = .ok (.aload_n 0, 1) := by decide +kernel
theorem dX1_along_51 : decode cX1_along 51 = .ok (.getfield 9, 3) := by decide +kernel
theorem dX1_along_54 : decode cX1_along 54 = .ok (.iload_n 3, 1) := by decide +kernel
theorem dX1_along_55 : decode cX1_along 55 = .ok (.iconst 3, 1) := by decide +kernel
theorem dX1_along_56 : decode cX1_along 56 = .ok (.iadd, 1) := by decide +kernel
theorem dX1_along_57 : decode cX1_along 57 = .ok (.iaload, 1) := by decide +kernel
theorem dX1_along_58 : decode cX1_along 58 = .ok (.iadd, 1) := by decide +kernel
theorem dX1_along_59 : decode cX1_along 59 = .ok (.ireturn, 1) := by decide +kernel
def f_X1_along (F : Nat) (i0 : Int32) (p1 : Nat) (M : GM) : Option Int32 := bnd ((4 : Int32) * i0) (fun v1 => grd (gIn v1 (gN 5)) (grd (gIn (v1 + (1 : Int32)) (gN 5)) (grd (gIn (v1 + (2 : Int32)) (gN 5)) (bnd ((((gI M 5 v1.toNatClampNeg) * (gI M p1 0)) + ((gI M 5 ((v1 + (1 : Int32)).toNatClampNeg)) * (gI M p1 1))) + ((gI M 5 ((v1 + (2 : Int32)).toNatClampNeg)) * (gI M p1 2))) (fun v6 => grd (gIn (v1 + (3 : Int32)) (gN 5)) (some ((v6 >>> ((10 : Int32) &&& 31)) + (gI M 5 ((v1 + (3 : Int32)).toNatClampNeg)))))))))
set_option maxHeartbeats 4000000 in
set_option maxRecDepth 100000 in
theorem w_X1_along {x : GX} (X : GC x cX1_along 5 RX1 0) {i0 : Int32} {p1 : Nat} (h2 : gT p1 = 3) {F : Nat} {M : GM} {r9 : Int32} (hR : ∀ (v9 : Int32) (lv9 : List (Nat × Value)) (pc9 : Nat), r9 = v9 → decode cX1_along pc9 = .ok (.ireturn, 1) → WG x M lv9 pc9 [.int v9]) (h : f_X1_along F i0 p1 M = some r9) : WG x M [(0, .ref (gad (xz x) 4)), (1, .int i0), (2, .ref (gad (xz x) p1))] 0 [] := by
  unfold f_X1_along at h
  refine g_iconst X (v := 4) dX1_along_0 (by decide) ?_
  refine g_iload_n X (j := 1) dX1_along_1 rfl rfl ?_
  refine g_imul X dX1_along_2 ?_
  refine g_topi (fun v1 e2 => ?_)
  have h := bnd_e e2 h
  refine g_istore_n X (lv' := [(3, .int v1), (0, .ref (gad (xz x) 4)), (1, .int i0), (2, .ref (gad (xz x) p1))]) dX1_along_3 rfl (by decide) rfl ?_
  refine g_aload_n X (j := 1) dX1_along_4 rfl rfl ?_
  refine gf_X1_9 X gT_c4 dX1_along_5 ?_
  refine g_iload_n X (j := 0) dX1_along_8 rfl rfl ?_
  obtain ⟨hg3, h⟩ := grd_e h
  refine g_iald X gT_c5 hg3 dX1_along_9 ?_
  refine g_aload_n X (j := 3) dX1_along_10 rfl rfl ?_
  refine gf_X1_22 X h2 dX1_along_11 ?_
  refine g_imul X dX1_along_14 ?_
  refine g_aload_n X (j := 1) dX1_along_15 rfl rfl ?_
  refine gf_X1_9 X gT_c4 dX1_along_16 ?_
  refine g_iload_n X (j := 0) dX1_along_19 rfl rfl ?_
  refine g_iconst X (v := 1) dX1_along_20 (by decide) ?_
  refine g_iadd X dX1_along_21 ?_
  obtain ⟨hg4, h⟩ := grd_e h
  refine g_iald X gT_c5 hg4 dX1_along_22 ?_
  refine g_aload_n X (j := 3) dX1_along_23 rfl rfl ?_
  refine gf_X1_27 X h2 dX1_along_24 ?_
  refine g_imul X dX1_along_27 ?_
  refine g_iadd X dX1_along_28 ?_
  refine g_aload_n X (j := 1) dX1_along_29 rfl rfl ?_
  refine gf_X1_9 X gT_c4 dX1_along_30 ?_
  refine g_iload_n X (j := 0) dX1_along_33 rfl rfl ?_
  refine g_iconst X (v := 2) dX1_along_34 (by decide) ?_
  refine g_iadd X dX1_along_35 ?_
  obtain ⟨hg5, h⟩ := grd_e h
  refine g_iald X gT_c5 hg5 dX1_along_36 ?_
  refine g_aload_n X (j := 3) dX1_along_37 rfl rfl ?_
  refine gf_X1_30 X h2 dX1_along_38 ?_
  refine g_imul X dX1_along_41 ?_
  refine g_iadd X dX1_along_42 ?_
  refine g_topi (fun v6 e7 => ?_)
  have h := bnd_e e7 h
  refine g_istore X (lv' := [(4, .int v6), (3, .int v1), (0, .ref (gad (xz x) 4)), (1, .int i0), (2, .ref (gad (xz x) p1))]) dX1_along_43 (by decide) rfl ?_
  refine g_iload X (j := 0) dX1_along_45 rfl ?_
  refine g_bipush X (v := 10) dX1_along_47 (by decide) ?_
  refine g_ishr X dX1_along_49 ?_
  refine g_aload_n X (j := 2) dX1_along_50 rfl rfl ?_
  refine gf_X1_9 X gT_c4 dX1_along_51 ?_
  refine g_iload_n X (j := 1) dX1_along_54 rfl rfl ?_
  refine g_iconst X (v := 3) dX1_along_55 (by decide) ?_
  refine g_iadd X dX1_along_56 ?_
  obtain ⟨hg8, h⟩ := grd_e h
  refine g_iald X gT_c5 hg8 dX1_along_57 ?_
  refine g_iadd X dX1_along_58 ?_
  exact hR ((v6 >>> ((10 : Int32) &&& 31)) + (gI M 5 ((v1 + (3 : Int32)).toNatClampNeg))) _ _ (Option.some.inj h).symm dX1_along_59
theorem ct_X1_along {l : Launch} {z : GZ} (htr : l.stackTraces = false) {i0 : Int32} {p1 : Nat} (h2 : gT p1 = 3) {M : GM} {F : Nat} {v : Int32} (h : f_X1_along F i0 p1 M = some v) : gMet l z yX1_along cX1_along 5 (some .int) 0 [.ref (gad z 4), .int i0, .ref (gad z p1)] M (some (.int v)) M := gMet_ofI (by decide +kernel) (Nat.le_of_ble_eq_true rfl) htr rfl (fun x X ez el hR => by subst ez; subst el; exact w_X1_along X h2 (fun v9 lv9 pc9 e9 d9 => by cases e9; exact hR lv9 pc9 d9) h)
theorem gc_X1_33 {x : GX} {cc : ByteArray} {nL d pc : Nat} {M : GM} {lv : List (Nat × Value)} {st : List Value} (X : GC x cc nL RX1 d) {i0 : Int32} {i1 : Nat} {M1 : GM} {r : Int32} (ht : gT 4 = 1) (hM : gMet (xl x) (xz x) yX1_along cX1_along 5 (some .int) 0 [.ref (gad (xz x) 4), .int i0, .ref (gad (xz x) i1)] M (some (.int r)) M1) (hd : 1 ≤ d) (hsum : (st.map fun v => v.category).sum ≤ 8) (dec : decode cc pc = .ok (.invokevirtual 33, 3)) (go : WG x M1 lv (pc + 3) (.int r :: st)) : WG x M lv pc (.ref (gad (xz x) i1) :: .int i0 :: .ref (gad (xz x) 4) :: st) := g_callV X (n := 2) (As := [.int i0, .ref (gad (xz x) i1)]) (rest := st) hM ht (by decide) (gE_1 ht) rfl q_167 q_168 q_169 q_18 q_170 (by decide +kernel) rfl hd (by decide) rfl hsum dec go
theorem gc_X1_53 {x : GX} {cc : ByteArray} {nL d pc : Nat} {M : GM} {lv : List (Nat × Value)} {st : List Value} (X : GC x cc nL RX1 d) {i0 : Int32} {M1 : GM} {r : Int32} (hM : gMet (xl x) (xz x) yX10_redOf cX10_redOf 1 (some .int) 0 [.int i0] M (some (.int r)) M1) (hd : 1 ≤ d) (hsum : (st.map fun v => v.category).sum ≤ 8) (dec : decode cc pc = .ok (.invokestatic 53, 3)) (go : WG x M1 lv (pc + 3) (.int r :: st)) : WG x M lv pc (.int i0 :: st) := g_callSN X (n := 1) (As := [.int i0]) (rest := st) (host := RX10) hM (fun h => h.1) q_172 q_17 q_173 (by decide +kernel) rfl hd (by decide) rfl hsum dec go
theorem gc_X1_60 {x : GX} {cc : ByteArray} {nL d pc : Nat} {M : GM} {lv : List (Nat × Value)} {st : List Value} (X : GC x cc nL RX1 d) {i0 : Int32} {M1 : GM} {r : Int32} (hM : gMet (xl x) (xz x) yX10_greenOf cX10_greenOf 1 (some .int) 0 [.int i0] M (some (.int r)) M1) (hd : 1 ≤ d) (hsum : (st.map fun v => v.category).sum ≤ 8) (dec : decode cc pc = .ok (.invokestatic 60, 3)) (go : WG x M1 lv (pc + 3) (.int r :: st)) : WG x M lv pc (.int i0 :: st) := g_callSN X (n := 1) (As := [.int i0]) (rest := st) (host := RX10) hM (fun h => h.2.1) q_175 q_17 q_176 (by decide +kernel) rfl hd (by decide) rfl hsum dec go
theorem gc_X1_66 {x : GX} {cc : ByteArray} {nL d pc : Nat} {M : GM} {lv : List (Nat × Value)} {st : List Value} (X : GC x cc nL RX1 d) {i0 : Int32} {M1 : GM} {r : Int32} (hM : gMet (xl x) (xz x) yX10_blueOf cX10_blueOf 1 (some .int) 0 [.int i0] M (some (.int r)) M1) (hd : 1 ≤ d) (hsum : (st.map fun v => v.category).sum ≤ 8) (dec : decode cc pc = .ok (.invokestatic 66, 3)) (go : WG x M1 lv (pc + 3) (.int r :: st)) : WG x M lv pc (.int i0 :: st) := g_callSN X (n := 1) (As := [.int i0]) (rest := st) (host := RX10) hM (fun h => h.2.2.1) q_178 q_17 q_179 (by decide +kernel) rfl hd (by decide) rfl hsum dec go
theorem dX1_look_0 : decode cX1_look 0 = .ok (.aload_n 2, 1) := by decide +kernel
theorem dX1_look_1 : decode cX1_look 1 = .ok (.aload_n 0, 1) := by decide +kernel
theorem dX1_look_2 : decode cX1_look 2 = .ok (.iconst 0, 1) := by decide +kernel
theorem dX1_look_3 : decode cX1_look 3 = .ok (.aload_n 1, 1) := by decide +kernel
theorem dX1_look_4 : decode cX1_look 4 = .ok (.invokevirtual 33, 3) := by decide +kernel
theorem dX1_look_7 : decode cX1_look 7 = .ok (.putfield 37, 3) := by decide +kernel
theorem dX1_look_10 : decode cX1_look 10 = .ok (.aload_n 2, 1) := by decide +kernel
theorem dX1_look_11 : decode cX1_look 11 = .ok (.aload_n 0, 1) := by decide +kernel
theorem dX1_look_12 : decode cX1_look 12 = .ok (.iconst 1, 1) := by decide +kernel
theorem dX1_look_13 : decode cX1_look 13 = .ok (.aload_n 1, 1) := by decide +kernel
theorem dX1_look_14 : decode cX1_look 14 = .ok (.invokevirtual 33, 3) := by decide +kernel
theorem dX1_look_17 : decode cX1_look 17 = .ok (.putfield 40, 3) := by decide +kernel
theorem dX1_look_20 : decode cX1_look 20 = .ok (.aload_n 2, 1) := by decide +kernel
theorem dX1_look_21 : decode cX1_look 21 = .ok (.aload_n 0, 1) := by decide +kernel
theorem dX1_look_22 : decode cX1_look 22 = .ok (.iconst 2, 1) := by decide +kernel
theorem dX1_look_23 : decode cX1_look 23 = .ok (.aload_n 1, 1) := by decide +kernel
theorem dX1_look_24 : decode cX1_look 24 = .ok (.invokevirtual 33, 3) := by decide +kernel
theorem dX1_look_27 : decode cX1_look 27 = .ok (.putfield 41, 3) := by decide +kernel
theorem dX1_look_30 : decode cX1_look 30 = .ok (.aload_n 2, 1) := by decide +kernel
theorem dX1_look_31 : decode cX1_look 31 = .ok (.aload_n 1, 1) := by decide +kernel
theorem dX1_look_32 : decode cX1_look 32 = .ok (.getfield 42, 3) := by decide +kernel
theorem dX1_look_35 : decode cX1_look 35 = .ok (.putfield 45, 3) := by decide +kernel
theorem dX1_look_38 : decode cX1_look 38 = .ok (.aload_n 2, 1) := by decide +kernel
theorem dX1_look_39 : decode cX1_look 39 = .ok (.aload_n 1, 1) := by decide +kernel
theorem dX1_look_40 : decode cX1_look 40 = .ok (.getfield 46, 3) := by decide +kernel
theorem dX1_look_43 : decode cX1_look 43 = .ok (.putfield 49, 3) := by decide +kernel
theorem dX1_look_46 : decode cX1_look 46 = .ok (.aload_n 2, 1) := by decide +kernel
theorem dX1_look_47 : decode cX1_look 47 = .ok (.aload_n 1, 1) := by decide +kernel
theorem dX1_look_48 : decode cX1_look 48 = .ok (.getfield 50, 3) := by decide +kernel
theorem dX1_look_51 : decode cX1_look 51 = .ok (.invokestatic 53, 3) := by decide +kernel
theorem dX1_look_54 : decode cX1_look 54 = .ok (.putfield 57, 3) := by decide +kernel
theorem dX1_look_57 : decode cX1_look 57 = .ok (.aload_n 2, 1) := by decide +kernel
theorem dX1_look_58 : decode cX1_look 58 = .ok (.aload_n 1, 1) := by decide +kernel
theorem dX1_look_59 : decode cX1_look 59 = .ok (.getfield 50, 3) := by decide +kernel
theorem dX1_look_62 : decode cX1_look 62 = .ok (.invokestatic 60, 3) := by decide +kernel
theorem dX1_look_65 : decode cX1_look 65 = .ok (.putfield 63, 3) := by decide +kernel
theorem dX1_look_68 : decode cX1_look 68 = .ok (.aload_n 2, 1) := by decide +kernel
theorem dX1_look_69 : decode cX1_look 69 = .ok (.aload_n 1, 1) := by decide +kernel
theorem dX1_look_70 : decode cX1_look 70 = .ok (.getfield 50, 3) := by decide +kernel
theorem dX1_look_73 : decode cX1_look 73 = .ok (.invokestatic 66, 3) := by decide +kernel
theorem dX1_look_76 : decode cX1_look 76 = .ok (.putfield 69, 3) := by decide +kernel
theorem dX1_look_79 : decode cX1_look 79 = .ok (.return_, 1) := by decide +kernel
def f_X1_look (F : Nat) (p0 : Nat) (p1 : Nat) (M : GM) : Option GM := bndO (f_X1_along F (0 : Int32) p0 M) (fun v2 => bnd (sI M p1 0 v2) (fun M3 => bndO (f_X1_along F (1 : Int32) p0 M3) (fun v6 => bnd (sI M3 p1 1 v6) (fun M7 => bndO (f_X1_along F (2 : Int32) p0 M7) (fun v10 => bnd (sI M7 p1 2 v10) (fun M11 => bnd (sI M11 p1 3 (gI M11 p0 4)) (fun M13 => bnd (sI M13 p1 4 (gI M13 p0 5)) (fun M15 => bnd (sI M15 p1 5 (f_X10_redOf (gI M15 p0 3))) (fun M17 => bnd (sI M17 p1 6 (f_X10_greenOf (gI M17 p0 3))) (fun M19 => bnd (sI M19 p1 7 (f_X10_blueOf (gI M19 p0 3))) (fun M21 => some M21)))))))))))
set_option maxHeartbeats 4000000 in
set_option maxRecDepth 100000 in
theorem w_X1_look {x : GX} (X : GC x cX1_look 3 RX1 1) {p0 : Nat} {p1 : Nat} (h1 : gT p0 = 3) (h2 : gT p1 = 9) {F : Nat} {M : GM} {r9 : GM} (hR : ∀ (M9 : GM) (lv9 : List (Nat × Value)) (pc9 : Nat), r9 = M9 → decode cX1_look pc9 = .ok (.return_, 1) → WG x M9 lv9 pc9 []) (h : f_X1_look F p0 p1 M = some r9) : WG x M [(0, .ref (gad (xz x) 4)), (1, .ref (gad (xz x) p0)), (2, .ref (gad (xz x) p1))] 0 [] := by
  unfold f_X1_look at h
  refine g_aload_n X (j := 2) dX1_look_0 rfl rfl ?_
  refine g_aload_n X (j := 0) dX1_look_1 rfl rfl ?_
  refine g_iconst X (v := 0) dX1_look_2 (by decide) ?_
  refine g_aload_n X (j := 1) dX1_look_3 rfl rfl ?_
  obtain ⟨v2, hc1, h⟩ := bndO_e h
  refine gc_X1_33 X gT_c4 (ct_X1_along X.htr h1 hc1) (by decide) (Nat.le_of_ble_eq_true rfl) dX1_look_4 ?_
  refine gp_X1_37 X h2 dX1_look_7 ?_
  refine g_mem (fun M3 e4 => ?_)
  have h := bnd_e e4 h
  refine g_aload_n X (j := 2) dX1_look_10 rfl rfl ?_
  refine g_aload_n X (j := 0) dX1_look_11 rfl rfl ?_
  refine g_iconst X (v := 1) dX1_look_12 (by decide) ?_
  refine g_aload_n X (j := 1) dX1_look_13 rfl rfl ?_
  obtain ⟨v6, hc5, h⟩ := bndO_e h
  refine gc_X1_33 X gT_c4 (ct_X1_along X.htr h1 hc5) (by decide) (Nat.le_of_ble_eq_true rfl) dX1_look_14 ?_
  refine gp_X1_40 X h2 dX1_look_17 ?_
  refine g_mem (fun M7 e8 => ?_)
  have h := bnd_e e8 h
  refine g_aload_n X (j := 2) dX1_look_20 rfl rfl ?_
  refine g_aload_n X (j := 0) dX1_look_21 rfl rfl ?_
  refine g_iconst X (v := 2) dX1_look_22 (by decide) ?_
  refine g_aload_n X (j := 1) dX1_look_23 rfl rfl ?_
  obtain ⟨v10, hc9, h⟩ := bndO_e h
  refine gc_X1_33 X gT_c4 (ct_X1_along X.htr h1 hc9) (by decide) (Nat.le_of_ble_eq_true rfl) dX1_look_24 ?_
  refine gp_X1_41 X h2 dX1_look_27 ?_
  refine g_mem (fun M11 e12 => ?_)
  have h := bnd_e e12 h
  refine g_aload_n X (j := 2) dX1_look_30 rfl rfl ?_
  refine g_aload_n X (j := 1) dX1_look_31 rfl rfl ?_
  refine gf_X1_42 X h1 dX1_look_32 ?_
  refine gp_X1_45 X h2 dX1_look_35 ?_
  refine g_mem (fun M13 e14 => ?_)
  have h := bnd_e e14 h
  refine g_aload_n X (j := 2) dX1_look_38 rfl rfl ?_
  refine g_aload_n X (j := 1) dX1_look_39 rfl rfl ?_
  refine gf_X1_46 X h1 dX1_look_40 ?_
  refine gp_X1_49 X h2 dX1_look_43 ?_
  refine g_mem (fun M15 e16 => ?_)
  have h := bnd_e e16 h
  refine g_aload_n X (j := 2) dX1_look_46 rfl rfl ?_
  refine g_aload_n X (j := 1) dX1_look_47 rfl rfl ?_
  refine gf_X1_50 X h1 dX1_look_48 ?_
  refine gc_X1_53 X (ct_X10_redOf X.htr ) (by decide) (Nat.le_of_ble_eq_true rfl) dX1_look_51 ?_
  refine gp_X1_57 X h2 dX1_look_54 ?_
  refine g_mem (fun M17 e18 => ?_)
  have h := bnd_e e18 h
  refine g_aload_n X (j := 2) dX1_look_57 rfl rfl ?_
  refine g_aload_n X (j := 1) dX1_look_58 rfl rfl ?_
  refine gf_X1_50 X h1 dX1_look_59 ?_
  refine gc_X1_60 X (ct_X10_greenOf X.htr ) (by decide) (Nat.le_of_ble_eq_true rfl) dX1_look_62 ?_
  refine gp_X1_63 X h2 dX1_look_65 ?_
  refine g_mem (fun M19 e20 => ?_)
  have h := bnd_e e20 h
  refine g_aload_n X (j := 2) dX1_look_68 rfl rfl ?_
  refine g_aload_n X (j := 1) dX1_look_69 rfl rfl ?_
  refine gf_X1_50 X h1 dX1_look_70 ?_
  refine gc_X1_66 X (ct_X10_blueOf X.htr ) (by decide) (Nat.le_of_ble_eq_true rfl) dX1_look_73 ?_
  refine gp_X1_69 X h2 dX1_look_76 ?_
  refine g_mem (fun M21 e22 => ?_)
  have h := bnd_e e22 h
  exact hR M21 _ _ (Option.some.inj h).symm dX1_look_79
theorem ct_X1_look {l : Launch} {z : GZ} (htr : l.stackTraces = false) {p0 : Nat} {p1 : Nat} (h1 : gT p0 = 3) (h2 : gT p1 = 9) {M : GM} {F : Nat} {M1 : GM} (h : f_X1_look F p0 p1 M = some M1) : gMet l z yX1_look cX1_look 3 none 1 [.ref (gad z 4), .ref (gad z p0), .ref (gad z p1)] M (none) M1 := gMet_ofV (by decide +kernel) (Nat.le_of_ble_eq_true rfl) htr (fun x X ez el hR => by subst ez; subst el; exact w_X1_look X h1 h2 (fun M9 lv9 pc9 e9 d9 => by cases e9; exact hR lv9 pc9 d9) h)
theorem gc_X1_74 {x : GX} {cc : ByteArray} {nL d pc : Nat} {M : GM} {lv : List (Nat × Value)} {st : List Value} (X : GC x cc nL RX1 d) {i0 : Int64} {i1 : Int64} {M1 : GM} {r : Int64} (hM : gMet (xl x) (xz x) yX10_cutDown cX10_cutDown 4 (some .long) 1 [.long i0, .long i1] M (some (.long r)) M1) (hd : 2 ≤ d) (hsum : (st.map fun v => v.category).sum ≤ 8) (dec : decode cc pc = .ok (.invokestatic 74, 3)) (go : WG x M1 lv (pc + 3) (.long r :: st)) : WG x M lv pc (.long i1 :: .long i0 :: st) := g_callSN X (n := 2) (As := [.long i0, .long i1]) (rest := st) (host := RX10) hM (fun h => h.2.2.2.1) q_204 q_17 q_205 (by decide +kernel) rfl hd (by decide) rfl hsum dec go
theorem dX1_project_0 : decode cX1_project 0 = .ok (.ldc2_w 72, 3) := by decide +kernel
theorem dX1_project_3 : decode cX1_project 3 = .ok (.aload_n 0, 1) := by decide +kernel
theorem dX1_project_4 : decode cX1_project 4 = .ok (.getfield 19, 3) := by decide +kernel
theorem dX1_project_7 : decode cX1_project 7 = .ok (.i2l, 1) := by decide +kernel
theorem dX1_project_8 : decode cX1_project 8 = .ok (.lmul, 1) := by decide +kernel
theorem dX1_project_9 : decode cX1_project 9 = .ok (.lstore_n 2, 1) := by decide +kernel
theorem dX1_project_10 : decode cX1_project 10 = .ok (.aload_n 1, 1) := by decide +kernel
theorem dX1_project_11 : decode cX1_project 11 = .ok (.sipush 320, 3) := by decide +kernel
theorem dX1_project_14 : decode cX1_project 14 = .ok (.lload_n 2, 1) := by decide +kernel
theorem dX1_project_15 : decode cX1_project 15 = .ok (.aload_n 1, 1) := by decide +kernel
theorem dX1_project_16 : decode cX1_project 16 = .ok (.getfield 37, 3) := by decide +kernel
theorem dX1_project_19 : decode cX1_project 19 = .ok (.i2l, 1) := by decide +kernel
theorem dX1_project_20 : decode cX1_project 20 = .ok (.lmul, 1) := by decide +kernel
theorem dX1_project_21 : decode cX1_project 21 = .ok (.aload_n 1, 1) := by decide +kernel
theorem dX1_project_22 : decode cX1_project 22 = .ok (.getfield 41, 3) := by decide +kernel
theorem dX1_project_25 : decode cX1_project 25 = .ok (.i2l, 1) := by decide +kernel
theorem dX1_project_26 : decode cX1_project 26 = .ok (.invokestatic 74, 3) := by decide +kernel
theorem dX1_project_29 : decode cX1_project 29 = .ok (.l2i, 1) := by decide +kernel
theorem dX1_project_30 : decode cX1_project 30 = .ok (.iadd, 1) := by decide +kernel
theorem dX1_project_31 : decode cX1_project 31 = .ok (.putfield 78, 3) := by decide +kernel
theorem dX1_project_34 : decode cX1_project 34 = .ok (.aload_n 1, 1) := by decide +kernel
theorem dX1_project_35 : decode cX1_project 35 = .ok (.sipush 192, 3) := by decide +kernel
theorem dX1_project_38 : decode cX1_project 38 = .ok (.lload_n 2, 1) := by decide +kernel
theorem dX1_project_39 : decode cX1_project 39 = .ok (.aload_n 1, 1) := by decide +kernel
theorem dX1_project_40 : decode cX1_project 40 = .ok (.getfield 40, 3) := by decide +kernel
theorem dX1_project_43 : decode cX1_project 43 = .ok (.i2l, 1) := by decide +kernel
theorem dX1_project_44 : decode cX1_project 44 = .ok (.lmul, 1) := by decide +kernel
theorem dX1_project_45 : decode cX1_project 45 = .ok (.aload_n 1, 1) := by decide +kernel
theorem dX1_project_46 : decode cX1_project 46 = .ok (.getfield 41, 3) := by decide +kernel
theorem dX1_project_49 : decode cX1_project 49 = .ok (.i2l, 1) := by decide +kernel
theorem dX1_project_50 : decode cX1_project 50 = .ok (.invokestatic 74, 3) := by decide +kernel
theorem dX1_project_53 : decode cX1_project 53 = .ok (.l2i, 1) := by decide +kernel
theorem dX1_project_54 : decode cX1_project 54 = .ok (.iadd, 1) := by decide +kernel
theorem dX1_project_55 : decode cX1_project 55 = .ok (.putfield 81, 3) := by decide +kernel
theorem dX1_project_58 : decode cX1_project 58 = .ok (.aload_n 1, 1) := by decide +kernel
theorem dX1_project_59 : decode cX1_project 59 = .ok (.ldc 84, 2) := by decide +kernel
theorem dX1_project_61 : decode cX1_project 61 = .ok (.ldc2_w 85, 3) := by decide +kernel
theorem dX1_project_64 : decode cX1_project 64 = .ok (.aload_n 0, 1) := by decide +kernel
theorem dX1_project_65 : decode cX1_project 65 = .ok (.getfield 15, 3) := by decide +kernel
theorem dX1_project_68 : decode cX1_project 68 = .ok (.i2l, 1) := by decide +kernel
theorem dX1_project_69 : decode cX1_project 69 = .ok (.lmul, 1) := by decide +kernel
theorem dX1_project_70 : decode cX1_project 70 = .ok (.aload_n 1, 1) := by decide +kernel
theorem dX1_project_71 : decode cX1_project 71 = .ok (.getfield 41, 3) := by decide +kernel
theorem dX1_project_74 : decode cX1_project 74 = .ok (.i2l, 1) := by decide +kernel
theorem dX1_project_75 : decode cX1_project 75 = .ok (.invokestatic 74, 3) := by decide +kernel
theorem dX1_project_78 : decode cX1_project 78 = .ok (.l2i, 1) := by decide +kernel
theorem dX1_project_79 : decode cX1_project 79 = .ok (.isub, 1) := by decide +kernel
theorem dX1_project_80 : decode cX1_project 80 = .ok (.putfield 87, 3) := by decide +kernel
theorem dX1_project_83 : decode cX1_project 83 = .ok (.aload_n 1, 1) := by decide +kernel
theorem dX1_project_84 : decode cX1_project 84 = .ok (.ldc2_w 90, 3) := by decide +kernel
theorem dX1_project_87 : decode cX1_project 87 = .ok (.aload_n 1, 1) := by decide +kernel
theorem dX1_project_88 : decode cX1_project 88 = .ok (.getfield 41, 3) := by decide +kernel
theorem dX1_project_91 : decode cX1_project 91 = .ok (.i2l, 1) := by decide +kernel
theorem dX1_project_92 : decode cX1_project 92 = .ok (.invokestatic 74, 3) := by decide +kernel
theorem dX1_project_95 : decode cX1_project 95 = .ok (.l2i, 1) := by decide +kernel
theorem dX1_project_96 : decode cX1_project 96 = .ok (.iconst 1, 1) := by decide +kernel
theorem dX1_project_97 : decode cX1_project 97 = .ok (.iadd, 1) := by decide +kernel
theorem dX1_project_98 : decode cX1_project 98 = .ok (.putfield 92, 3) := by decide +kernel
theorem dX1_project_101 : decode cX1_project 101 = .ok (.return_, 1) := by decide +kernel
def f_X1_project (F : Nat) (p0 : Nat) (M : GM) : Option GM := bnd ((16 : Int64) * ((gI M 4 2).toInt64)) (fun w1 => bndO (f_X10_cutDown F (w1 * ((gI M p0 0).toInt64)) ((gI M p0 2).toInt64) M) (fun w4 => bnd (sI M p0 8 ((320 : Int32) + w4.toInt32)) (fun M5 => bndO (f_X10_cutDown F (w1 * ((gI M5 p0 1).toInt64)) ((gI M5 p0 2).toInt64) M5) (fun w8 => bnd (sI M5 p0 9 ((192 : Int32) + w8.toInt32)) (fun M9 => bndO (f_X10_cutDown F ((65535 : Int64) * ((gI M9 4 1).toInt64)) ((gI M9 p0 2).toInt64) M9) (fun w12 => bnd (sI M9 p0 10 ((65535 : Int32) - w12.toInt32)) (fun M13 => bndO (f_X10_cutDown F (65536 : Int64) ((gI M13 p0 2).toInt64) M13) (fun w16 => bnd (sI M13 p0 11 (w16.toInt32 + (1 : Int32))) (fun M17 => some M17)))))))))
set_option maxHeartbeats 4000000 in
set_option maxRecDepth 100000 in
theorem w_X1_project {x : GX} (X : GC x cX1_project 4 RX1 2) {p0 : Nat} (h1 : gT p0 = 9) {F : Nat} {M : GM} {r9 : GM} (hR : ∀ (M9 : GM) (lv9 : List (Nat × Value)) (pc9 : Nat), r9 = M9 → decode cX1_project pc9 = .ok (.return_, 1) → WG x M9 lv9 pc9 []) (h : f_X1_project F p0 M = some r9) : WG x M [(0, .ref (gad (xz x) 4)), (1, .ref (gad (xz x) p0))] 0 [] := by
  unfold f_X1_project at h
  refine g_ldc2 X q_202 dX1_project_0 ?_
  refine g_aload_n X (j := 0) dX1_project_3 rfl rfl ?_
  refine gf_X1_19 X gT_c4 dX1_project_4 ?_
  refine g_i2l X dX1_project_7 ?_
  refine g_lmul X dX1_project_8 ?_
  refine g_topl (fun w1 e2 => ?_)
  have h := bnd_e e2 h
  refine g_lstore_n X (lv' := [(2, .long w1), (0, .ref (gad (xz x) 4)), (1, .ref (gad (xz x) p0))]) dX1_project_9 rfl (by decide) rfl ?_
  refine g_aload_n X (j := 2) dX1_project_10 rfl rfl ?_
  refine g_sipush X (v := 320) dX1_project_11 (by decide) ?_
  refine g_lload_n X (j := 0) dX1_project_14 rfl rfl ?_
  refine g_aload_n X (j := 2) dX1_project_15 rfl rfl ?_
  refine gf_X1_37 X h1 dX1_project_16 ?_
  refine g_i2l X dX1_project_19 ?_
  refine g_lmul X dX1_project_20 ?_
  refine g_aload_n X (j := 2) dX1_project_21 rfl rfl ?_
  refine gf_X1_41 X h1 dX1_project_22 ?_
  refine g_i2l X dX1_project_25 ?_
  obtain ⟨w4, hc3, h⟩ := bndO_e h
  refine gc_X1_74 X (ct_X10_cutDown X.htr  hc3) (by decide) (Nat.le_of_ble_eq_true rfl) dX1_project_26 ?_
  refine g_l2i X dX1_project_29 ?_
  refine g_iadd X dX1_project_30 ?_
  refine gp_X1_78 X h1 dX1_project_31 ?_
  refine g_mem (fun M5 e6 => ?_)
  have h := bnd_e e6 h
  refine g_aload_n X (j := 2) dX1_project_34 rfl rfl ?_
  refine g_sipush X (v := 192) dX1_project_35 (by decide) ?_
  refine g_lload_n X (j := 0) dX1_project_38 rfl rfl ?_
  refine g_aload_n X (j := 2) dX1_project_39 rfl rfl ?_
  refine gf_X1_40 X h1 dX1_project_40 ?_
  refine g_i2l X dX1_project_43 ?_
  refine g_lmul X dX1_project_44 ?_
  refine g_aload_n X (j := 2) dX1_project_45 rfl rfl ?_
  refine gf_X1_41 X h1 dX1_project_46 ?_
  refine g_i2l X dX1_project_49 ?_
  obtain ⟨w8, hc7, h⟩ := bndO_e h
  refine gc_X1_74 X (ct_X10_cutDown X.htr  hc7) (by decide) (Nat.le_of_ble_eq_true rfl) dX1_project_50 ?_
  refine g_l2i X dX1_project_53 ?_
  refine g_iadd X dX1_project_54 ?_
  refine gp_X1_81 X h1 dX1_project_55 ?_
  refine g_mem (fun M9 e10 => ?_)
  have h := bnd_e e10 h
  refine g_aload_n X (j := 2) dX1_project_58 rfl rfl ?_
  refine g_ldc X q_207 dX1_project_59 ?_
  refine g_ldc2 X q_208 dX1_project_61 ?_
  refine g_aload_n X (j := 1) dX1_project_64 rfl rfl ?_
  refine gf_X1_15 X gT_c4 dX1_project_65 ?_
  refine g_i2l X dX1_project_68 ?_
  refine g_lmul X dX1_project_69 ?_
  refine g_aload_n X (j := 2) dX1_project_70 rfl rfl ?_
  refine gf_X1_41 X h1 dX1_project_71 ?_
  refine g_i2l X dX1_project_74 ?_
  obtain ⟨w12, hc11, h⟩ := bndO_e h
  refine gc_X1_74 X (ct_X10_cutDown X.htr  hc11) (by decide) (Nat.le_of_ble_eq_true rfl) dX1_project_75 ?_
  refine g_l2i X dX1_project_78 ?_
  refine g_isub X dX1_project_79 ?_
  refine gp_X1_87 X h1 dX1_project_80 ?_
  refine g_mem (fun M13 e14 => ?_)
  have h := bnd_e e14 h
  refine g_aload_n X (j := 2) dX1_project_83 rfl rfl ?_
  refine g_ldc2 X q_209 dX1_project_84 ?_
  refine g_aload_n X (j := 2) dX1_project_87 rfl rfl ?_
  refine gf_X1_41 X h1 dX1_project_88 ?_
  refine g_i2l X dX1_project_91 ?_
  obtain ⟨w16, hc15, h⟩ := bndO_e h
  refine gc_X1_74 X (ct_X10_cutDown X.htr  hc15) (by decide) (Nat.le_of_ble_eq_true rfl) dX1_project_92 ?_
  refine g_l2i X dX1_project_95 ?_
  refine g_iconst X (v := 1) dX1_project_96 (by decide) ?_
  refine g_iadd X dX1_project_97 ?_
  refine gp_X1_92 X h1 dX1_project_98 ?_
  refine g_mem (fun M17 e18 => ?_)
  have h := bnd_e e18 h
  exact hR M17 _ _ (Option.some.inj h).symm dX1_project_101
theorem ct_X1_project {l : Launch} {z : GZ} (htr : l.stackTraces = false) {p0 : Nat} (h1 : gT p0 = 9) {M : GM} {F : Nat} {M1 : GM} (h : f_X1_project F p0 M = some M1) : gMet l z yX1_project cX1_project 4 none 2 [.ref (gad z 4), .ref (gad z p0)] M (none) M1 := gMet_ofV (by decide +kernel) (Nat.le_of_ble_eq_true rfl) htr (fun x X ez el hR => by subst ez; subst el; exact w_X1_project X h1 (fun M9 lv9 pc9 e9 d9 => by cases e9; exact hR lv9 pc9 d9) h)
theorem gc_X2_13 {x : GX} {cc : ByteArray} {nL d pc : Nat} {M : GM} {lv : List (Nat × Value)} {st : List Value} (X : GC x cc nL RX2 d) {i0 : Nat} {i1 : Int32} {M1 : GM} (hM : gMet (xl x) (xz x) yJ7_fill_53178 cJ7_fill_53178 4 none 0 [.ref (gad (xz x) i0), .int i1] M (none) M1) (hd : 1 ≤ d) (hsum : (st.map fun v => v.category).sum ≤ 8) (dec : decode cc pc = .ok (.invokestatic 13, 3)) (go : WG x M1 lv (pc + 3) (st)) : WG x M lv pc (.int i1 :: .ref (gad (xz x) i0) :: st) := g_callS X (n := 2) (As := [.ref (gad (xz x) i0), .int i1]) (rest := st) hM q_403 q_404 q_36 q_405 (by decide +kernel) rfl hd (by decide) rfl hsum dec go
theorem dX2_empty_0 : decode cX2_empty 0 = .ok (.aload_n 0, 1) := by decide +kernel
theorem dX2_empty_1 : decode cX2_empty 1 = .ok (.getfield 9, 3) := by decide +kernel
theorem dX2_empty_4 : decode cX2_empty 4 = .ok (.iconst 0, 1) := by decide +kernel
theorem dX2_empty_5 : decode cX2_empty 5 = .ok (.invokestatic 13, 3) := by decide +kernel
theorem dX2_empty_8 : decode cX2_empty 8 = .ok (.aload_n 0, 1) := by decide +kernel
theorem dX2_empty_9 : decode cX2_empty 9 = .ok (.iconst 0, 1) := by decide +kernel
theorem dX2_empty_10 : decode cX2_empty 10 = .ok (.putfield 19, 3) := by decide +kernel
theorem dX2_empty_13 : decode cX2_empty 13 = .ok (.return_, 1) := by decide +kernel
def f_X2_empty (F : Nat) (M : GM) : Option GM := bndO (f_J7_fill_53178 F 40 (0 : Int32) M) (fun M2 => bnd (sI M2 39 1 (0 : Int32)) (fun M3 => some M3))
set_option maxHeartbeats 4000000 in
set_option maxRecDepth 100000 in
theorem w_X2_empty {x : GX} (X : GC x cX2_empty 1 RX2 1)   {F : Nat} {M : GM} {r9 : GM} (hR : ∀ (M9 : GM) (lv9 : List (Nat × Value)) (pc9 : Nat), r9 = M9 → decode cX2_empty pc9 = .ok (.return_, 1) → WG x M9 lv9 pc9 []) (h : f_X2_empty F M = some r9) : WG x M [(0, .ref (gad (xz x) 39))] 0 [] := by
  unfold f_X2_empty at h
  refine g_aload_n X (j := 0) dX2_empty_0 rfl rfl ?_
  refine gf_X2_9 X gT_c39 dX2_empty_1 ?_
  refine g_iconst X (v := 0) dX2_empty_4 (by decide) ?_
  obtain ⟨M2, hc1, h⟩ := bndO_e h
  refine gc_X2_13 X (ct_J7_fill_53178 X.htr gT_c40 hc1) (by decide) (Nat.le_of_ble_eq_true rfl) dX2_empty_5 ?_
  refine g_aload_n X (j := 0) dX2_empty_8 rfl rfl ?_
  refine g_iconst X (v := 0) dX2_empty_9 (by decide) ?_
  refine gp_X2_19 X gT_c39 dX2_empty_10 ?_
  refine g_mem (fun M3 e4 => ?_)
  have h := bnd_e e4 h
  exact hR M3 _ _ (Option.some.inj h).symm dX2_empty_13
theorem ct_X2_empty {l : Launch} {z : GZ} (htr : l.stackTraces = false)   {M : GM} {F : Nat} {M1 : GM} (h : f_X2_empty F M = some M1) : gMet l z yX2_empty cX2_empty 1 none 1 [.ref (gad z 39)] M (none) M1 := gMet_ofV (by decide +kernel) (Nat.le_of_ble_eq_true rfl) htr (fun x X ez el hR => by subst ez; subst el; exact w_X2_empty X  (fun M9 lv9 pc9 e9 d9 => by cases e9; exact hR lv9 pc9 d9) h)
theorem dX2_include_0 : decode cX2_include 0 = .ok (.iload_n 1, 1) := by decide +kernel
theorem dX2_include_1 : decode cX2_include 1 = .ok (.iconst 1, 1) := by decide +kernel
theorem dX2_include_2 : decode cX2_include 2 = .ok (.iadd, 1) := by decide +kernel
theorem dX2_include_3 : decode cX2_include 3 = .ok (.istore_n 2, 1) := by decide +kernel
theorem dX2_include_4 : decode cX2_include 4 = .ok (.iload_n 1, 1) := by decide +kernel
theorem dX2_include_5 : decode cX2_include 5 = .ok (.ldc 23, 2) := by decide +kernel
theorem dX2_include_7 : decode cX2_include 7 = .ok (.imul, 1) := by decide +kernel
theorem dX2_include_8 : decode cX2_include 8 = .ok (.bipush 21, 2) := by decide +kernel
theorem dX2_include_10 : decode cX2_include 10 = .ok (.iushr, 1) := by decide +kernel
theorem dX2_include_11 : decode cX2_include 11 = .ok (.istore_n 3, 1) := by decide +kernel
theorem dX2_include_12 : decode cX2_include 12 = .ok (.iconst 0, 1) := by decide +kernel
theorem dX2_include_13 : decode cX2_include 13 = .ok (.istore 4, 2) := by decide +kernel
theorem dX2_include_15 : decode cX2_include 15 = .ok (.iload 4, 2) := by decide +kernel
theorem dX2_include_17 : decode cX2_include 17 = .ok (.sipush 2048, 3) := by decide +kernel
theorem dX2_include_20 : decode cX2_include 20 = .ok (.if_icmp .ge 60, 3) := by decide +kernel
theorem dX2_include_23 : decode cX2_include 23 = .ok (.iload_n 3, 1) := by decide +kernel
theorem dX2_include_24 : decode cX2_include 24 = .ok (.iload 4, 2) := by decide +kernel
theorem dX2_include_26 : decode cX2_include 26 = .ok (.iadd, 1) := by decide +kernel
theorem dX2_include_27 : decode cX2_include 27 = .ok (.sipush 2048, 3) := by decide +kernel
theorem dX2_include_30 : decode cX2_include 30 = .ok (.irem, 1) := by decide +kernel
theorem dX2_include_31 : decode cX2_include 31 = .ok (.istore 5, 2) := by decide +kernel
theorem dX2_include_33 : decode cX2_include 33 = .ok (.aload_n 0, 1) := by decide +kernel
theorem dX2_include_34 : decode cX2_include 34 = .ok (.getfield 9, 3) := by decide +kernel
theorem dX2_include_37 : decode cX2_include 37 = .ok (.iload 5, 2) := by decide +kernel
theorem dX2_include_39 : decode cX2_include 39 = .ok (.iaload, 1) := by decide +kernel
theorem dX2_include_40 : decode cX2_include 40 = .ok (.iload_n 2, 1) := by decide +kernel
theorem dX2_include_41 : decode cX2_include 41 = .ok (.if_icmp .ne 4, 3) := by decide +kernel
theorem dX2_include_44 : decode cX2_include 44 = .ok (.return_, 1) := by decide +kernel
theorem dX2_include_45 : decode cX2_include 45 = .ok (.aload_n 0, 1) := by decide +kernel
theorem dX2_include_46 : decode cX2_include 46 = .ok (.getfield 9, 3) := by decide +kernel
theorem dX2_include_49 : decode cX2_include 49 = .ok (.iload 5, 2) := by decide +kernel
theorem dX2_include_51 : decode cX2_include 51 = .ok (.iaload, 1) := by decide +kernel
theorem dX2_include_52 : decode cX2_include 52 = .ok (.ifCond .ne 22, 3) := by decide +kernel
theorem dX2_include_55 : decode cX2_include 55 = .ok (.aload_n 0, 1) := by decide +kernel
theorem dX2_include_56 : decode cX2_include 56 = .ok (.getfield 9, 3) := by decide +kernel
theorem dX2_include_59 : decode cX2_include 59 = .ok (.iload 5, 2) := by decide +kernel
theorem dX2_include_61 : decode cX2_include 61 = .ok (.iload_n 2, 1) := by decide +kernel
theorem dX2_include_62 : decode cX2_include 62 = .ok (.iastore, 1) := by decide +kernel
theorem dX2_include_63 : decode cX2_include 63 = .ok (.aload_n 0, 1) := by decide +kernel
theorem dX2_include_64 : decode cX2_include 64 = .ok (.dup, 1) := by decide +kernel
theorem dX2_include_65 : decode cX2_include 65 = .ok (.getfield 19, 3) := by decide +kernel
theorem dX2_include_68 : decode cX2_include 68 = .ok (.iconst 1, 1) := by decide +kernel
theorem dX2_include_69 : decode cX2_include 69 = .ok (.iadd, 1) := by decide +kernel
theorem dX2_include_70 : decode cX2_include 70 = .ok (.putfield 19, 3) := by decide +kernel
theorem dX2_include_73 : decode cX2_include 73 = .ok (.return_, 1) := by decide +kernel
theorem dX2_include_74 : decode cX2_include 74 = .ok (.iinc 4 1, 3) := by decide +kernel
theorem dX2_include_77 : decode cX2_include 77 = .ok (.goto (-62), 3) := by decide +kernel
theorem dX2_include_80 : decode cX2_include 80 = .ok (.return_, 1) := by decide +kernel
def st_X2_include_15 (F : Nat) (a7 : Int32) (a8 : Int32) (rec : Int32 → GM → Option (GM ⊕ GM)) (a9 : Int32) (M : GM) : Option (GM ⊕ GM) := if (2048 : Int32) ≤ a9 then (some (Sum.inl M)) else (bnd ((a8 + a9) - (a8 + a9) / (2048 : Int32) * (2048 : Int32)) (fun v10 => grd (gIn v10 (gN 40)) (if (gI M 40 v10.toNatClampNeg) = a7 then (some (Sum.inr M)) else (grd (gIn v10 (gN 40)) (if (gI M 40 v10.toNatClampNeg) = 0 then (grd (gIn v10 (gN 40)) (bnd (sI M 40 v10.toNatClampNeg a7) (fun M17 => bnd (sI M17 39 1 ((gI M17 39 1) + (1 : Int32))) (fun M19 => some (Sum.inr M19))))) else (bnd (a9 + (1 : Int32)) (fun v14 => rec v14 M)))))))
def lp_X2_include_15 (F : Nat) (a7 : Int32) (a8 : Int32) : Nat → Int32 → GM → Option (GM ⊕ GM)
  | 0 => fun _ _ => none
  | f + 1 => fun a9 M => st_X2_include_15 F a7 a8 (lp_X2_include_15 F a7 a8 f) a9 M
set_option maxHeartbeats 4000000 in
set_option maxRecDepth 100000 in
theorem lw_X2_include_15 {x : GX} (X : GC x cX2_include 6 RX2 0) {a7 : Int32} {a8 : Int32}  {F : Nat} {r9 : (GM ⊕ GM)} (hR : ∀ (M9 : GM) (lv9 : List (Nat × Value)) (pc9 : Nat), r9 = Sum.inr M9 → decode cX2_include pc9 = .ok (.return_, 1) → WG x M9 lv9 pc9 []) (hE : ∀  (M9 : GM), r9 = Sum.inl M9 → WG x M9 [] 80 []) : ∀ (f : Nat) (a9 : Int32) (M : GM), lp_X2_include_15 F a7 a8 f a9 M = some r9 → WG x M [(0, .ref (gad (xz x) 39)), (2, .int a7), (3, .int a8), (4, .int a9)] 15 [] := by
  intro f
  induction f with
  | zero => intro a9 M h; cases h
  | succ f ih =>
    intro a9 M h
    have hrec := ih
    have h : st_X2_include_15 F a7 a8 (lp_X2_include_15 F a7 a8 f) a9 M = some r9 := h
    generalize lp_X2_include_15 F a7 a8 f = rec at h hrec
    unfold st_X2_include_15 at h
    refine g_iload X (j := 3) dX2_include_15 rfl ?_
    refine g_sipush X (v := 2048) dX2_include_17 (by decide) ?_
    refine g_icmp_ge X (tgt := 80) dX2_include_20 (by decide) (fun hb => ?_) (fun hb => ?_)
    · have h := ite_t hb h
      refine g_lv [] rfl ?_
      exact hE M (Option.some.inj h).symm
    · have h := ite_f hb h
      refine g_iload_n X (j := 2) dX2_include_23 rfl rfl ?_
      refine g_iload X (j := 3) dX2_include_24 rfl ?_
      refine g_iadd X dX2_include_26 ?_
      refine g_sipush X (v := 2048) dX2_include_27 (by decide) ?_
      refine g_irem X dX2_include_30 (by decide) ?_
      refine g_topi (fun v10 e11 => ?_)
      have h := bnd_e e11 h
      refine g_istore X (lv' := [(5, .int v10), (0, .ref (gad (xz x) 39)), (2, .int a7), (3, .int a8), (4, .int a9)]) dX2_include_31 (by decide) rfl ?_
      refine g_aload_n X (j := 1) dX2_include_33 rfl rfl ?_
      refine gf_X2_9 X gT_c39 dX2_include_34 ?_
      refine g_iload X (j := 0) dX2_include_37 rfl ?_
      obtain ⟨hg12, h⟩ := grd_e h
      refine g_iald X gT_c40 hg12 dX2_include_39 ?_
      refine g_iload_n X (j := 2) dX2_include_40 rfl rfl ?_
      refine g_icmp_ne X (tgt := 45) dX2_include_41 (by decide) (fun hb => ?_) (fun hb => ?_)
      · have h := ite_f hb h
        refine g_aload_n X (j := 1) dX2_include_45 rfl rfl ?_
        refine gf_X2_9 X gT_c39 dX2_include_46 ?_
        refine g_iload X (j := 0) dX2_include_49 rfl ?_
        obtain ⟨hg13, h⟩ := grd_e h
        refine g_iald X gT_c40 hg13 dX2_include_51 ?_
        refine g_if_ne X (tgt := 74) dX2_include_52 (by decide) (fun hb => ?_) (fun hb => ?_)
        · have h := ite_f hb h
          refine g_iinc X (j := 4) (w := a9 + (1 : Int32)) (lv' := [(5, .int v10), (0, .ref (gad (xz x) 39)), (2, .int a7), (3, .int a8)]) dX2_include_74 rfl (by rw [ii_1]) (by decide) (fun _ => rfl) (fun v14 e15 => ?_)
          have h := bnd_e e15 h
          refine g_goto X (tgt := 15) dX2_include_77 (by decide) ?_
          refine g_lv [2, 3, 4, 0] rfl ?_
          exact hrec v14 M h
        · have h := ite_t hb h
          refine g_aload_n X (j := 1) dX2_include_55 rfl rfl ?_
          refine gf_X2_9 X gT_c39 dX2_include_56 ?_
          refine g_iload X (j := 0) dX2_include_59 rfl ?_
          refine g_iload_n X (j := 2) dX2_include_61 rfl rfl ?_
          obtain ⟨hg16, h⟩ := grd_e h
          refine g_iast X gT_c40 hg16 dX2_include_62 ?_
          refine g_mem (fun M17 e18 => ?_)
          have h := bnd_e e18 h
          refine g_aload_n X (j := 1) dX2_include_63 rfl rfl ?_
          refine g_dup X dX2_include_64 rfl ?_
          refine gf_X2_19 X gT_c39 dX2_include_65 ?_
          refine g_iconst X (v := 1) dX2_include_68 (by decide) ?_
          refine g_iadd X dX2_include_69 ?_
          refine gp_X2_19 X gT_c39 dX2_include_70 ?_
          refine g_mem (fun M19 e20 => ?_)
          have h := bnd_e e20 h
          exact hR M19 _ _ (Option.some.inj h).symm dX2_include_73
      · have h := ite_t hb h
        exact hR M _ _ (Option.some.inj h).symm dX2_include_44
def f_X2_include (F : Nat) (i0 : Int32) (M : GM) : Option GM := bnd (i0 + (1 : Int32)) (fun v1 => bnd (((i0 * ((-1640531535) : Int32)).toUInt32 >>> ((21 : Int32).toUInt32 &&& Int32.toUInt32 31)).toInt32) (fun v3 => bnd (0 : Int32) (fun v5 => bndT (lp_X2_include_15 F v1 v3 F v5 M) (fun M21 => some M21) (fun r23 => some r23))))
set_option maxHeartbeats 4000000 in
set_option maxRecDepth 100000 in
theorem w_X2_include {x : GX} (X : GC x cX2_include 6 RX2 0) {i0 : Int32}  {F : Nat} {M : GM} {r9 : GM} (hR : ∀ (M9 : GM) (lv9 : List (Nat × Value)) (pc9 : Nat), r9 = M9 → decode cX2_include pc9 = .ok (.return_, 1) → WG x M9 lv9 pc9 []) (h : f_X2_include F i0 M = some r9) : WG x M [(0, .ref (gad (xz x) 39)), (1, .int i0)] 0 [] := by
  unfold f_X2_include at h
  refine g_iload_n X (j := 1) dX2_include_0 rfl rfl ?_
  refine g_iconst X (v := 1) dX2_include_1 (by decide) ?_
  refine g_iadd X dX2_include_2 ?_
  refine g_topi (fun v1 e2 => ?_)
  have h := bnd_e e2 h
  refine g_istore_n X (lv' := [(2, .int v1), (0, .ref (gad (xz x) 39)), (1, .int i0)]) dX2_include_3 rfl (by decide) rfl ?_
  refine g_iload_n X (j := 2) dX2_include_4 rfl rfl ?_
  refine g_ldc X q_410 dX2_include_5 ?_
  refine g_imul X dX2_include_7 ?_
  refine g_bipush X (v := 21) dX2_include_8 (by decide) ?_
  refine g_iushr X dX2_include_10 ?_
  refine g_topi (fun v3 e4 => ?_)
  have h := bnd_e e4 h
  refine g_istore_n X (lv' := [(3, .int v3), (2, .int v1), (0, .ref (gad (xz x) 39)), (1, .int i0)]) dX2_include_11 rfl (by decide) rfl ?_
  refine g_iconst X (v := 0) dX2_include_12 (by decide) ?_
  refine g_topi (fun v5 e6 => ?_)
  have h := bnd_e e6 h
  refine g_istore X (lv' := [(4, .int v5), (3, .int v3), (2, .int v1), (0, .ref (gad (xz x) 39)), (1, .int i0)]) dX2_include_13 (by decide) rfl ?_
  refine g_lv [3, 2, 1, 0] rfl ?_
  rcases bndT_e h with ⟨M21, hl22, h⟩ | ⟨r23, hl22, h⟩
  · refine lw_X2_include_15 X  (by intros; rename_i e9 _ ; cases e9) (fun M21_  e9 => ?_) F v5 M hl22
    cases e9
    exact hR M21 _ _ (Option.some.inj h).symm dX2_include_80
  · exact lw_X2_include_15 X  (fun M9 lv9 pc9 e9 d9 => by cases e9; exact hR _ lv9 pc9 (Option.some.inj h).symm d9) (by intros; rename_i e9; cases e9) F v5 M hl22
theorem ct_X2_include {l : Launch} {z : GZ} (htr : l.stackTraces = false) {i0 : Int32}  {M : GM} {F : Nat} {M1 : GM} (h : f_X2_include F i0 M = some M1) : gMet l z yX2_include cX2_include 6 none 0 [.ref (gad z 39), .int i0] M (none) M1 := gMet_ofV (by decide +kernel) (Nat.le_of_ble_eq_true rfl) htr (fun x X ez el hR => by subst ez; subst el; exact w_X2_include X  (fun M9 lv9 pc9 e9 d9 => by cases e9; exact hR lv9 pc9 d9) h)
theorem dX3_place_0 : decode cX3_place 0 = .ok (.aload_n 0, 1) := by decide +kernel
theorem dX3_place_1 : decode cX3_place 1 = .ok (.iload_n 1, 1) := by decide +kernel
theorem dX3_place_2 : decode cX3_place 2 = .ok (.putfield 7, 3) := by decide +kernel
theorem dX3_place_5 : decode cX3_place 5 = .ok (.aload_n 0, 1) := by decide +kernel
theorem dX3_place_6 : decode cX3_place 6 = .ok (.iload_n 2, 1) := by decide +kernel
theorem dX3_place_7 : decode cX3_place 7 = .ok (.putfield 13, 3) := by decide +kernel
theorem dX3_place_10 : decode cX3_place 10 = .ok (.aload_n 0, 1) := by decide +kernel
theorem dX3_place_11 : decode cX3_place 11 = .ok (.iload_n 3, 1) := by decide +kernel
theorem dX3_place_12 : decode cX3_place 12 = .ok (.putfield 16, 3) := by decide +kernel
theorem dX3_place_15 : decode cX3_place 15 = .ok (.return_, 1) := by decide +kernel
def f_X3_place (t0 : Nat) (i0 : Int32) (i1 : Int32) (i2 : Int32) (M : GM) : GM := bnd (sI M t0 0 i0) (fun M1 => bnd (sI M1 t0 1 i1) (fun M3 => bnd (sI M3 t0 2 i2) (fun M5 => M5)))
set_option maxHeartbeats 4000000 in
set_option maxRecDepth 100000 in
theorem w_X3_place {x : GX} (X : GC x cX3_place 4 RX3 0) {t0 : Nat} {i0 : Int32} {i1 : Int32} {i2 : Int32} (h0 : gT t0 = 3) {M : GM} {r9 : GM} (hR : ∀ (M9 : GM) (lv9 : List (Nat × Value)) (pc9 : Nat), r9 = M9 → decode cX3_place pc9 = .ok (.return_, 1) → WG x M9 lv9 pc9 []) (h : f_X3_place t0 i0 i1 i2 M = r9) : WG x M [(0, .ref (gad (xz x) t0)), (1, .int i0), (2, .int i1), (3, .int i2)] 0 [] := by
  unfold f_X3_place at h
  refine g_aload_n X (j := 0) dX3_place_0 rfl rfl ?_
  refine g_iload_n X (j := 1) dX3_place_1 rfl rfl ?_
  refine gp_X3_7 X h0 dX3_place_2 ?_
  refine g_mem (fun M1 e2 => ?_)
  have h := bnd_e e2 h
  refine g_aload_n X (j := 0) dX3_place_5 rfl rfl ?_
  refine g_iload_n X (j := 2) dX3_place_6 rfl rfl ?_
  refine gp_X3_13 X h0 dX3_place_7 ?_
  refine g_mem (fun M3 e4 => ?_)
  have h := bnd_e e4 h
  refine g_aload_n X (j := 0) dX3_place_10 rfl rfl ?_
  refine g_iload_n X (j := 3) dX3_place_11 rfl rfl ?_
  refine gp_X3_16 X h0 dX3_place_12 ?_
  refine g_mem (fun M5 e6 => ?_)
  have h := bnd_e e6 h
  exact hR M5 _ _ h.symm dX3_place_15
theorem ct_X3_place {l : Launch} {z : GZ} (htr : l.stackTraces = false) {t0 : Nat} {i0 : Int32} {i1 : Int32} {i2 : Int32} (h0 : gT t0 = 3) {M : GM} : gMet l z yX3_place cX3_place 4 none 0 [.ref (gad z t0), .int i0, .int i1, .int i2] M (none) (f_X3_place t0 i0 i1 i2 M) := gMet_ofV (by decide +kernel) (Nat.le_of_ble_eq_true rfl) htr (fun x X ez el hR => by subst ez; subst el; exact w_X3_place X h0 (fun M9 lv9 pc9 e9 d9 => by cases e9; exact hR lv9 pc9 d9) rfl)
theorem dX4_join_0 : decode cX4_join 0 = .ok (.aload_n 0, 1) := by decide +kernel
theorem dX4_join_1 : decode cX4_join 1 = .ok (.iload_n 1, 1) := by decide +kernel
theorem dX4_join_2 : decode cX4_join 2 = .ok (.putfield 7, 3) := by decide +kernel
theorem dX4_join_5 : decode cX4_join 5 = .ok (.aload_n 0, 1) := by decide +kernel
theorem dX4_join_6 : decode cX4_join 6 = .ok (.iload_n 2, 1) := by decide +kernel
theorem dX4_join_7 : decode cX4_join 7 = .ok (.putfield 13, 3) := by decide +kernel
theorem dX4_join_10 : decode cX4_join 10 = .ok (.aload_n 0, 1) := by decide +kernel
theorem dX4_join_11 : decode cX4_join 11 = .ok (.iload_n 3, 1) := by decide +kernel
theorem dX4_join_12 : decode cX4_join 12 = .ok (.putfield 16, 3) := by decide +kernel
theorem dX4_join_15 : decode cX4_join 15 = .ok (.return_, 1) := by decide +kernel
def f_X4_join (t0 : Nat) (i0 : Int32) (i1 : Int32) (i2 : Int32) (M : GM) : GM := bnd (sI M t0 0 i0) (fun M1 => bnd (sI M1 t0 1 i1) (fun M3 => bnd (sI M3 t0 2 i2) (fun M5 => M5)))
set_option maxHeartbeats 4000000 in
set_option maxRecDepth 100000 in
theorem w_X4_join {x : GX} (X : GC x cX4_join 4 RX4 0) {t0 : Nat} {i0 : Int32} {i1 : Int32} {i2 : Int32} (h0 : gT t0 = 4) {M : GM} {r9 : GM} (hR : ∀ (M9 : GM) (lv9 : List (Nat × Value)) (pc9 : Nat), r9 = M9 → decode cX4_join pc9 = .ok (.return_, 1) → WG x M9 lv9 pc9 []) (h : f_X4_join t0 i0 i1 i2 M = r9) : WG x M [(0, .ref (gad (xz x) t0)), (1, .int i0), (2, .int i1), (3, .int i2)] 0 [] := by
  unfold f_X4_join at h
  refine g_aload_n X (j := 0) dX4_join_0 rfl rfl ?_
  refine g_iload_n X (j := 1) dX4_join_1 rfl rfl ?_
  refine gp_X4_7 X h0 dX4_join_2 ?_
  refine g_mem (fun M1 e2 => ?_)
  have h := bnd_e e2 h
  refine g_aload_n X (j := 0) dX4_join_5 rfl rfl ?_
  refine g_iload_n X (j := 2) dX4_join_6 rfl rfl ?_
  refine gp_X4_13 X h0 dX4_join_7 ?_
  refine g_mem (fun M3 e4 => ?_)
  have h := bnd_e e4 h
  refine g_aload_n X (j := 0) dX4_join_10 rfl rfl ?_
  refine g_iload_n X (j := 3) dX4_join_11 rfl rfl ?_
  refine gp_X4_16 X h0 dX4_join_12 ?_
  refine g_mem (fun M5 e6 => ?_)
  have h := bnd_e e6 h
  exact hR M5 _ _ h.symm dX4_join_15
theorem ct_X4_join {l : Launch} {z : GZ} (htr : l.stackTraces = false) {t0 : Nat} {i0 : Int32} {i1 : Int32} {i2 : Int32} (h0 : gT t0 = 4) {M : GM} : gMet l z yX4_join cX4_join 4 none 0 [.ref (gad z t0), .int i0, .int i1, .int i2] M (none) (f_X4_join t0 i0 i1 i2 M) := gMet_ofV (by decide +kernel) (Nat.le_of_ble_eq_true rfl) htr (fun x X ez el hR => by subst ez; subst el; exact w_X4_join X h0 (fun M9 lv9 pc9 e9 d9 => by cases e9; exact hR lv9 pc9 d9) rfl)
theorem dX4_has_0 : decode cX4_has 0 = .ok (.aload_n 0, 1) := by decide +kernel
theorem dX4_has_1 : decode cX4_has 1 = .ok (.getfield 7, 3) := by decide +kernel
theorem dX4_has_4 : decode cX4_has 4 = .ok (.iload_n 1, 1) := by decide +kernel
theorem dX4_has_5 : decode cX4_has 5 = .ok (.if_icmp .eq 19, 3) := by decide +kernel
theorem dX4_has_8 : decode cX4_has 8 = .ok (.aload_n 0, 1) := by decide +kernel
theorem dX4_has_9 : decode cX4_has 9 = .ok (.getfield 13, 3) := by decide +kernel
theorem dX4_has_12 : decode cX4_has 12 = .ok (.iload_n 1, 1) := by decide +kernel
theorem dX4_has_13 : decode cX4_has 13 = .ok (.if_icmp .eq 11, 3) := by decide +kernel
theorem dX4_has_16 : decode cX4_has 16 = .ok (.aload_n 0, 1) := by decide +kernel
theorem dX4_has_17 : decode cX4_has 17 = .ok (.getfield 16, 3) := by decide +kernel
theorem dX4_has_20 : decode cX4_has 20 = .ok (.iload_n 1, 1) := by decide +kernel
theorem dX4_has_21 : decode cX4_has 21 = .ok (.if_icmp .ne 7, 3) := by decide +kernel
theorem dX4_has_24 : decode cX4_has 24 = .ok (.iconst 1, 1) := by decide +kernel
theorem dX4_has_25 : decode cX4_has 25 = .ok (.goto 4, 3) := by decide +kernel
theorem dX4_has_28 : decode cX4_has 28 = .ok (.iconst 0, 1) := by decide +kernel
theorem dX4_has_29 : decode cX4_has 29 = .ok (.ireturn, 1) := by decide +kernel
def f_X4_has (t0 : Nat) (i0 : Int32) (M : GM) : Int32 := if (gI M t0 0) = i0 then ((1 : Int32)) else (if (gI M t0 1) = i0 then ((1 : Int32)) else (if (gI M t0 2) = i0 then ((1 : Int32)) else ((0 : Int32))))
set_option maxHeartbeats 4000000 in
set_option maxRecDepth 100000 in
theorem w_X4_has {x : GX} (X : GC x cX4_has 2 RX4 0) {t0 : Nat} {i0 : Int32} (h0 : gT t0 = 4) {M : GM} {r9 : Int32} (hR : ∀ (v9 : Int32) (lv9 : List (Nat × Value)) (pc9 : Nat), r9 = v9 → (v9 = 0 ∨ v9 = 1) → decode cX4_has pc9 = .ok (.ireturn, 1) → WG x M lv9 pc9 [.int v9]) (h : f_X4_has t0 i0 M = r9) : WG x M [(0, .ref (gad (xz x) t0)), (1, .int i0)] 0 [] := by
  unfold f_X4_has at h
  refine g_aload_n X (j := 0) dX4_has_0 rfl rfl ?_
  refine gf_X4_7 X h0 dX4_has_1 ?_
  refine g_iload_n X (j := 1) dX4_has_4 rfl rfl ?_
  refine g_icmp_eq X (tgt := 24) dX4_has_5 (by decide) (fun hb => ?_) (fun hb => ?_)
  · have h := ite_t hb h
    refine g_iconst X (v := 1) dX4_has_24 (by decide) ?_
    refine g_goto X (tgt := 29) dX4_has_25 (by decide) ?_
    exact hR (1 : Int32) _ _ h.symm (Or.inr rfl) dX4_has_29
  · have h := ite_f hb h
    refine g_aload_n X (j := 0) dX4_has_8 rfl rfl ?_
    refine gf_X4_13 X h0 dX4_has_9 ?_
    refine g_iload_n X (j := 1) dX4_has_12 rfl rfl ?_
    refine g_icmp_eq X (tgt := 24) dX4_has_13 (by decide) (fun hb => ?_) (fun hb => ?_)
    · have h := ite_t hb h
      refine g_iconst X (v := 1) dX4_has_24 (by decide) ?_
      refine g_goto X (tgt := 29) dX4_has_25 (by decide) ?_
      exact hR (1 : Int32) _ _ h.symm (Or.inr rfl) dX4_has_29
    · have h := ite_f hb h
      refine g_aload_n X (j := 0) dX4_has_16 rfl rfl ?_
      refine gf_X4_16 X h0 dX4_has_17 ?_
      refine g_iload_n X (j := 1) dX4_has_20 rfl rfl ?_
      refine g_icmp_ne X (tgt := 28) dX4_has_21 (by decide) (fun hb => ?_) (fun hb => ?_)
      · have h := ite_f hb h
        refine g_iconst X (v := 0) dX4_has_28 (by decide) ?_
        exact hR (0 : Int32) _ _ h.symm (Or.inl rfl) dX4_has_29
      · have h := ite_t hb h
        refine g_iconst X (v := 1) dX4_has_24 (by decide) ?_
        refine g_goto X (tgt := 29) dX4_has_25 (by decide) ?_
        exact hR (1 : Int32) _ _ h.symm (Or.inr rfl) dX4_has_29
theorem ct_X4_has {l : Launch} {z : GZ} (htr : l.stackTraces = false) {t0 : Nat} {i0 : Int32} (h0 : gT t0 = 4) {M : GM} : gMet l z yX4_has cX4_has 2 (some .boolean) 0 [.ref (gad z t0), .int i0] M (some (.int (f_X4_has t0 i0 M))) M := gMet_ofZ (by decide +kernel) (Nat.le_of_ble_eq_true rfl) htr (fun x X ez el hR => by subst ez; subst el; exact w_X4_has X h0 (fun v9 lv9 pc9 e9 z9 d9 => by cases e9; exact hR lv9 pc9 z9 d9) rfl)
theorem fz_X4_has (t0 : Nat) (i0 : Int32) (M : GM) : f_X4_has t0 i0 M = 0 ∨ f_X4_has t0 i0 M = 1 := by
  unfold f_X4_has
  repeat' split
  all_goals first | exact Or.inl rfl | exact Or.inr rfl | exact fz_X10_isWithin _ _ _
theorem dX5_placeOf_0 : decode cX5_placeOf 0 = .ok (.iload_n 1, 1) := by decide +kernel
theorem dX5_placeOf_1 : decode cX5_placeOf 1 = .ok (.bipush 7, 2) := by decide +kernel
theorem dX5_placeOf_3 : decode cX5_placeOf 3 = .ok (.iushr, 1) := by decide +kernel
theorem dX5_placeOf_4 : decode cX5_placeOf 4 = .ok (.istore_n 2, 1) := by decide +kernel
theorem dX5_placeOf_5 : decode cX5_placeOf 5 = .ok (.iload_n 2, 1) := by decide +kernel
theorem dX5_placeOf_6 : decode cX5_placeOf 6 = .ok (.bipush 8, 2) := by decide +kernel
theorem dX5_placeOf_8 : decode cX5_placeOf 8 = .ok (.if_icmp .ge 5, 3) := by decide +kernel
theorem dX5_placeOf_11 : decode cX5_placeOf 11 = .ok (.iload_n 2, 1) := by decide +kernel
theorem dX5_placeOf_12 : decode cX5_placeOf 12 = .ok (.ireturn, 1) := by decide +kernel
theorem dX5_placeOf_13 : decode cX5_placeOf 13 = .ok (.aload_n 0, 1) := by decide +kernel
theorem dX5_placeOf_14 : decode cX5_placeOf 14 = .ok (.getfield 15, 3) := by decide +kernel
theorem dX5_placeOf_17 : decode cX5_placeOf 17 = .ok (.ifCond .eq 10, 3) := by decide +kernel
theorem dX5_placeOf_20 : decode cX5_placeOf 20 = .ok (.iload_n 2, 1) := by decide +kernel
theorem dX5_placeOf_21 : decode cX5_placeOf 21 = .ok (.bipush 8, 2) := by decide +kernel
theorem dX5_placeOf_23 : decode cX5_placeOf 23 = .ok (.irem, 1) := by decide +kernel
theorem dX5_placeOf_24 : decode cX5_placeOf 24 = .ok (.goto 5, 3) := by decide +kernel
theorem dX5_placeOf_27 : decode cX5_placeOf 27 = .ok (.bipush 7, 2) := by decide +kernel
theorem dX5_placeOf_29 : decode cX5_placeOf 29 = .ok (.ireturn, 1) := by decide +kernel
def f_X5_placeOf (t0 : Nat) (i0 : Int32) (M : GM) : Int32 := bnd ((i0.toUInt32 >>> ((7 : Int32).toUInt32 &&& Int32.toUInt32 31)).toInt32) (fun v1 => if (8 : Int32) ≤ v1 then (if (gI M t0 1) = 0 then ((7 : Int32)) else ((v1 - v1 / (8 : Int32) * (8 : Int32)))) else (v1))
set_option maxHeartbeats 4000000 in
set_option maxRecDepth 100000 in
theorem w_X5_placeOf {x : GX} (X : GC x cX5_placeOf 3 RX5 0) {t0 : Nat} {i0 : Int32} (h0 : gT t0 = 5) {M : GM} {r9 : Int32} (hR : ∀ (v9 : Int32) (lv9 : List (Nat × Value)) (pc9 : Nat), r9 = v9 → decode cX5_placeOf pc9 = .ok (.ireturn, 1) → WG x M lv9 pc9 [.int v9]) (h : f_X5_placeOf t0 i0 M = r9) : WG x M [(0, .ref (gad (xz x) t0)), (1, .int i0)] 0 [] := by
  unfold f_X5_placeOf at h
  refine g_iload_n X (j := 1) dX5_placeOf_0 rfl rfl ?_
  refine g_bipush X (v := 7) dX5_placeOf_1 (by decide) ?_
  refine g_iushr X dX5_placeOf_3 ?_
  refine g_topi (fun v1 e2 => ?_)
  have h := bnd_e e2 h
  refine g_istore_n X (lv' := [(2, .int v1), (0, .ref (gad (xz x) t0)), (1, .int i0)]) dX5_placeOf_4 rfl (by decide) rfl ?_
  refine g_iload_n X (j := 0) dX5_placeOf_5 rfl rfl ?_
  refine g_bipush X (v := 8) dX5_placeOf_6 (by decide) ?_
  refine g_icmp_ge X (tgt := 13) dX5_placeOf_8 (by decide) (fun hb => ?_) (fun hb => ?_)
  · have h := ite_t hb h
    refine g_aload_n X (j := 1) dX5_placeOf_13 rfl rfl ?_
    refine gf_X5_15 X h0 dX5_placeOf_14 ?_
    refine g_if_eq X (tgt := 27) dX5_placeOf_17 (by decide) (fun hb => ?_) (fun hb => ?_)
    · have h := ite_t hb h
      refine g_bipush X (v := 7) dX5_placeOf_27 (by decide) ?_
      exact hR (7 : Int32) _ _ h.symm dX5_placeOf_29
    · have h := ite_f hb h
      refine g_iload_n X (j := 0) dX5_placeOf_20 rfl rfl ?_
      refine g_bipush X (v := 8) dX5_placeOf_21 (by decide) ?_
      refine g_irem X dX5_placeOf_23 (by decide) ?_
      refine g_goto X (tgt := 29) dX5_placeOf_24 (by decide) ?_
      exact hR (v1 - v1 / (8 : Int32) * (8 : Int32)) _ _ h.symm dX5_placeOf_29
  · have h := ite_f hb h
    refine g_iload_n X (j := 0) dX5_placeOf_11 rfl rfl ?_
    exact hR v1 _ _ h.symm dX5_placeOf_12
theorem ct_X5_placeOf {l : Launch} {z : GZ} (htr : l.stackTraces = false) {t0 : Nat} {i0 : Int32} (h0 : gT t0 = 5) {M : GM} : gMet l z yX5_placeOf cX5_placeOf 3 (some .int) 0 [.ref (gad z t0), .int i0] M (some (.int (f_X5_placeOf t0 i0 M))) M := gMet_ofI (by decide +kernel) (Nat.le_of_ble_eq_true rfl) htr rfl (fun x X ez el hR => by subst ez; subst el; exact w_X5_placeOf X h0 (fun v9 lv9 pc9 e9 d9 => by cases e9; exact hR lv9 pc9 d9) rfl)
theorem gc_X5_19 {x : GX} {cc : ByteArray} {nL d pc : Nat} {M : GM} {lv : List (Nat × Value)} {st : List Value} (X : GC x cc nL RX5 d) {i0 : Int32} {M1 : GM} {r : Int32} {g : Nat} (ht : gT g = 5) (hM : gMet (xl x) (xz x) yX5_placeOf cX5_placeOf 3 (some .int) 0 [.ref (gad (xz x) g), .int i0] M (some (.int r)) M1) (hd : 1 ≤ d) (hsum : (st.map fun v => v.category).sum ≤ 8) (dec : decode cc pc = .ok (.invokevirtual 19, 3)) (go : WG x M1 lv (pc + 3) (.int r :: st)) : WG x M lv pc (.int i0 :: .ref (gad (xz x) g) :: st) := g_callV X (n := 1) (As := [.int i0]) (rest := st) hM ht (by decide) (gE_5 ht) rfl q_316 q_318 q_5 q_27 q_320 (by decide +kernel) rfl hd (by decide) rfl hsum dec go
theorem dX5_tintAt_0 : decode cX5_tintAt 0 = .ok (.aload_n 0, 1) := by decide +kernel
theorem dX5_tintAt_1 : decode cX5_tintAt 1 = .ok (.getfield 9, 3) := by decide +kernel
theorem dX5_tintAt_4 : decode cX5_tintAt 4 = .ok (.aload_n 0, 1) := by decide +kernel
theorem dX5_tintAt_5 : decode cX5_tintAt 5 = .ok (.iload_n 2, 1) := by decide +kernel
theorem dX5_tintAt_6 : decode cX5_tintAt 6 = .ok (.invokevirtual 19, 3) := by decide +kernel
theorem dX5_tintAt_9 : decode cX5_tintAt 9 = .ok (.bipush 8, 2) := by decide +kernel
theorem dX5_tintAt_11 : decode cX5_tintAt 11 = .ok (.imul, 1) := by decide +kernel
theorem dX5_tintAt_12 : decode cX5_tintAt 12 = .ok (.aload_n 0, 1) := by decide +kernel
theorem dX5_tintAt_13 : decode cX5_tintAt 13 = .ok (.iload_n 1, 1) := by decide +kernel
theorem dX5_tintAt_14 : decode cX5_tintAt 14 = .ok (.invokevirtual 19, 3) := by decide +kernel
theorem dX5_tintAt_17 : decode cX5_tintAt 17 = .ok (.iadd, 1) := by decide +kernel
theorem dX5_tintAt_18 : decode cX5_tintAt 18 = .ok (.iaload, 1) := by decide +kernel
theorem dX5_tintAt_19 : decode cX5_tintAt 19 = .ok (.ireturn, 1) := by decide +kernel
def f_X5_tintAt (F : Nat) (t0 : Nat) (i0 : Int32) (i1 : Int32) (M : GM) : Option Int32 := grd (gIn (((f_X5_placeOf t0 i1 M) * (8 : Int32)) + (f_X5_placeOf t0 i0 M)) (gN (t0 + 1))) (some (gI M (t0 + 1) ((((f_X5_placeOf t0 i1 M) * (8 : Int32)) + (f_X5_placeOf t0 i0 M)).toNatClampNeg)))
set_option maxHeartbeats 4000000 in
set_option maxRecDepth 100000 in
theorem w_X5_tintAt {x : GX} (X : GC x cX5_tintAt 3 RX5 1) {t0 : Nat} {i0 : Int32} {i1 : Int32} (h0 : gT t0 = 5) {F : Nat} {M : GM} {r9 : Int32} (hR : ∀ (v9 : Int32) (lv9 : List (Nat × Value)) (pc9 : Nat), r9 = v9 → decode cX5_tintAt pc9 = .ok (.ireturn, 1) → WG x M lv9 pc9 [.int v9]) (h : f_X5_tintAt F t0 i0 i1 M = some r9) : WG x M [(0, .ref (gad (xz x) t0)), (1, .int i0), (2, .int i1)] 0 [] := by
  unfold f_X5_tintAt at h
  refine g_aload_n X (j := 0) dX5_tintAt_0 rfl rfl ?_
  refine gf_X5_9 X h0 dX5_tintAt_1 ?_
  refine g_aload_n X (j := 0) dX5_tintAt_4 rfl rfl ?_
  refine g_iload_n X (j := 2) dX5_tintAt_5 rfl rfl ?_
  refine gc_X5_19 X h0 (ct_X5_placeOf X.htr h0) (by decide) (Nat.le_of_ble_eq_true rfl) dX5_tintAt_6 ?_
  refine g_bipush X (v := 8) dX5_tintAt_9 (by decide) ?_
  refine g_imul X dX5_tintAt_11 ?_
  refine g_aload_n X (j := 0) dX5_tintAt_12 rfl rfl ?_
  refine g_iload_n X (j := 1) dX5_tintAt_13 rfl rfl ?_
  refine gc_X5_19 X h0 (ct_X5_placeOf X.htr h0) (by decide) (Nat.le_of_ble_eq_true rfl) dX5_tintAt_14 ?_
  refine g_iadd X dX5_tintAt_17 ?_
  obtain ⟨hg1, h⟩ := grd_e h
  refine g_iald X (gT_5_tints h0) hg1 dX5_tintAt_18 ?_
  exact hR (gI M (t0 + 1) ((((f_X5_placeOf t0 i1 M) * (8 : Int32)) + (f_X5_placeOf t0 i0 M)).toNatClampNeg)) _ _ (Option.some.inj h).symm dX5_tintAt_19
theorem ct_X5_tintAt {l : Launch} {z : GZ} (htr : l.stackTraces = false) {t0 : Nat} {i0 : Int32} {i1 : Int32} (h0 : gT t0 = 5) {M : GM} {F : Nat} {v : Int32} (h : f_X5_tintAt F t0 i0 i1 M = some v) : gMet l z yX5_tintAt cX5_tintAt 3 (some .int) 1 [.ref (gad z t0), .int i0, .int i1] M (some (.int v)) M := gMet_ofI (by decide +kernel) (Nat.le_of_ble_eq_true rfl) htr rfl (fun x X ez el hR => by subst ez; subst el; exact w_X5_tintAt X h0 (fun v9 lv9 pc9 e9 d9 => by cases e9; exact hR lv9 pc9 d9) h)
