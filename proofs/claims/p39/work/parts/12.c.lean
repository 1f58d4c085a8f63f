/-! 12.c -/
theorem gc_X9_49 {x : GX} {cc : ByteArray} {nL d pc : Nat} {M : GM} {lv : List (Nat × Value)} {st : List Value} (X : GC x cc nL RX9 d) {i0 : Int32} {i1 : Int32} {i2 : Int32} {M1 : GM} {r : Int32} (hM : gMet (xl x) (xz x) yX10_isWithin cX10_isWithin 3 (some .boolean) 0 [.int i0, .int i1, .int i2] M (some (.int r)) M1) (hd : 1 ≤ d) (hsum : (st.map fun v => v.category).sum ≤ 8) (dec : decode cc pc = .ok (.invokestatic 49, 3)) (go : WG x M1 lv (pc + 3) (.int r :: st)) : WG x M lv pc (.int i2 :: .int i1 :: .int i0 :: st) := g_callSN X (n := 3) (As := [.int i0, .int i1, .int i2]) (rest := st) (host := RX10) hM (fun h => h.2.2.2.2.1) q_47 q_17 q_48 (by decide +kernel) rfl hd (by decide) rfl hsum dec go
theorem dX9_isFarOut_0 : decode cX9_isFarOut 0 = .ok (.aload_n 0, 1) := by decide +kernel
theorem dX9_isFarOut_1 : decode cX9_isFarOut 1 = .ok (.getfield 46, 3) := by decide +kernel
theorem dX9_isFarOut_4 : decode cX9_isFarOut 4 = .ok (.sipush (-30000), 3) := by decide +kernel
theorem dX9_isFarOut_7 : decode cX9_isFarOut 7 = .ok (.sipush 30000, 3) := by decide +kernel
theorem dX9_isFarOut_10 : decode cX9_isFarOut 10 = .ok (.invokestatic 49, 3) := by decide +kernel
theorem dX9_isFarOut_13 : decode cX9_isFarOut 13 = .ok (.ifCond .eq 19, 3) := by decide +kernel
theorem dX9_isFarOut_16 : decode cX9_isFarOut 16 = .ok (.aload_n 0, 1) := by decide +kernel
theorem dX9_isFarOut_17 : decode cX9_isFarOut 17 = .ok (.getfield 53, 3) := by decide +kernel
theorem dX9_isFarOut_20 : decode cX9_isFarOut 20 = .ok (.sipush (-30000), 3) := by decide +kernel
theorem dX9_isFarOut_23 : decode cX9_isFarOut 23 = .ok (.sipush 30000, 3) := by decide +kernel
theorem dX9_isFarOut_26 : decode cX9_isFarOut 26 = .ok (.invokestatic 49, 3) := by decide +kernel
theorem dX9_isFarOut_29 : decode cX9_isFarOut 29 = .ok (.ifCond .ne 7, 3) := by decide +kernel
theorem dX9_isFarOut_32 : decode cX9_isFarOut 32 = .ok (.iconst 1, 1) := by decide +kernel
theorem dX9_isFarOut_33 : decode cX9_isFarOut 33 = .ok (.goto 4, 3) := by decide +kernel
theorem dX9_isFarOut_36 : decode cX9_isFarOut 36 = .ok (.iconst 0, 1) := by decide +kernel
theorem dX9_isFarOut_37 : decode cX9_isFarOut 37 = .ok (.ireturn, 1) := by decide +kernel
def f_X9_isFarOut (t0 : Nat) (M : GM) : Int32 := if (f_X10_isWithin (gI M t0 8) ((-30000) : Int32) (30000 : Int32)) = 0 then ((1 : Int32)) else (if (f_X10_isWithin (gI M t0 9) ((-30000) : Int32) (30000 : Int32)) = 0 then ((1 : Int32)) else ((0 : Int32)))
set_option maxHeartbeats 4000000 in
set_option maxRecDepth 100000 in
theorem w_X9_isFarOut {x : GX} (X : GC x cX9_isFarOut 1 RX9 1) {t0 : Nat} (h0 : gT t0 = 9) {M : GM} {r9 : Int32} (hR : ∀ (v9 : Int32) (lv9 : List (Nat × Value)) (pc9 : Nat), r9 = v9 → (v9 = 0 ∨ v9 = 1) → decode cX9_isFarOut pc9 = .ok (.ireturn, 1) → WG x M lv9 pc9 [.int v9]) (h : f_X9_isFarOut t0 M = r9) : WG x M [(0, .ref (gad (xz x) t0))] 0 [] := by
  unfold f_X9_isFarOut at h
  refine g_aload_n X (j := 0) dX9_isFarOut_0 rfl rfl ?_
  refine gf_X9_46 X h0 dX9_isFarOut_1 ?_
  refine g_sipush X (v := (-30000)) dX9_isFarOut_4 (by decide) ?_
  refine g_sipush X (v := 30000) dX9_isFarOut_7 (by decide) ?_
  refine gc_X9_49 X (ct_X10_isWithin X.htr ) (by decide) (Nat.le_of_ble_eq_true rfl) dX9_isFarOut_10 ?_
  refine g_if_eq X (tgt := 32) dX9_isFarOut_13 (by decide) (fun hb => ?_) (fun hb => ?_)
  · have h := ite_t hb h
    refine g_iconst X (v := 1) dX9_isFarOut_32 (by decide) ?_
    refine g_goto X (tgt := 37) dX9_isFarOut_33 (by decide) ?_
    exact hR (1 : Int32) _ _ h.symm (Or.inr rfl) dX9_isFarOut_37
  · have h := ite_f hb h
    refine g_aload_n X (j := 0) dX9_isFarOut_16 rfl rfl ?_
    refine gf_X9_53 X h0 dX9_isFarOut_17 ?_
    refine g_sipush X (v := (-30000)) dX9_isFarOut_20 (by decide) ?_
    refine g_sipush X (v := 30000) dX9_isFarOut_23 (by decide) ?_
    refine gc_X9_49 X (ct_X10_isWithin X.htr ) (by decide) (Nat.le_of_ble_eq_true rfl) dX9_isFarOut_26 ?_
    refine g_if_ne X (tgt := 36) dX9_isFarOut_29 (by decide) (fun hb => ?_) (fun hb => ?_)
    · have h := ite_f hb h
      refine g_iconst X (v := 0) dX9_isFarOut_36 (by decide) ?_
      exact hR (0 : Int32) _ _ h.symm (Or.inl rfl) dX9_isFarOut_37
    · have h := ite_t hb h
      refine g_iconst X (v := 1) dX9_isFarOut_32 (by decide) ?_
      refine g_goto X (tgt := 37) dX9_isFarOut_33 (by decide) ?_
      exact hR (1 : Int32) _ _ h.symm (Or.inr rfl) dX9_isFarOut_37
theorem ct_X9_isFarOut {l : Launch} {z : GZ} (htr : l.stackTraces = false) {t0 : Nat} (h0 : gT t0 = 9) {M : GM} : gMet l z yX9_isFarOut cX9_isFarOut 1 (some .boolean) 1 [.ref (gad z t0)] M (some (.int (f_X9_isFarOut t0 M))) M := gMet_ofZ (by decide +kernel) (Nat.le_of_ble_eq_true rfl) htr (fun x X ez el hR => by subst ez; subst el; exact w_X9_isFarOut X h0 (fun v9 lv9 pc9 e9 z9 d9 => by cases e9; exact hR lv9 pc9 z9 d9) rfl)
theorem fz_X9_isFarOut (t0 : Nat) (M : GM) : f_X9_isFarOut t0 M = 0 ∨ f_X9_isFarOut t0 M = 1 := by
  unfold f_X9_isFarOut
  repeat' split
  all_goals first | exact Or.inl rfl | exact Or.inr rfl | exact fz_X10_isWithin _ _ _
theorem dX6_turn_0 : decode cX6_turn 0 = .ok (.aload_n 1, 1) := by decide +kernel
theorem dX6_turn_1 : decode cX6_turn 1 = .ok (.getfield 35, 3) := by decide +kernel
theorem dX6_turn_4 : decode cX6_turn 4 = .ok (.aload_n 0, 1) := by decide +kernel
theorem dX6_turn_5 : decode cX6_turn 5 = .ok (.getfield 35, 3) := by decide +kernel
theorem dX6_turn_8 : decode cX6_turn 8 = .ok (.isub, 1) := by decide +kernel
theorem dX6_turn_9 : decode cX6_turn 9 = .ok (.i2l, 1) := by decide +kernel
theorem dX6_turn_10 : decode cX6_turn 10 = .ok (.iload_n 3, 1) := by decide +kernel
theorem dX6_turn_11 : decode cX6_turn 11 = .ok (.aload_n 0, 1) := by decide +kernel
theorem dX6_turn_12 : decode cX6_turn 12 = .ok (.getfield 39, 3) := by decide +kernel
theorem dX6_turn_15 : decode cX6_turn 15 = .ok (.isub, 1) := by decide +kernel
theorem dX6_turn_16 : decode cX6_turn 16 = .ok (.i2l, 1) := by decide +kernel
theorem dX6_turn_17 : decode cX6_turn 17 = .ok (.lmul, 1) := by decide +kernel
theorem dX6_turn_18 : decode cX6_turn 18 = .ok (.aload_n 1, 1) := by decide +kernel
theorem dX6_turn_19 : decode cX6_turn 19 = .ok (.getfield 39, 3) := by decide +kernel
theorem dX6_turn_22 : decode cX6_turn 22 = .ok (.aload_n 0, 1) := by decide +kernel
theorem dX6_turn_23 : decode cX6_turn 23 = .ok (.getfield 39, 3) := by decide +kernel
theorem dX6_turn_26 : decode cX6_turn 26 = .ok (.isub, 1) := by decide +kernel
theorem dX6_turn_27 : decode cX6_turn 27 = .ok (.i2l, 1) := by decide +kernel
theorem dX6_turn_28 : decode cX6_turn 28 = .ok (.iload_n 2, 1) := by decide +kernel
theorem dX6_turn_29 : decode cX6_turn 29 = .ok (.aload_n 0, 1) := by decide +kernel
theorem dX6_turn_30 : decode cX6_turn 30 = .ok (.getfield 35, 3) := by decide +kernel
theorem dX6_turn_33 : decode cX6_turn 33 = .ok (.isub, 1) := by decide +kernel
theorem dX6_turn_34 : decode cX6_turn 34 = .ok (.i2l, 1) := by decide +kernel
theorem dX6_turn_35 : decode cX6_turn 35 = .ok (.lmul, 1) := by decide +kernel
theorem dX6_turn_36 : decode cX6_turn 36 = .ok (.lsub, 1) := by decide +kernel
theorem dX6_turn_37 : decode cX6_turn 37 = .ok (.lreturn, 1) := by decide +kernel
def f_X6_turn (p0 : Nat) (p1 : Nat) (i2 : Int32) (i3 : Int32) (M : GM) : Int64 := (((((gI M p1 8) - (gI M p0 8)).toInt64) * ((i3 - (gI M p0 9)).toInt64)) - ((((gI M p1 9) - (gI M p0 9)).toInt64) * ((i2 - (gI M p0 8)).toInt64)))
set_option maxHeartbeats 4000000 in
set_option maxRecDepth 100000 in
theorem w_X6_turn {x : GX} (X : GC x cX6_turn 4 RX6 0) {p0 : Nat} {p1 : Nat} {i2 : Int32} {i3 : Int32} (h1 : gT p0 = 9) (h2 : gT p1 = 9) {M : GM} {r9 : Int64} (hR : ∀ (v9 : Int64) (lv9 : List (Nat × Value)) (pc9 : Nat), r9 = v9 → decode cX6_turn pc9 = .ok (.lreturn, 1) → WG x M lv9 pc9 [.long v9]) (h : f_X6_turn p0 p1 i2 i3 M = r9) : WG x M [(0, .ref (gad (xz x) p0)), (1, .ref (gad (xz x) p1)), (2, .int i2), (3, .int i3)] 0 [] := by
  unfold f_X6_turn at h
  refine g_aload_n X (j := 1) dX6_turn_0 rfl rfl ?_
  refine gf_X6_35 X h2 dX6_turn_1 ?_
  refine g_aload_n X (j := 0) dX6_turn_4 rfl rfl ?_
  refine gf_X6_35 X h1 dX6_turn_5 ?_
  refine g_isub X dX6_turn_8 ?_
  refine g_i2l X dX6_turn_9 ?_
  refine g_iload_n X (j := 3) dX6_turn_10 rfl rfl ?_
  refine g_aload_n X (j := 0) dX6_turn_11 rfl rfl ?_
  refine gf_X6_39 X h1 dX6_turn_12 ?_
  refine g_isub X dX6_turn_15 ?_
  refine g_i2l X dX6_turn_16 ?_
  refine g_lmul X dX6_turn_17 ?_
  refine g_aload_n X (j := 1) dX6_turn_18 rfl rfl ?_
  refine gf_X6_39 X h2 dX6_turn_19 ?_
  refine g_aload_n X (j := 0) dX6_turn_22 rfl rfl ?_
  refine gf_X6_39 X h1 dX6_turn_23 ?_
  refine g_isub X dX6_turn_26 ?_
  refine g_i2l X dX6_turn_27 ?_
  refine g_iload_n X (j := 2) dX6_turn_28 rfl rfl ?_
  refine g_aload_n X (j := 0) dX6_turn_29 rfl rfl ?_
  refine gf_X6_35 X h1 dX6_turn_30 ?_
  refine g_isub X dX6_turn_33 ?_
  refine g_i2l X dX6_turn_34 ?_
  refine g_lmul X dX6_turn_35 ?_
  refine g_lsub X dX6_turn_36 ?_
  exact hR (((((gI M p1 8) - (gI M p0 8)).toInt64) * ((i3 - (gI M p0 9)).toInt64)) - ((((gI M p1 9) - (gI M p0 9)).toInt64) * ((i2 - (gI M p0 8)).toInt64))) _ _ h.symm dX6_turn_37
theorem ct_X6_turn {l : Launch} {z : GZ} (htr : l.stackTraces = false) {p0 : Nat} {p1 : Nat} {i2 : Int32} {i3 : Int32} (h1 : gT p0 = 9) (h2 : gT p1 = 9) {M : GM} : gMet l z yX6_turn cX6_turn 4 (some .long) 0 [.ref (gad z p0), .ref (gad z p1), .int i2, .int i3] M (some (.long (f_X6_turn p0 p1 i2 i3 M))) M := gMet_ofL (by decide +kernel) (Nat.le_of_ble_eq_true rfl) htr (fun x X ez el hR => by subst ez; subst el; exact w_X6_turn X h1 h2 (fun v9 lv9 pc9 e9 d9 => by cases e9; exact hR lv9 pc9 d9) rfl)
theorem gc_X6_78 {x : GX} {cc : ByteArray} {nL d pc : Nat} {M : GM} {lv : List (Nat × Value)} {st : List Value} (X : GC x cc nL RX6 d) {i0 : Int32} {i1 : Int32} {M1 : GM} {r : Int32} (hM : gMet (xl x) (xz x) yJ9_floorDiv_7cf53 cJ9_floorDiv_7cf53 3 (some .int) 0 [.int i0, .int i1] M (some (.int r)) M1) (hd : 1 ≤ d) (hsum : (st.map fun v => v.category).sum ≤ 8) (dec : decode cc pc = .ok (.invokestatic 78, 3)) (go : WG x M1 lv (pc + 3) (.int r :: st)) : WG x M lv pc (.int i1 :: .int i0 :: st) := g_callS X (n := 2) (As := [.int i0, .int i1]) (rest := st) hM q_235 q_236 q_34 q_237 (by decide +kernel) rfl hd (by decide) rfl hsum dec go
theorem dX6_firstMiddle_0 : decode cX6_firstMiddle 0 = .ok (.iload_n 0, 1) := by decide +kernel
theorem dX6_firstMiddle_1 : decode cX6_firstMiddle 1 = .ok (.bipush 8, 2) := by decide +kernel
theorem dX6_firstMiddle_3 : decode cX6_firstMiddle 3 = .ok (.iadd, 1) := by decide +kernel
theorem dX6_firstMiddle_4 : decode cX6_firstMiddle 4 = .ok (.iconst 1, 1) := by decide +kernel
theorem dX6_firstMiddle_5 : decode cX6_firstMiddle 5 = .ok (.isub, 1) := by decide +kernel
theorem dX6_firstMiddle_6 : decode cX6_firstMiddle 6 = .ok (.bipush 16, 2) := by decide +kernel
theorem dX6_firstMiddle_8 : decode cX6_firstMiddle 8 = .ok (.invokestatic 78, 3) := by decide +kernel
theorem dX6_firstMiddle_11 : decode cX6_firstMiddle 11 = .ok (.ireturn, 1) := by decide +kernel
def f_X6_firstMiddle (F : Nat) (i0 : Int32) (M : GM) : Option Int32 := bndO (f_J9_floorDiv_7cf53 F ((i0 + (8 : Int32)) - (1 : Int32)) (16 : Int32) M) (fun v2 => some v2)
set_option maxHeartbeats 4000000 in
set_option maxRecDepth 100000 in
theorem w_X6_firstMiddle {x : GX} (X : GC x cX6_firstMiddle 1 RX6 1) {i0 : Int32}  {F : Nat} {M : GM} {r9 : Int32} (hR : ∀ (v9 : Int32) (lv9 : List (Nat × Value)) (pc9 : Nat), r9 = v9 → decode cX6_firstMiddle pc9 = .ok (.ireturn, 1) → WG x M lv9 pc9 [.int v9]) (h : f_X6_firstMiddle F i0 M = some r9) : WG x M [(0, .int i0)] 0 [] := by
  unfold f_X6_firstMiddle at h
  refine g_iload_n X (j := 0) dX6_firstMiddle_0 rfl rfl ?_
  refine g_bipush X (v := 8) dX6_firstMiddle_1 (by decide) ?_
  refine g_iadd X dX6_firstMiddle_3 ?_
  refine g_iconst X (v := 1) dX6_firstMiddle_4 (by decide) ?_
  refine g_isub X dX6_firstMiddle_5 ?_
  refine g_bipush X (v := 16) dX6_firstMiddle_6 (by decide) ?_
  obtain ⟨v2, hc1, h⟩ := bndO_e h
  refine gc_X6_78 X (ct_J9_floorDiv_7cf53 X.htr  hc1) (by decide) (Nat.le_of_ble_eq_true rfl) dX6_firstMiddle_8 ?_
  exact hR v2 _ _ (Option.some.inj h).symm dX6_firstMiddle_11
theorem ct_X6_firstMiddle {l : Launch} {z : GZ} (htr : l.stackTraces = false) {i0 : Int32}  {M : GM} {F : Nat} {v : Int32} (h : f_X6_firstMiddle F i0 M = some v) : gMet l z yX6_firstMiddle cX6_firstMiddle 1 (some .int) 1 [.int i0] M (some (.int v)) M := gMet_ofI (by decide +kernel) (Nat.le_of_ble_eq_true rfl) htr rfl (fun x X ez el hR => by subst ez; subst el; exact w_X6_firstMiddle X  (fun v9 lv9 pc9 e9 d9 => by cases e9; exact hR lv9 pc9 d9) h)
theorem dX6_lastMiddle_0 : decode cX6_lastMiddle 0 = .ok (.iload_n 0, 1) := by decide +kernel
theorem dX6_lastMiddle_1 : decode cX6_lastMiddle 1 = .ok (.bipush 8, 2) := by decide +kernel
theorem dX6_lastMiddle_3 : decode cX6_lastMiddle 3 = .ok (.isub, 1) := by decide +kernel
theorem dX6_lastMiddle_4 : decode cX6_lastMiddle 4 = .ok (.bipush 16, 2) := by decide +kernel
theorem dX6_lastMiddle_6 : decode cX6_lastMiddle 6 = .ok (.invokestatic 78, 3) := by decide +kernel
theorem dX6_lastMiddle_9 : decode cX6_lastMiddle 9 = .ok (.ireturn, 1) := by decide +kernel
def f_X6_lastMiddle (F : Nat) (i0 : Int32) (M : GM) : Option Int32 := bndO (f_J9_floorDiv_7cf53 F (i0 - (8 : Int32)) (16 : Int32) M) (fun v2 => some v2)
set_option maxHeartbeats 4000000 in
set_option maxRecDepth 100000 in
theorem w_X6_lastMiddle {x : GX} (X : GC x cX6_lastMiddle 1 RX6 1) {i0 : Int32}  {F : Nat} {M : GM} {r9 : Int32} (hR : ∀ (v9 : Int32) (lv9 : List (Nat × Value)) (pc9 : Nat), r9 = v9 → decode cX6_lastMiddle pc9 = .ok (.ireturn, 1) → WG x M lv9 pc9 [.int v9]) (h : f_X6_lastMiddle F i0 M = some r9) : WG x M [(0, .int i0)] 0 [] := by
  unfold f_X6_lastMiddle at h
  refine g_iload_n X (j := 0) dX6_lastMiddle_0 rfl rfl ?_
  refine g_bipush X (v := 8) dX6_lastMiddle_1 (by decide) ?_
  refine g_isub X dX6_lastMiddle_3 ?_
  refine g_bipush X (v := 16) dX6_lastMiddle_4 (by decide) ?_
  obtain ⟨v2, hc1, h⟩ := bndO_e h
  refine gc_X6_78 X (ct_J9_floorDiv_7cf53 X.htr  hc1) (by decide) (Nat.le_of_ble_eq_true rfl) dX6_lastMiddle_6 ?_
  exact hR v2 _ _ (Option.some.inj h).symm dX6_lastMiddle_9
theorem ct_X6_lastMiddle {l : Launch} {z : GZ} (htr : l.stackTraces = false) {i0 : Int32}  {M : GM} {F : Nat} {v : Int32} (h : f_X6_lastMiddle F i0 M = some v) : gMet l z yX6_lastMiddle cX6_lastMiddle 1 (some .int) 1 [.int i0] M (some (.int v)) M := gMet_ofI (by decide +kernel) (Nat.le_of_ble_eq_true rfl) htr rfl (fun x X ez el hR => by subst ez; subst el; exact w_X6_lastMiddle X  (fun v9 lv9 pc9 e9 d9 => by cases e9; exact hR lv9 pc9 d9) h)
theorem gc_X6_31 {x : GX} {cc : ByteArray} {nL d pc : Nat} {M : GM} {lv : List (Nat × Value)} {st : List Value} (X : GC x cc nL RX6 d)  {M1 : GM} {r : Int32} {g : Nat} (ht : gT g = 9) (hM : gMet (xl x) (xz x) yX9_isFarOut cX9_isFarOut 1 (some .boolean) 1 [.ref (gad (xz x) g)] M (some (.int r)) M1) (hd : 2 ≤ d) (hsum : (st.map fun v => v.category).sum ≤ 8) (dec : decode cc pc = .ok (.invokevirtual 31, 3)) (go : WG x M1 lv (pc + 3) (.int r :: st)) : WG x M lv pc (.ref (gad (xz x) g) :: st) := g_callV X (n := 0) (As := []) (rest := st) hM ht (by decide) (gE_9 ht) rfl q_218 q_219 q_220 q_20 q_221 (by decide +kernel) rfl hd (by decide) rfl hsum dec go
theorem gc_X6_42 {x : GX} {cc : ByteArray} {nL d pc : Nat} {M : GM} {lv : List (Nat × Value)} {st : List Value} (X : GC x cc nL RX6 d) {i0 : Nat} {i1 : Nat} {i2 : Int32} {i3 : Int32} {M1 : GM} {r : Int64} (hM : gMet (xl x) (xz x) yX6_turn cX6_turn 4 (some .long) 0 [.ref (gad (xz x) i0), .ref (gad (xz x) i1), .int i2, .int i3] M (some (.long r)) M1) (hd : 1 ≤ d) (hsum : (st.map fun v => v.category).sum ≤ 8) (dec : decode cc pc = .ok (.invokestatic 42, 3)) (go : WG x M1 lv (pc + 3) (.long r :: st)) : WG x M lv pc (.int i3 :: .int i2 :: .ref (gad (xz x) i1) :: .ref (gad (xz x) i0) :: st) := g_callS X (n := 4) (As := [.ref (gad (xz x) i0), .ref (gad (xz x) i1), .int i2, .int i3]) (rest := st) hM q_223 q_224 q_21 q_225 (by decide +kernel) rfl hd (by decide) rfl hsum dec go
theorem gm_X6_50 {x : GX} {cc : ByteArray} {nL d pc : Nat} {M : GM} {lv : List (Nat × Value)} {st : List Value} (X : GC x cc nL RX6 d) {a : Int64} (hd : 1 ≤ d) (hsum : (st.map fun v => v.category).sum ≤ 8) (dec : decode cc pc = .ok (.invokestatic 50, 3)) (go : WG x M lv (pc + 3) (.long (g_abs a) :: st)) : WG x M lv pc (.long a :: st) := fun H locs ls hP hO hS hl => va_mabs_long X.1 X.2.1 hl.1.symm X.2.2.2.1 (X.hw q_226) (X.hw q_227) (X.hw q_34) (X.hw q_228) (by have := X.2.2.2.2.2.2.2.1; omega) (by have := X.2.2.2.2.2.2.2.2.1; omega) X.2.2.2.2.2.2.2.2.2.1 X.2.2.2.2.2.2.2.2.2.2.1 dec (go H locs ls hP hO hS hl)
theorem gm_X6_60 {x : GX} {cc : ByteArray} {nL d pc : Nat} {M : GM} {lv : List (Nat × Value)} {st : List Value} (X : GC x cc nL RX6 d) {a b : Int32} (hd : 1 ≤ d) (hsum : (st.map fun v => v.category).sum ≤ 8) (dec : decode cc pc = .ok (.invokestatic 60, 3)) (go : WG x M lv (pc + 3) (.int (g_min a b) :: st)) : WG x M lv pc (.int b :: .int a :: st) := fun H locs ls hP hO hS hl => va_mmin X.1 X.2.1 hl.1.symm X.2.2.2.1 (X.hw q_229) (X.hw q_230) (X.hw q_34) (X.hw q_231) (by have := X.2.2.2.2.2.2.2.1; omega) (by have := X.2.2.2.2.2.2.2.2.1; omega) X.2.2.2.2.2.2.2.2.2.1 X.2.2.2.2.2.2.2.2.2.2.1 dec (go H locs ls hP hO hS hl)
theorem gc_X6_64 {x : GX} {cc : ByteArray} {nL d pc : Nat} {M : GM} {lv : List (Nat × Value)} {st : List Value} (X : GC x cc nL RX6 d) {i0 : Int32} {M1 : GM} {r : Int32} (hM : gMet (xl x) (xz x) yX6_firstMiddle cX6_firstMiddle 1 (some .int) 1 [.int i0] M (some (.int r)) M1) (hd : 2 ≤ d) (hsum : (st.map fun v => v.category).sum ≤ 8) (dec : decode cc pc = .ok (.invokestatic 64, 3)) (go : WG x M1 lv (pc + 3) (.int r :: st)) : WG x M lv pc (.int i0 :: st) := g_callS X (n := 1) (As := [.int i0]) (rest := st) hM q_232 q_233 q_21 q_234 (by decide +kernel) rfl hd (by decide) rfl hsum dec go
theorem gm_X6_68 {x : GX} {cc : ByteArray} {nL d pc : Nat} {M : GM} {lv : List (Nat × Value)} {st : List Value} (X : GC x cc nL RX6 d) {a b : Int32} (hd : 1 ≤ d) (hsum : (st.map fun v => v.category).sum ≤ 8) (dec : decode cc pc = .ok (.invokestatic 68, 3)) (go : WG x M lv (pc + 3) (.int (g_max a b) :: st)) : WG x M lv pc (.int b :: .int a :: st) := fun H locs ls hP hO hS hl => va_mmax X.1 X.2.1 hl.1.symm X.2.2.2.1 (X.hw q_238) (X.hw q_239) (X.hw q_34) (X.hw q_240) (by have := X.2.2.2.2.2.2.2.1; omega) (by have := X.2.2.2.2.2.2.2.2.1; omega) X.2.2.2.2.2.2.2.2.2.1 X.2.2.2.2.2.2.2.2.2.2.1 dec (go H locs ls hP hO hS hl)
theorem gc_X6_71 {x : GX} {cc : ByteArray} {nL d pc : Nat} {M : GM} {lv : List (Nat × Value)} {st : List Value} (X : GC x cc nL RX6 d) {i0 : Int32} {M1 : GM} {r : Int32} (hM : gMet (xl x) (xz x) yX6_lastMiddle cX6_lastMiddle 1 (some .int) 1 [.int i0] M (some (.int r)) M1) (hd : 2 ≤ d) (hsum : (st.map fun v => v.category).sum ≤ 8) (dec : decode cc pc = .ok (.invokestatic 71, 3)) (go : WG x M1 lv (pc + 3) (.int r :: st)) : WG x M lv pc (.int i0 :: st) := g_callS X (n := 1) (As := [.int i0]) (rest := st) hM q_241 q_242 q_21 q_243 (by decide +kernel) rfl hd (by decide) rfl hsum dec go
theorem gc_X6_74 {x : GX} {cc : ByteArray} {nL d pc : Nat} {M : GM} {lv : List (Nat × Value)} {st : List Value} (X : GC x cc nL RX6 d) {i0 : Int32} {i1 : Int32} {i2 : Int32} {i3 : Int32} {M1 : GM} {g : Nat} (ht : gT g = 0) (hM : gMet (xl x) (xz x) yX0_span cX0_span 5 none 1 [.ref (gad (xz x) g), .int i0, .int i1, .int i2, .int i3] M (none) M1) (hd : 2 ≤ d) (hsum : (st.map fun v => v.category).sum ≤ 8) (dec : decode cc pc = .ok (.invokevirtual 74, 3)) (go : WG x M1 lv (pc + 3) (st)) : WG x M lv pc (.int i3 :: .int i2 :: .int i1 :: .int i0 :: .ref (gad (xz x) g) :: st) := g_callV X (n := 4) (As := [.int i0, .int i1, .int i2, .int i3]) (rest := st) hM ht (by decide) (gE_0 ht) rfl q_244 q_245 q_246 q_22 q_247 (by decide +kernel) rfl hd (by decide) rfl hsum dec go
theorem dX6_take_0 : decode cX6_take 0 = .ok (.aload_n 1, 1) := by decide +kernel
theorem dX6_take_1 : decode cX6_take 1 = .ok (.invokevirtual 31, 3) := by decide +kernel
theorem dX6_take_4 : decode cX6_take 4 = .ok (.ifCond .ne 17, 3) := by decide +kernel
theorem dX6_take_7 : decode cX6_take 7 = .ok (.aload_n 2, 1) := by decide +kernel
theorem dX6_take_8 : decode cX6_take 8 = .ok (.invokevirtual 31, 3) := by decide +kernel
theorem dX6_take_11 : decode cX6_take 11 = .ok (.ifCond .ne 10, 3) := by decide +kernel
theorem dX6_take_14 : decode cX6_take 14 = .ok (.aload_n 3, 1) := by decide +kernel
theorem dX6_take_15 : decode cX6_take 15 = .ok (.invokevirtual 31, 3) := by decide +kernel
theorem dX6_take_18 : decode cX6_take 18 = .ok (.ifCond .eq 4, 3) := by decide +kernel
theorem dX6_take_21 : decode cX6_take 21 = .ok (.return_, 1) := by decide +kernel
theorem dX6_take_22 : decode cX6_take 22 = .ok (.aload_n 1, 1) := by decide +kernel
theorem dX6_take_23 : decode cX6_take 23 = .ok (.aload_n 2, 1) := by decide +kernel
theorem dX6_take_24 : decode cX6_take 24 = .ok (.aload_n 3, 1) := by decide +kernel
theorem dX6_take_25 : decode cX6_take 25 = .ok (.getfield 35, 3) := by decide +kernel
theorem dX6_take_28 : decode cX6_take 28 = .ok (.aload_n 3, 1) := by decide +kernel
theorem dX6_take_29 : decode cX6_take 29 = .ok (.getfield 39, 3) := by decide +kernel
theorem dX6_take_32 : decode cX6_take 32 = .ok (.invokestatic 42, 3) := by decide +kernel
theorem dX6_take_35 : decode cX6_take 35 = .ok (.lstore 5, 2) := by decide +kernel
theorem dX6_take_37 : decode cX6_take 37 = .ok (.lload 5, 2) := by decide +kernel
theorem dX6_take_39 : decode cX6_take 39 = .ok (.lconst 0, 1) := by decide +kernel
theorem dX6_take_40 : decode cX6_take 40 = .ok (.lcmp, 1) := by decide +kernel
theorem dX6_take_41 : decode cX6_take 41 = .ok (.ifCond .eq 15, 3) := by decide +kernel
theorem dX6_take_44 : decode cX6_take 44 = .ok (.lload 5, 2) := by decide +kernel
theorem dX6_take_46 : decode cX6_take 46 = .ok (.lconst 0, 1) := by decide +kernel
theorem dX6_take_47 : decode cX6_take 47 = .ok (.lcmp, 1) := by decide +kernel
theorem dX6_take_48 : decode cX6_take 48 = .ok (.ifCond .ge 9, 3) := by decide +kernel
theorem dX6_take_51 : decode cX6_take 51 = .ok (.iload 4, 2) := by decide +kernel
theorem dX6_take_53 : decode cX6_take 53 = .ok (.ifCond .ne 4, 3) := by decide +kernel
theorem dX6_take_56 : decode cX6_take 56 = .ok (.return_, 1) := by decide +kernel
theorem dX6_take_57 : decode cX6_take 57 = .ok (.aload_n 0, 1) := by decide +kernel
theorem dX6_take_58 : decode cX6_take 58 = .ok (.iconst 1, 1) := by decide +kernel
theorem dX6_take_59 : decode cX6_take 59 = .ok (.putfield 46, 3) := by decide +kernel
theorem dX6_take_62 : decode cX6_take 62 = .ok (.aload_n 0, 1) := by decide +kernel
theorem dX6_take_63 : decode cX6_take 63 = .ok (.lload 5, 2) := by decide +kernel
theorem dX6_take_65 : decode cX6_take 65 = .ok (.invokestatic 50, 3) := by decide +kernel
theorem dX6_take_68 : decode cX6_take 68 = .ok (.putfield 56, 3) := by decide +kernel
theorem dX6_take_71 : decode cX6_take 71 = .ok (.aload_n 0, 1) := by decide +kernel
theorem dX6_take_72 : decode cX6_take 72 = .ok (.aload_n 1, 1) := by decide +kernel
theorem dX6_take_73 : decode cX6_take 73 = .ok (.putfield 21, 3) := by decide +kernel
theorem dX6_take_76 : decode cX6_take 76 = .ok (.aload_n 0, 1) := by decide +kernel
theorem dX6_take_77 : decode cX6_take 77 = .ok (.lload 5, 2) := by decide +kernel
theorem dX6_take_79 : decode cX6_take 79 = .ok (.lconst 0, 1) := by decide +kernel
theorem dX6_take_80 : decode cX6_take 80 = .ok (.lcmp, 1) := by decide +kernel
theorem dX6_take_81 : decode cX6_take 81 = .ok (.ifCond .ge 7, 3) := by decide +kernel
theorem dX6_take_84 : decode cX6_take 84 = .ok (.aload_n 3, 1) := by decide +kernel
theorem dX6_take_85 : decode cX6_take 85 = .ok (.goto 4, 3) := by decide +kernel
theorem dX6_take_88 : decode cX6_take 88 = .ok (.aload_n 2, 1) := by decide +kernel
theorem dX6_take_89 : decode cX6_take 89 = .ok (.putfield 25, 3) := by decide +kernel
theorem dX6_take_92 : decode cX6_take 92 = .ok (.aload_n 0, 1) := by decide +kernel
theorem dX6_take_93 : decode cX6_take 93 = .ok (.lload 5, 2) := by decide +kernel
theorem dX6_take_95 : decode cX6_take 95 = .ok (.lconst 0, 1) := by decide +kernel
theorem dX6_take_96 : decode cX6_take 96 = .ok (.lcmp, 1) := by decide +kernel
theorem dX6_take_97 : decode cX6_take 97 = .ok (.ifCond .ge 7, 3) := by decide +kernel
theorem dX6_take_100 : decode cX6_take 100 = .ok (.aload_n 2, 1) := by decide +kernel
theorem dX6_take_101 : decode cX6_take 101 = .ok (.goto 4, 3) := by decide +kernel
theorem dX6_take_104 : decode cX6_take 104 = .ok (.aload_n 3, 1) := by decide +kernel
theorem dX6_take_105 : decode cX6_take 105 = .ok (.putfield 28, 3) := by decide +kernel
theorem dX6_take_108 : decode cX6_take 108 = .ok (.aload_n 0, 1) := by decide +kernel
theorem dX6_take_109 : decode cX6_take 109 = .ok (.getfield 12, 3) := by decide +kernel
theorem dX6_take_112 : decode cX6_take 112 = .ok (.aload_n 0, 1) := by decide +kernel
theorem dX6_take_113 : decode cX6_take 113 = .ok (.getfield 21, 3) := by decide +kernel
theorem dX6_take_116 : decode cX6_take 116 = .ok (.getfield 35, 3) := by decide +kernel
theorem dX6_take_119 : decode cX6_take 119 = .ok (.aload_n 0, 1) := by decide +kernel
theorem dX6_take_120 : decode cX6_take 120 = .ok (.getfield 25, 3) := by decide +kernel
theorem dX6_take_123 : decode cX6_take 123 = .ok (.getfield 35, 3) := by decide +kernel
theorem dX6_take_126 : decode cX6_take 126 = .ok (.aload_n 0, 1) := by decide +kernel
theorem dX6_take_127 : decode cX6_take 127 = .ok (.getfield 28, 3) := by decide +kernel
theorem dX6_take_130 : decode cX6_take 130 = .ok (.getfield 35, 3) := by decide +kernel
theorem dX6_take_133 : decode cX6_take 133 = .ok (.invokestatic 60, 3) := by decide +kernel
theorem dX6_take_136 : decode cX6_take 136 = .ok (.invokestatic 60, 3) := by decide +kernel
theorem dX6_take_139 : decode cX6_take 139 = .ok (.invokestatic 64, 3) := by decide +kernel
theorem dX6_take_142 : decode cX6_take 142 = .ok (.aload_n 0, 1) := by decide +kernel
theorem dX6_take_143 : decode cX6_take 143 = .ok (.getfield 21, 3) := by decide +kernel
theorem dX6_take_146 : decode cX6_take 146 = .ok (.getfield 39, 3) := by decide +kernel
theorem dX6_take_149 : decode cX6_take 149 = .ok (.aload_n 0, 1) := by decide +kernel
theorem dX6_take_150 : decode cX6_take 150 = .ok (.getfield 25, 3) := by decide +kernel
theorem dX6_take_153 : decode cX6_take 153 = .ok (.getfield 39, 3) := by decide +kernel
theorem dX6_take_156 : decode cX6_take 156 = .ok (.aload_n 0, 1) := by decide +kernel
theorem dX6_take_157 : decode cX6_take 157 = .ok (.getfield 28, 3) := by decide +kernel
theorem dX6_take_160 : decode cX6_take 160 = .ok (.getfield 39, 3) := by decide +kernel
theorem dX6_take_163 : decode cX6_take 163 = .ok (.invokestatic 60, 3) := by decide +kernel
theorem dX6_take_166 : decode cX6_take 166 = .ok (.invokestatic 60, 3) := by decide +kernel
theorem dX6_take_169 : decode cX6_take 169 = .ok (.invokestatic 64, 3) := by decide +kernel
theorem dX6_take_172 : decode cX6_take 172 = .ok (.aload_n 0, 1) := by decide +kernel
theorem dX6_take_173 : decode cX6_take 173 = .ok (.getfield 21, 3) := by decide +kernel
theorem dX6_take_176 : decode cX6_take 176 = .ok (.getfield 35, 3) := by decide +kernel
theorem dX6_take_179 : decode cX6_take 179 = .ok (.aload_n 0, 1) := by decide +kernel
theorem dX6_take_180 : decode cX6_take 180 = .ok (.getfield 25, 3) := by decide +kernel
theorem dX6_take_183 : decode cX6_take 183 = .ok (.getfield 35, 3) := by decide +kernel
theorem dX6_take_186 : decode cX6_take 186 = .ok (.aload_n 0, 1) := by decide +kernel
theorem dX6_take_187 : decode cX6_take 187 = .ok (.getfield 28, 3) := by decide +kernel
theorem dX6_take_190 : decode cX6_take 190 = .ok (.getfield 35, 3) := by decide +kernel
theorem dX6_take_193 : decode cX6_take 193 = .ok (.invokestatic 68, 3) := by decide +kernel
theorem dX6_take_196 : decode cX6_take 196 = .ok (.invokestatic 68, 3) := by decide +kernel
theorem dX6_take_199 : decode cX6_take 199 = .ok (.invokestatic 71, 3) := by decide +kernel
theorem dX6_take_202 : decode cX6_take 202 = .ok (.aload_n 0, 1) := by decide +kernel
theorem dX6_take_203 : decode cX6_take 203 = .ok (.getfield 21, 3) := by decide +kernel
theorem dX6_take_206 : decode cX6_take 206 = .ok (.getfield 39, 3) := by decide +kernel
theorem dX6_take_209 : decode cX6_take 209 = .ok (.aload_n 0, 1) := by decide +kernel
theorem dX6_take_210 : decode cX6_take 210 = .ok (.getfield 25, 3) := by decide +kernel
theorem dX6_take_213 : decode cX6_take 213 = .ok (.getfield 39, 3) := by decide +kernel
theorem dX6_take_216 : decode cX6_take 216 = .ok (.aload_n 0, 1) := by decide +kernel
theorem dX6_take_217 : decode cX6_take 217 = .ok (.getfield 28, 3) := by decide +kernel
theorem dX6_take_220 : decode cX6_take 220 = .ok (.getfield 39, 3) := by decide +kernel
theorem dX6_take_223 : decode cX6_take 223 = .ok (.invokestatic 68, 3) := by decide +kernel
theorem dX6_take_226 : decode cX6_take 226 = .ok (.invokestatic 68, 3) := by decide +kernel
theorem dX6_take_229 : decode cX6_take 229 = .ok (.invokestatic 71, 3) := by decide +kernel
theorem dX6_take_232 : decode cX6_take 232 = .ok (.invokevirtual 74, 3) := by decide +kernel
theorem dX6_take_235 : decode cX6_take 235 = .ok (.return_, 1) := by decide +kernel
def bk_X6_take_105 (F : Nat) (p31 : Nat) (p33 : Nat) (p35 : Nat) (M : GM) : Option GM := bnd (sP M p35 3 p33) (fun M37 => bndO (f_X6_firstMiddle F (g_min (gI M37 (gP M37 p31 1) 8) (g_min (gI M37 (gP M37 p31 2) 8) (gI M37 (gP M37 p31 3) 8))) M37) (fun v43 => bndO (f_X6_firstMiddle F (g_min (gI M37 (gP M37 p31 1) 9) (g_min (gI M37 (gP M37 p31 2) 9) (gI M37 (gP M37 p31 3) 9))) M37) (fun v48 => bndO (f_X6_lastMiddle F (g_max (gI M37 (gP M37 p31 1) 8) (g_max (gI M37 (gP M37 p31 2) 8) (gI M37 (gP M37 p31 3) 8))) M37) (fun v53 => bndO (f_X6_lastMiddle F (g_max (gI M37 (gP M37 p31 1) 9) (g_max (gI M37 (gP M37 p31 2) 9) (gI M37 (gP M37 p31 3) 9))) M37) (fun v58 => bnd (f_X0_span (p31 + 1) v43 v48 v53 v58 M37) (fun M59 => some M59))))))
set_option maxHeartbeats 4000000 in
set_option maxRecDepth 100000 in
theorem bw_X6_take_105 {x : GX} (X : GC x cX6_take 7 RX6 2) {p31 : Nat} {p33 : Nat} {p35 : Nat}  (k32 : gT p31 = 6) (k34 : gT p33 = 9) (k36 : gT p35 = 6) {F : Nat} {M : GM} {r9 : GM} (hR : ∀ (M9 : GM) (lv9 : List (Nat × Value)) (pc9 : Nat), r9 = M9 → decode cX6_take pc9 = .ok (.return_, 1) → WG x M9 lv9 pc9 []) (h : bk_X6_take_105 F p31 p33 p35 M = some r9) : WG x M [(0, .ref (gad (xz x) p31))] 105 [.ref (gad (xz x) p33), .ref (gad (xz x) p35)] := by
  unfold bk_X6_take_105 at h
  refine gp_X6_28 X k36 k34 dX6_take_105 ?_
  refine g_mem (fun M37 e38 => ?_)
  have h := bnd_e e38 h
  refine g_aload_n X (j := 0) dX6_take_108 rfl rfl ?_
  refine gf_X6_12 X k32 dX6_take_109 ?_
  refine g_aload_n X (j := 0) dX6_take_112 rfl rfl ?_
  refine gf_X6_21 X k32 dX6_take_113 (fun k39 => ?_)
  refine gf_X6_35 X k39 dX6_take_116 ?_
  refine g_aload_n X (j := 0) dX6_take_119 rfl rfl ?_
  refine gf_X6_25 X k32 dX6_take_120 (fun k40 => ?_)
  refine gf_X6_35 X k40 dX6_take_123 ?_
  refine g_aload_n X (j := 0) dX6_take_126 rfl rfl ?_
  refine gf_X6_28 X k32 dX6_take_127 (fun k41 => ?_)
  refine gf_X6_35 X k41 dX6_take_130 ?_
  refine gm_X6_60 X (by decide) (Nat.le_of_ble_eq_true rfl) dX6_take_133 ?_
  refine gm_X6_60 X (by decide) (Nat.le_of_ble_eq_true rfl) dX6_take_136 ?_
  obtain ⟨v43, hc42, h⟩ := bndO_e h
  refine gc_X6_64 X (ct_X6_firstMiddle X.htr  hc42) (by decide) (Nat.le_of_ble_eq_true rfl) dX6_take_139 ?_
  refine g_aload_n X (j := 0) dX6_take_142 rfl rfl ?_
  refine gf_X6_21 X k32 dX6_take_143 (fun k44 => ?_)
  refine gf_X6_39 X k44 dX6_take_146 ?_
  refine g_aload_n X (j := 0) dX6_take_149 rfl rfl ?_
  refine gf_X6_25 X k32 dX6_take_150 (fun k45 => ?_)
  refine gf_X6_39 X k45 dX6_take_153 ?_
  refine g_aload_n X (j := 0) dX6_take_156 rfl rfl ?_
  refine gf_X6_28 X k32 dX6_take_157 (fun k46 => ?_)
  refine gf_X6_39 X k46 dX6_take_160 ?_
  refine gm_X6_60 X (by decide) (Nat.le_of_ble_eq_true rfl) dX6_take_163 ?_
  refine gm_X6_60 X (by decide) (Nat.le_of_ble_eq_true rfl) dX6_take_166 ?_
  obtain ⟨v48, hc47, h⟩ := bndO_e h
  refine gc_X6_64 X (ct_X6_firstMiddle X.htr  hc47) (by decide) (Nat.le_of_ble_eq_true rfl) dX6_take_169 ?_
  refine g_aload_n X (j := 0) dX6_take_172 rfl rfl ?_
  refine gf_X6_21 X k32 dX6_take_173 (fun k49 => ?_)
  refine gf_X6_35 X k49 dX6_take_176 ?_
  refine g_aload_n X (j := 0) dX6_take_179 rfl rfl ?_
  refine gf_X6_25 X k32 dX6_take_180 (fun k50 => ?_)
  refine gf_X6_35 X k50 dX6_take_183 ?_
  refine g_aload_n X (j := 0) dX6_take_186 rfl rfl ?_
  refine gf_X6_28 X k32 dX6_take_187 (fun k51 => ?_)
  refine gf_X6_35 X k51 dX6_take_190 ?_
  refine gm_X6_68 X (by decide) (Nat.le_of_ble_eq_true rfl) dX6_take_193 ?_
  refine gm_X6_68 X (by decide) (Nat.le_of_ble_eq_true rfl) dX6_take_196 ?_
  obtain ⟨v53, hc52, h⟩ := bndO_e h
  refine gc_X6_71 X (ct_X6_lastMiddle X.htr  hc52) (by decide) (Nat.le_of_ble_eq_true rfl) dX6_take_199 ?_
  refine g_aload_n X (j := 0) dX6_take_202 rfl rfl ?_
  refine gf_X6_21 X k32 dX6_take_203 (fun k54 => ?_)
  refine gf_X6_39 X k54 dX6_take_206 ?_
  refine g_aload_n X (j := 0) dX6_take_209 rfl rfl ?_
  refine gf_X6_25 X k32 dX6_take_210 (fun k55 => ?_)
  refine gf_X6_39 X k55 dX6_take_213 ?_
  refine g_aload_n X (j := 0) dX6_take_216 rfl rfl ?_
  refine gf_X6_28 X k32 dX6_take_217 (fun k56 => ?_)
  refine gf_X6_39 X k56 dX6_take_220 ?_
  refine gm_X6_68 X (by decide) (Nat.le_of_ble_eq_true rfl) dX6_take_223 ?_
  refine gm_X6_68 X (by decide) (Nat.le_of_ble_eq_true rfl) dX6_take_226 ?_
  obtain ⟨v58, hc57, h⟩ := bndO_e h
  refine gc_X6_71 X (ct_X6_lastMiddle X.htr  hc57) (by decide) (Nat.le_of_ble_eq_true rfl) dX6_take_229 ?_
  refine gc_X6_74 X (gT_6_box k32) (ct_X0_span X.htr (gT_6_box k32)) (by decide) (Nat.le_of_ble_eq_true rfl) dX6_take_232 ?_
  refine g_mem (fun M59 e60 => ?_)
  have h := bnd_e e60 h
  exact hR M59 _ _ (Option.some.inj h).symm dX6_take_235
def bk_X6_take_89 (F : Nat) (p18 : Nat) (p20 : Nat) (p22 : Nat) (b24 : Int64) (p25 : Nat) (p27 : Nat) (M : GM) : Option GM := bnd (sP M p27 2 p25) (fun M29 => if 0 ≤ (lg_cmp b24 (0 : Int64)) then (bk_X6_take_105 F p18 p22 p18 M29) else (bk_X6_take_105 F p18 p20 p18 M29))
set_option maxHeartbeats 4000000 in
set_option maxRecDepth 100000 in
theorem bw_X6_take_89 {x : GX} (X : GC x cX6_take 7 RX6 2) {p18 : Nat} {p20 : Nat} {p22 : Nat} {b24 : Int64} {p25 : Nat} {p27 : Nat}  (k19 : gT p18 = 6) (k21 : gT p20 = 9) (k23 : gT p22 = 9) (k26 : gT p25 = 9) (k28 : gT p27 = 6) {F : Nat} {M : GM} {r9 : GM} (hR : ∀ (M9 : GM) (lv9 : List (Nat × Value)) (pc9 : Nat), r9 = M9 → decode cX6_take pc9 = .ok (.return_, 1) → WG x M9 lv9 pc9 []) (h : bk_X6_take_89 F p18 p20 p22 b24 p25 p27 M = some r9) : WG x M [(0, .ref (gad (xz x) p18)), (2, .ref (gad (xz x) p20)), (3, .ref (gad (xz x) p22)), (5, .long b24)] 89 [.ref (gad (xz x) p25), .ref (gad (xz x) p27)] := by
  unfold bk_X6_take_89 at h
  refine gp_X6_25 X k28 k26 dX6_take_89 ?_
  refine g_mem (fun M29 e30 => ?_)
  have h := bnd_e e30 h
  refine g_aload_n X (j := 0) dX6_take_92 rfl rfl ?_
  refine g_lload X (j := 3) dX6_take_93 rfl ?_
  refine g_lconst X (v := 0) dX6_take_95 (by decide) ?_
  refine g_lcmp X dX6_take_96 ?_
  refine g_if_ge X (tgt := 104) dX6_take_97 (by decide) (fun hb => ?_) (fun hb => ?_)
  · have h := ite_t hb h
    refine g_aload_n X (j := 2) dX6_take_104 rfl rfl ?_
    refine g_lv [0] rfl ?_
    exact bw_X6_take_105 X k19 k23 k19 hR h
  · have h := ite_f hb h
    refine g_aload_n X (j := 1) dX6_take_100 rfl rfl ?_
    refine g_goto X (tgt := 105) dX6_take_101 (by decide) ?_
    refine g_lv [0] rfl ?_
    exact bw_X6_take_105 X k19 k21 k19 hR h
def bk_X6_take_57 (F : Nat) (p3 : Nat) (p5 : Nat) (p7 : Nat) (p9 : Nat) (b11 : Int64) (M : GM) : Option GM := bnd (sI M p3 5 (1 : Int32)) (fun M12 => bnd (sL M12 p3 4 (g_abs b11)) (fun M14 => bnd (sP M14 p3 1 p5) (fun M16 => if 0 ≤ (lg_cmp b11 (0 : Int64)) then (bk_X6_take_89 F p3 p7 p9 b11 p7 p3 M16) else (bk_X6_take_89 F p3 p7 p9 b11 p9 p3 M16))))
set_option maxHeartbeats 4000000 in
set_option maxRecDepth 100000 in
theorem bw_X6_take_57 {x : GX} (X : GC x cX6_take 7 RX6 2) {p3 : Nat} {p5 : Nat} {p7 : Nat} {p9 : Nat} {b11 : Int64}  (k4 : gT p3 = 6) (k6 : gT p5 = 9) (k8 : gT p7 = 9) (k10 : gT p9 = 9) {F : Nat} {M : GM} {r9 : GM} (hR : ∀ (M9 : GM) (lv9 : List (Nat × Value)) (pc9 : Nat), r9 = M9 → decode cX6_take pc9 = .ok (.return_, 1) → WG x M9 lv9 pc9 []) (h : bk_X6_take_57 F p3 p5 p7 p9 b11 M = some r9) : WG x M [(0, .ref (gad (xz x) p3)), (1, .ref (gad (xz x) p5)), (2, .ref (gad (xz x) p7)), (3, .ref (gad (xz x) p9)), (5, .long b11)] 57 [] := by
  unfold bk_X6_take_57 at h
  refine g_aload_n X (j := 0) dX6_take_57 rfl rfl ?_
  refine g_iconst X (v := 1) dX6_take_58 (by decide) ?_
  refine gp_X6_46 X k4 (Or.inr rfl) dX6_take_59 ?_
  refine g_mem (fun M12 e13 => ?_)
  have h := bnd_e e13 h
  refine g_aload_n X (j := 0) dX6_take_62 rfl rfl ?_
  refine g_lload X (j := 4) dX6_take_63 rfl ?_
  refine gm_X6_50 X (by decide) (Nat.le_of_ble_eq_true rfl) dX6_take_65 ?_
  refine gp_X6_56 X k4 dX6_take_68 ?_
  refine g_mem (fun M14 e15 => ?_)
  have h := bnd_e e15 h
  refine g_aload_n X (j := 0) dX6_take_71 rfl rfl ?_
  refine g_aload_n X (j := 1) dX6_take_72 rfl rfl ?_
  refine gp_X6_21 X k4 k6 dX6_take_73 ?_
  refine g_mem (fun M16 e17 => ?_)
  have h := bnd_e e17 h
  refine g_aload_n X (j := 0) dX6_take_76 rfl rfl ?_
  refine g_lload X (j := 4) dX6_take_77 rfl ?_
  refine g_lconst X (v := 0) dX6_take_79 (by decide) ?_
  refine g_lcmp X dX6_take_80 ?_
  refine g_if_ge X (tgt := 88) dX6_take_81 (by decide) (fun hb => ?_) (fun hb => ?_)
  · have h := ite_t hb h
    refine g_aload_n X (j := 2) dX6_take_88 rfl rfl ?_
    refine g_lv [0, 2, 3, 4] rfl ?_
    exact bw_X6_take_89 X k4 k8 k10 k8 k4 hR h
  · have h := ite_f hb h
    refine g_aload_n X (j := 3) dX6_take_84 rfl rfl ?_
    refine g_goto X (tgt := 89) dX6_take_85 (by decide) ?_
    refine g_lv [0, 2, 3, 4] rfl ?_
    exact bw_X6_take_89 X k4 k8 k10 k10 k4 hR h
def f_X6_take (F : Nat) (t0 : Nat) (p0 : Nat) (p1 : Nat) (p2 : Nat) (i3 : Int32) (M : GM) : Option GM := if (f_X9_isFarOut p0 M) = 0 then (if (f_X9_isFarOut p1 M) = 0 then (if (f_X9_isFarOut p2 M) = 0 then (bnd (f_X6_turn p0 p1 (gI M p2 8) (gI M p2 9) M) (fun w1 => if (lg_cmp w1 (0 : Int64)) = 0 then (some M) else (if 0 ≤ (lg_cmp w1 (0 : Int64)) then (bk_X6_take_57 F t0 p0 p1 p2 w1 M) else (if i3 = 0 then (some M) else (bk_X6_take_57 F t0 p0 p1 p2 w1 M))))) else (some M)) else (some M)) else (some M)
set_option maxHeartbeats 4000000 in
set_option maxRecDepth 100000 in
theorem w_X6_take {x : GX} (X : GC x cX6_take 7 RX6 2) {t0 : Nat} {p0 : Nat} {p1 : Nat} {p2 : Nat} {i3 : Int32} (h0 : gT t0 = 6) (h1 : gT p0 = 9) (h2 : gT p1 = 9) (h3 : gT p2 = 9) {F : Nat} {M : GM} {r9 : GM} (hR : ∀ (M9 : GM) (lv9 : List (Nat × Value)) (pc9 : Nat), r9 = M9 → decode cX6_take pc9 = .ok (.return_, 1) → WG x M9 lv9 pc9 []) (h : f_X6_take F t0 p0 p1 p2 i3 M = some r9) : WG x M [(0, .ref (gad (xz x) t0)), (1, .ref (gad (xz x) p0)), (2, .ref (gad (xz x) p1)), (3, .ref (gad (xz x) p2)), (4, .int i3)] 0 [] := by
  unfold f_X6_take at h
  refine g_aload_n X (j := 1) dX6_take_0 rfl rfl ?_
  refine gc_X6_31 X h1 (ct_X9_isFarOut X.htr h1) (by decide) (Nat.le_of_ble_eq_true rfl) dX6_take_1 ?_
  refine g_if_ne X (tgt := 21) dX6_take_4 (by decide) (fun hb => ?_) (fun hb => ?_)
  · have h := ite_f hb h
    exact hR M _ _ (Option.some.inj h).symm dX6_take_21
  · have h := ite_t hb h
    refine g_aload_n X (j := 2) dX6_take_7 rfl rfl ?_
    refine gc_X6_31 X h2 (ct_X9_isFarOut X.htr h2) (by decide) (Nat.le_of_ble_eq_true rfl) dX6_take_8 ?_
    refine g_if_ne X (tgt := 21) dX6_take_11 (by decide) (fun hb => ?_) (fun hb => ?_)
    · have h := ite_f hb h
      exact hR M _ _ (Option.some.inj h).symm dX6_take_21
    · have h := ite_t hb h
      refine g_aload_n X (j := 3) dX6_take_14 rfl rfl ?_
      refine gc_X6_31 X h3 (ct_X9_isFarOut X.htr h3) (by decide) (Nat.le_of_ble_eq_true rfl) dX6_take_15 ?_
      refine g_if_eq X (tgt := 22) dX6_take_18 (by decide) (fun hb => ?_) (fun hb => ?_)
      · have h := ite_t hb h
        refine g_aload_n X (j := 1) dX6_take_22 rfl rfl ?_
        refine g_aload_n X (j := 2) dX6_take_23 rfl rfl ?_
        refine g_aload_n X (j := 3) dX6_take_24 rfl rfl ?_
        refine gf_X6_35 X h3 dX6_take_25 ?_
        refine g_aload_n X (j := 3) dX6_take_28 rfl rfl ?_
        refine gf_X6_39 X h3 dX6_take_29 ?_
        refine gc_X6_42 X (ct_X6_turn X.htr h1 h2) (by decide) (Nat.le_of_ble_eq_true rfl) dX6_take_32 ?_
        refine g_topl (fun w1 e2 => ?_)
        have h := bnd_e e2 h
        refine g_lstore X (lv' := [(5, .long w1), (0, .ref (gad (xz x) t0)), (1, .ref (gad (xz x) p0)), (2, .ref (gad (xz x) p1)), (3, .ref (gad (xz x) p2)), (4, .int i3)]) dX6_take_35 (by decide) rfl ?_
        refine g_lload X (j := 0) dX6_take_37 rfl ?_
        refine g_lconst X (v := 0) dX6_take_39 (by decide) ?_
        refine g_lcmp X dX6_take_40 ?_
        refine g_if_eq X (tgt := 56) dX6_take_41 (by decide) (fun hb => ?_) (fun hb => ?_)
        · have h := ite_t hb h
          exact hR M _ _ (Option.some.inj h).symm dX6_take_56
        · have h := ite_f hb h
          refine g_lload X (j := 0) dX6_take_44 rfl ?_
          refine g_lconst X (v := 0) dX6_take_46 (by decide) ?_
          refine g_lcmp X dX6_take_47 ?_
          refine g_if_ge X (tgt := 57) dX6_take_48 (by decide) (fun hb => ?_) (fun hb => ?_)
          · have h := ite_t hb h
            refine g_lv [1, 2, 3, 4, 0] rfl ?_
            exact bw_X6_take_57 X h0 h1 h2 h3 hR h
          · have h := ite_f hb h
            refine g_iload X (j := 5) dX6_take_51 rfl ?_
            refine g_if_ne X (tgt := 57) dX6_take_53 (by decide) (fun hb => ?_) (fun hb => ?_)
            · have h := ite_f hb h
              refine g_lv [1, 2, 3, 4, 0] rfl ?_
              exact bw_X6_take_57 X h0 h1 h2 h3 hR h
            · have h := ite_t hb h
              exact hR M _ _ (Option.some.inj h).symm dX6_take_56
      · have h := ite_f hb h
        exact hR M _ _ (Option.some.inj h).symm dX6_take_21
theorem ct_X6_take {l : Launch} {z : GZ} (htr : l.stackTraces = false) {t0 : Nat} {p0 : Nat} {p1 : Nat} {p2 : Nat} {i3 : Int32} (h0 : gT t0 = 6) (h1 : gT p0 = 9) (h2 : gT p1 = 9) (h3 : gT p2 = 9) {M : GM} {F : Nat} {M1 : GM} (h : f_X6_take F t0 p0 p1 p2 i3 M = some M1) : gMet l z yX6_take cX6_take 7 none 2 [.ref (gad z t0), .ref (gad z p0), .ref (gad z p1), .ref (gad z p2), .int i3] M (none) M1 := gMet_ofV (by decide +kernel) (Nat.le_of_ble_eq_true rfl) htr (fun x X ez el hR => by subst ez; subst el; exact w_X6_take X h0 h1 h2 h3 (fun M9 lv9 pc9 e9 d9 => by cases e9; exact hR lv9 pc9 d9) h)
theorem dX6_isInside_0 : decode cX6_isInside 0 = .ok (.lload_n 0, 1) := by decide +kernel
theorem dX6_isInside_1 : decode cX6_isInside 1 = .ok (.lconst 0, 1) := by decide +kernel
theorem dX6_isInside_2 : decode cX6_isInside 2 = .ok (.lcmp, 1) := by decide +kernel
theorem dX6_isInside_3 : decode cX6_isInside 3 = .ok (.ifCond .gt 42, 3) := by decide +kernel
theorem dX6_isInside_6 : decode cX6_isInside 6 = .ok (.lload_n 0, 1) := by decide +kernel
theorem dX6_isInside_7 : decode cX6_isInside 7 = .ok (.lconst 0, 1) := by decide +kernel
theorem dX6_isInside_8 : decode cX6_isInside 8 = .ok (.lcmp, 1) := by decide +kernel
theorem dX6_isInside_9 : decode cX6_isInside 9 = .ok (.ifCond .ne 40, 3) := by decide +kernel
theorem dX6_isInside_12 : decode cX6_isInside 12 = .ok (.aload_n 3, 1) := by decide +kernel
theorem dX6_isInside_13 : decode cX6_isInside 13 = .ok (.getfield 39, 3) := by decide +kernel
theorem dX6_isInside_16 : decode cX6_isInside 16 = .ok (.aload_n 2, 1) := by decide +kernel
theorem dX6_isInside_17 : decode cX6_isInside 17 = .ok (.getfield 39, 3) := by decide +kernel
theorem dX6_isInside_20 : decode cX6_isInside 20 = .ok (.if_icmp .lt 25, 3) := by decide +kernel
theorem dX6_isInside_23 : decode cX6_isInside 23 = .ok (.aload_n 3, 1) := by decide +kernel
theorem dX6_isInside_24 : decode cX6_isInside 24 = .ok (.getfield 39, 3) := by decide +kernel
theorem dX6_isInside_27 : decode cX6_isInside 27 = .ok (.aload_n 2, 1) := by decide +kernel
theorem dX6_isInside_28 : decode cX6_isInside 28 = .ok (.getfield 39, 3) := by decide +kernel
theorem dX6_isInside_31 : decode cX6_isInside 31 = .ok (.if_icmp .ne 18, 3) := by decide +kernel
theorem dX6_isInside_34 : decode cX6_isInside 34 = .ok (.aload_n 3, 1) := by decide +kernel
theorem dX6_isInside_35 : decode cX6_isInside 35 = .ok (.getfield 35, 3) := by decide +kernel
theorem dX6_isInside_38 : decode cX6_isInside 38 = .ok (.aload_n 2, 1) := by decide +kernel
theorem dX6_isInside_39 : decode cX6_isInside 39 = .ok (.getfield 35, 3) := by decide +kernel
theorem dX6_isInside_42 : decode cX6_isInside 42 = .ok (.if_icmp .le 7, 3) := by decide +kernel
theorem dX6_isInside_45 : decode cX6_isInside 45 = .ok (.iconst 1, 1) := by decide +kernel
theorem dX6_isInside_46 : decode cX6_isInside 46 = .ok (.goto 4, 3) := by decide +kernel
theorem dX6_isInside_49 : decode cX6_isInside 49 = .ok (.iconst 0, 1) := by decide +kernel
theorem dX6_isInside_50 : decode cX6_isInside 50 = .ok (.ireturn, 1) := by decide +kernel
def f_X6_isInside (j0 : Int64) (p1 : Nat) (p2 : Nat) (M : GM) : Int32 := if 0 < (lg_cmp j0 (0 : Int64)) then ((1 : Int32)) else (if (lg_cmp j0 (0 : Int64)) = 0 then (if (gI M p2 9) < (gI M p1 9) then ((1 : Int32)) else (if (gI M p2 9) = (gI M p1 9) then (if (gI M p2 8) ≤ (gI M p1 8) then ((0 : Int32)) else ((1 : Int32))) else ((0 : Int32)))) else ((0 : Int32)))
set_option maxHeartbeats 4000000 in
set_option maxRecDepth 100000 in
theorem w_X6_isInside {x : GX} (X : GC x cX6_isInside 4 RX6 0) {j0 : Int64} {p1 : Nat} {p2 : Nat} (h2 : gT p1 = 9) (h3 : gT p2 = 9) {M : GM} {r9 : Int32} (hR : ∀ (v9 : Int32) (lv9 : List (Nat × Value)) (pc9 : Nat), r9 = v9 → (v9 = 0 ∨ v9 = 1) → decode cX6_isInside pc9 = .ok (.ireturn, 1) → WG x M lv9 pc9 [.int v9]) (h : f_X6_isInside j0 p1 p2 M = r9) : WG x M [(0, .long j0), (2, .ref (gad (xz x) p1)), (3, .ref (gad (xz x) p2))] 0 [] := by
  unfold f_X6_isInside at h
  refine g_lload_n X (j := 0) dX6_isInside_0 rfl rfl ?_
  refine g_lconst X (v := 0) dX6_isInside_1 (by decide) ?_
  refine g_lcmp X dX6_isInside_2 ?_
  refine g_if_gt X (tgt := 45) dX6_isInside_3 (by decide) (fun hb => ?_) (fun hb => ?_)
  · have h := ite_t hb h
    refine g_iconst X (v := 1) dX6_isInside_45 (by decide) ?_
    refine g_goto X (tgt := 50) dX6_isInside_46 (by decide) ?_
    exact hR (1 : Int32) _ _ h.symm (Or.inr rfl) dX6_isInside_50
  · have h := ite_f hb h
    refine g_lload_n X (j := 0) dX6_isInside_6 rfl rfl ?_
    refine g_lconst X (v := 0) dX6_isInside_7 (by decide) ?_
    refine g_lcmp X dX6_isInside_8 ?_
    refine g_if_ne X (tgt := 49) dX6_isInside_9 (by decide) (fun hb => ?_) (fun hb => ?_)
    · have h := ite_f hb h
      refine g_iconst X (v := 0) dX6_isInside_49 (by decide) ?_
      exact hR (0 : Int32) _ _ h.symm (Or.inl rfl) dX6_isInside_50
    · have h := ite_t hb h
      refine g_aload_n X (j := 2) dX6_isInside_12 rfl rfl ?_
      refine gf_X6_39 X h3 dX6_isInside_13 ?_
      refine g_aload_n X (j := 1) dX6_isInside_16 rfl rfl ?_
      refine gf_X6_39 X h2 dX6_isInside_17 ?_
      refine g_icmp_lt X (tgt := 45) dX6_isInside_20 (by decide) (fun hb => ?_) (fun hb => ?_)
      · have h := ite_t hb h
        refine g_iconst X (v := 1) dX6_isInside_45 (by decide) ?_
        refine g_goto X (tgt := 50) dX6_isInside_46 (by decide) ?_
        exact hR (1 : Int32) _ _ h.symm (Or.inr rfl) dX6_isInside_50
      · have h := ite_f hb h
        refine g_aload_n X (j := 2) dX6_isInside_23 rfl rfl ?_
        refine gf_X6_39 X h3 dX6_isInside_24 ?_
        refine g_aload_n X (j := 1) dX6_isInside_27 rfl rfl ?_
        refine gf_X6_39 X h2 dX6_isInside_28 ?_
        refine g_icmp_ne X (tgt := 49) dX6_isInside_31 (by decide) (fun hb => ?_) (fun hb => ?_)
        · have h := ite_f hb h
          refine g_iconst X (v := 0) dX6_isInside_49 (by decide) ?_
          exact hR (0 : Int32) _ _ h.symm (Or.inl rfl) dX6_isInside_50
        · have h := ite_t hb h
          refine g_aload_n X (j := 2) dX6_isInside_34 rfl rfl ?_
          refine gf_X6_35 X h3 dX6_isInside_35 ?_
          refine g_aload_n X (j := 1) dX6_isInside_38 rfl rfl ?_
          refine gf_X6_35 X h2 dX6_isInside_39 ?_
          refine g_icmp_le X (tgt := 49) dX6_isInside_42 (by decide) (fun hb => ?_) (fun hb => ?_)
          · have h := ite_t hb h
            refine g_iconst X (v := 0) dX6_isInside_49 (by decide) ?_
            exact hR (0 : Int32) _ _ h.symm (Or.inl rfl) dX6_isInside_50
          · have h := ite_f hb h
            refine g_iconst X (v := 1) dX6_isInside_45 (by decide) ?_
            refine g_goto X (tgt := 50) dX6_isInside_46 (by decide) ?_
            exact hR (1 : Int32) _ _ h.symm (Or.inr rfl) dX6_isInside_50
theorem ct_X6_isInside {l : Launch} {z : GZ} (htr : l.stackTraces = false) {j0 : Int64} {p1 : Nat} {p2 : Nat} (h2 : gT p1 = 9) (h3 : gT p2 = 9) {M : GM} : gMet l z yX6_isInside cX6_isInside 4 (some .boolean) 0 [.long j0, .ref (gad z p1), .ref (gad z p2)] M (some (.int (f_X6_isInside j0 p1 p2 M))) M := gMet_ofZ (by decide +kernel) (Nat.le_of_ble_eq_true rfl) htr (fun x X ez el hR => by subst ez; subst el; exact w_X6_isInside X h2 h3 (fun v9 lv9 pc9 e9 z9 d9 => by cases e9; exact hR lv9 pc9 z9 d9) rfl)
theorem fz_X6_isInside (j0 : Int64) (p1 : Nat) (p2 : Nat) (M : GM) : f_X6_isInside j0 p1 p2 M = 0 ∨ f_X6_isInside j0 p1 p2 M = 1 := by
  unfold f_X6_isInside
  repeat' split
  all_goals first | exact Or.inl rfl | exact Or.inr rfl | exact fz_X10_isWithin _ _ _
theorem gc_X6_84 {x : GX} {cc : ByteArray} {nL d pc : Nat} {M : GM} {lv : List (Nat × Value)} {st : List Value} (X : GC x cc nL RX6 d) {i0 : Int64} {i1 : Nat} {i2 : Nat} {M1 : GM} {r : Int32} (hM : gMet (xl x) (xz x) yX6_isInside cX6_isInside 4 (some .boolean) 0 [.long i0, .ref (gad (xz x) i1), .ref (gad (xz x) i2)] M (some (.int r)) M1) (hd : 1 ≤ d) (hsum : (st.map fun v => v.category).sum ≤ 8) (dec : decode cc pc = .ok (.invokestatic 84, 3)) (go : WG x M1 lv (pc + 3) (.int r :: st)) : WG x M lv pc (.ref (gad (xz x) i2) :: .ref (gad (xz x) i1) :: .long i0 :: st) := g_callS X (n := 3) (As := [.long i0, .ref (gad (xz x) i1), .ref (gad (xz x) i2)]) (rest := st) hM q_271 q_272 q_21 q_273 (by decide +kernel) rfl hd (by decide) rfl hsum dec go
theorem dX6_holds_0 : decode cX6_holds 0 = .ok (.bipush 16, 2) := by decide +kernel
theorem dX6_holds_2 : decode cX6_holds 2 = .ok (.iload_n 1, 1) := by decide +kernel
theorem dX6_holds_3 : decode cX6_holds 3 = .ok (.imul, 1) := by decide +kernel
theorem dX6_holds_4 : decode cX6_holds 4 = .ok (.bipush 8, 2) := by decide +kernel
theorem dX6_holds_6 : decode cX6_holds 6 = .ok (.iadd, 1) := by decide +kernel
theorem dX6_holds_7 : decode cX6_holds 7 = .ok (.istore_n 3, 1) := by decide +kernel
theorem dX6_holds_8 : decode cX6_holds 8 = .ok (.bipush 16, 2) := by decide +kernel
theorem dX6_holds_10 : decode cX6_holds 10 = .ok (.iload_n 2, 1) := by decide +kernel
theorem dX6_holds_11 : decode cX6_holds 11 = .ok (.imul, 1) := by decide +kernel
theorem dX6_holds_12 : decode cX6_holds 12 = .ok (.bipush 8, 2) := by decide +kernel
theorem dX6_holds_14 : decode cX6_holds 14 = .ok (.iadd, 1) := by decide +kernel
theorem dX6_holds_15 : decode cX6_holds 15 = .ok (.istore 4, 2) := by decide +kernel
theorem dX6_holds_17 : decode cX6_holds 17 = .ok (.aload_n 0, 1) := by decide +kernel
theorem dX6_holds_18 : decode cX6_holds 18 = .ok (.aload_n 0, 1) := by decide +kernel
theorem dX6_holds_19 : decode cX6_holds 19 = .ok (.getfield 25, 3) := by decide +kernel
theorem dX6_holds_22 : decode cX6_holds 22 = .ok (.aload_n 0, 1) := by decide +kernel
theorem dX6_holds_23 : decode cX6_holds 23 = .ok (.getfield 28, 3) := by decide +kernel
theorem dX6_holds_26 : decode cX6_holds 26 = .ok (.iload_n 3, 1) := by decide +kernel
theorem dX6_holds_27 : decode cX6_holds 27 = .ok (.iload 4, 2) := by decide +kernel
theorem dX6_holds_29 : decode cX6_holds 29 = .ok (.invokestatic 42, 3) := by decide +kernel
theorem dX6_holds_32 : decode cX6_holds 32 = .ok (.putfield 81, 3) := by decide +kernel
theorem dX6_holds_35 : decode cX6_holds 35 = .ok (.aload_n 0, 1) := by decide +kernel
theorem dX6_holds_36 : decode cX6_holds 36 = .ok (.getfield 81, 3) := by decide +kernel
theorem dX6_holds_39 : decode cX6_holds 39 = .ok (.aload_n 0, 1) := by decide +kernel
theorem dX6_holds_40 : decode cX6_holds 40 = .ok (.getfield 25, 3) := by decide +kernel
theorem dX6_holds_43 : decode cX6_holds 43 = .ok (.aload_n 0, 1) := by decide +kernel
theorem dX6_holds_44 : decode cX6_holds 44 = .ok (.getfield 28, 3) := by decide +kernel
theorem dX6_holds_47 : decode cX6_holds 47 = .ok (.invokestatic 84, 3) := by decide +kernel
theorem dX6_holds_50 : decode cX6_holds 50 = .ok (.ifCond .ne 5, 3) := by decide +kernel
theorem dX6_holds_53 : decode cX6_holds 53 = .ok (.iconst 0, 1) := by decide +kernel
theorem dX6_holds_54 : decode cX6_holds 54 = .ok (.ireturn, 1) := by decide +kernel
theorem dX6_holds_55 : decode cX6_holds 55 = .ok (.aload_n 0, 1) := by decide +kernel
theorem dX6_holds_56 : decode cX6_holds 56 = .ok (.aload_n 0, 1) := by decide +kernel
theorem dX6_holds_57 : decode cX6_holds 57 = .ok (.getfield 28, 3) := by decide +kernel
theorem dX6_holds_60 : decode cX6_holds 60 = .ok (.aload_n 0, 1) := by decide +kernel
theorem dX6_holds_61 : decode cX6_holds 61 = .ok (.getfield 21, 3) := by decide +kernel
theorem dX6_holds_64 : decode cX6_holds 64 = .ok (.iload_n 3, 1) := by decide +kernel
theorem dX6_holds_65 : decode cX6_holds 65 = .ok (.iload 4, 2) := by decide +kernel
theorem dX6_holds_67 : decode cX6_holds 67 = .ok (.invokestatic 42, 3) := by decide +kernel
theorem dX6_holds_70 : decode cX6_holds 70 = .ok (.putfield 88, 3) := by decide +kernel
theorem dX6_holds_73 : decode cX6_holds 73 = .ok (.aload_n 0, 1) := by decide +kernel
theorem dX6_holds_74 : decode cX6_holds 74 = .ok (.getfield 88, 3) := by decide +kernel
theorem dX6_holds_77 : decode cX6_holds 77 = .ok (.aload_n 0, 1) := by decide +kernel
theorem dX6_holds_78 : decode cX6_holds 78 = .ok (.getfield 28, 3) := by decide +kernel
theorem dX6_holds_81 : decode cX6_holds 81 = .ok (.aload_n 0, 1) := by decide +kernel
theorem dX6_holds_82 : decode cX6_holds 82 = .ok (.getfield 21, 3) := by decide +kernel
theorem dX6_holds_85 : decode cX6_holds 85 = .ok (.invokestatic 84, 3) := by decide +kernel
theorem dX6_holds_88 : decode cX6_holds 88 = .ok (.ifCond .ne 5, 3) := by decide +kernel
theorem dX6_holds_91 : decode cX6_holds 91 = .ok (.iconst 0, 1) := by decide +kernel
theorem dX6_holds_92 : decode cX6_holds 92 = .ok (.ireturn, 1) := by decide +kernel
theorem dX6_holds_93 : decode cX6_holds 93 = .ok (.aload_n 0, 1) := by decide +kernel
theorem dX6_holds_94 : decode cX6_holds 94 = .ok (.aload_n 0, 1) := by decide +kernel
theorem dX6_holds_95 : decode cX6_holds 95 = .ok (.getfield 21, 3) := by decide +kernel
theorem dX6_holds_98 : decode cX6_holds 98 = .ok (.aload_n 0, 1) := by decide +kernel
theorem dX6_holds_99 : decode cX6_holds 99 = .ok (.getfield 25, 3) := by decide +kernel
theorem dX6_holds_102 : decode cX6_holds 102 = .ok (.iload_n 3, 1) := by decide +kernel
theorem dX6_holds_103 : decode cX6_holds 103 = .ok (.iload 4, 2) := by decide +kernel
theorem dX6_holds_105 : decode cX6_holds 105 = .ok (.invokestatic 42, 3) := by decide +kernel
theorem dX6_holds_108 : decode cX6_holds 108 = .ok (.putfield 91, 3) := by decide +kernel
theorem dX6_holds_111 : decode cX6_holds 111 = .ok (.aload_n 0, 1) := by decide +kernel
theorem dX6_holds_112 : decode cX6_holds 112 = .ok (.getfield 91, 3) := by decide +kernel
theorem dX6_holds_115 : decode cX6_holds 115 = .ok (.aload_n 0, 1) := by decide +kernel
theorem dX6_holds_116 : decode cX6_holds 116 = .ok (.getfield 21, 3) := by decide +kernel
theorem dX6_holds_119 : decode cX6_holds 119 = .ok (.aload_n 0, 1) := by decide +kernel
theorem dX6_holds_120 : decode cX6_holds 120 = .ok (.getfield 25, 3) := by decide +kernel
theorem dX6_holds_123 : decode cX6_holds 123 = .ok (.invokestatic 84, 3) := by decide +kernel
theorem dX6_holds_126 : decode cX6_holds 126 = .ok (.ireturn, 1) := by decide +kernel
def f_X6_holds (F : Nat) (t0 : Nat) (i0 : Int32) (i1 : Int32) (M : GM) : Option (Int32 × GM) := bnd (((16 : Int32) * i0) + (8 : Int32)) (fun v1 => bnd (((16 : Int32) * i1) + (8 : Int32)) (fun v3 => bnd (sL M t0 6 (f_X6_turn (gP M t0 2) (gP M t0 3) v1 v3 M)) (fun M7 => if (f_X6_isInside (gL M7 t0 6) (gP M7 t0 2) (gP M7 t0 3) M7) = 0 then (some ((0 : Int32), M7)) else (bnd (sL M7 t0 7 (f_X6_turn (gP M7 t0 3) (gP M7 t0 1) v1 v3 M7)) (fun M13 => if (f_X6_isInside (gL M13 t0 7) (gP M13 t0 3) (gP M13 t0 1) M13) = 0 then (some ((0 : Int32), M13)) else (bnd (sL M13 t0 8 (f_X6_turn (gP M13 t0 1) (gP M13 t0 2) v1 v3 M13)) (fun M19 => some ((f_X6_isInside (gL M19 t0 8) (gP M19 t0 1) (gP M19 t0 2) M19), M19))))))))
set_option maxHeartbeats 4000000 in
set_option maxRecDepth 100000 in
theorem w_X6_holds {x : GX} (X : GC x cX6_holds 5 RX6 1) {t0 : Nat} {i0 : Int32} {i1 : Int32} (h0 : gT t0 = 6) {F : Nat} {M : GM} {r9 : (Int32 × GM)} (hR : ∀ (v9 : Int32) (M9 : GM) (lv9 : List (Nat × Value)) (pc9 : Nat), r9 = (v9, M9) → (v9 = 0 ∨ v9 = 1) → decode cX6_holds pc9 = .ok (.ireturn, 1) → WG x M9 lv9 pc9 [.int v9]) (h : f_X6_holds F t0 i0 i1 M = some r9) : WG x M [(0, .ref (gad (xz x) t0)), (1, .int i0), (2, .int i1)] 0 [] := by
  unfold f_X6_holds at h
  refine g_bipush X (v := 16) dX6_holds_0 (by decide) ?_
  refine g_iload_n X (j := 1) dX6_holds_2 rfl rfl ?_
  refine g_imul X dX6_holds_3 ?_
  refine g_bipush X (v := 8) dX6_holds_4 (by decide) ?_
  refine g_iadd X dX6_holds_6 ?_
  refine g_topi (fun v1 e2 => ?_)
  have h := bnd_e e2 h
  refine g_istore_n X (lv' := [(3, .int v1), (0, .ref (gad (xz x) t0)), (1, .int i0), (2, .int i1)]) dX6_holds_7 rfl (by decide) rfl ?_
  refine g_bipush X (v := 16) dX6_holds_8 (by decide) ?_
  refine g_iload_n X (j := 3) dX6_holds_10 rfl rfl ?_
  refine g_imul X dX6_holds_11 ?_
  refine g_bipush X (v := 8) dX6_holds_12 (by decide) ?_
  refine g_iadd X dX6_holds_14 ?_
  refine g_topi (fun v3 e4 => ?_)
  have h := bnd_e e4 h
  refine g_istore X (lv' := [(4, .int v3), (3, .int v1), (0, .ref (gad (xz x) t0)), (1, .int i0), (2, .int i1)]) dX6_holds_15 (by decide) rfl ?_
  refine g_aload_n X (j := 2) dX6_holds_17 rfl rfl ?_
  refine g_aload_n X (j := 2) dX6_holds_18 rfl rfl ?_
  refine gf_X6_25 X h0 dX6_holds_19 (fun k5 => ?_)
  refine g_aload_n X (j := 2) dX6_holds_22 rfl rfl ?_
  refine gf_X6_28 X h0 dX6_holds_23 (fun k6 => ?_)
  refine g_iload_n X (j := 1) dX6_holds_26 rfl rfl ?_
  refine g_iload X (j := 0) dX6_holds_27 rfl ?_
  refine gc_X6_42 X (ct_X6_turn X.htr k5 k6) (by decide) (Nat.le_of_ble_eq_true rfl) dX6_holds_29 ?_
  refine gp_X6_81 X h0 dX6_holds_32 ?_
  refine g_mem (fun M7 e8 => ?_)
  have h := bnd_e e8 h
  refine g_aload_n X (j := 2) dX6_holds_35 rfl rfl ?_
  refine gf_X6_81 X h0 dX6_holds_36 ?_
  refine g_aload_n X (j := 2) dX6_holds_39 rfl rfl ?_
  refine gf_X6_25 X h0 dX6_holds_40 (fun k9 => ?_)
  refine g_aload_n X (j := 2) dX6_holds_43 rfl rfl ?_
  refine gf_X6_28 X h0 dX6_holds_44 (fun k10 => ?_)
  refine gc_X6_84 X (ct_X6_isInside X.htr k9 k10) (by decide) (Nat.le_of_ble_eq_true rfl) dX6_holds_47 ?_
  refine g_if_ne X (tgt := 55) dX6_holds_50 (by decide) (fun hb => ?_) (fun hb => ?_)
  · have h := ite_f hb h
    refine g_aload_n X (j := 2) dX6_holds_55 rfl rfl ?_
    refine g_aload_n X (j := 2) dX6_holds_56 rfl rfl ?_
    refine gf_X6_28 X h0 dX6_holds_57 (fun k11 => ?_)
    refine g_aload_n X (j := 2) dX6_holds_60 rfl rfl ?_
    refine gf_X6_21 X h0 dX6_holds_61 (fun k12 => ?_)
    refine g_iload_n X (j := 1) dX6_holds_64 rfl rfl ?_
    refine g_iload X (j := 0) dX6_holds_65 rfl ?_
    refine gc_X6_42 X (ct_X6_turn X.htr k11 k12) (by decide) (Nat.le_of_ble_eq_true rfl) dX6_holds_67 ?_
    refine gp_X6_88 X h0 dX6_holds_70 ?_
    refine g_mem (fun M13 e14 => ?_)
    have h := bnd_e e14 h
    refine g_aload_n X (j := 2) dX6_holds_73 rfl rfl ?_
    refine gf_X6_88 X h0 dX6_holds_74 ?_
    refine g_aload_n X (j := 2) dX6_holds_77 rfl rfl ?_
    refine gf_X6_28 X h0 dX6_holds_78 (fun k15 => ?_)
    refine g_aload_n X (j := 2) dX6_holds_81 rfl rfl ?_
    refine gf_X6_21 X h0 dX6_holds_82 (fun k16 => ?_)
    refine gc_X6_84 X (ct_X6_isInside X.htr k15 k16) (by decide) (Nat.le_of_ble_eq_true rfl) dX6_holds_85 ?_
    refine g_if_ne X (tgt := 93) dX6_holds_88 (by decide) (fun hb => ?_) (fun hb => ?_)
    · have h := ite_f hb h
      refine g_aload_n X (j := 2) dX6_holds_93 rfl rfl ?_
      refine g_aload_n X (j := 2) dX6_holds_94 rfl rfl ?_
      refine gf_X6_21 X h0 dX6_holds_95 (fun k17 => ?_)
      refine g_aload_n X (j := 2) dX6_holds_98 rfl rfl ?_
      refine gf_X6_25 X h0 dX6_holds_99 (fun k18 => ?_)
      refine g_iload_n X (j := 1) dX6_holds_102 rfl rfl ?_
      refine g_iload X (j := 0) dX6_holds_103 rfl ?_
      refine gc_X6_42 X (ct_X6_turn X.htr k17 k18) (by decide) (Nat.le_of_ble_eq_true rfl) dX6_holds_105 ?_
      refine gp_X6_91 X h0 dX6_holds_108 ?_
      refine g_mem (fun M19 e20 => ?_)
      have h := bnd_e e20 h
      refine g_aload_n X (j := 2) dX6_holds_111 rfl rfl ?_
      refine gf_X6_91 X h0 dX6_holds_112 ?_
      refine g_aload_n X (j := 2) dX6_holds_115 rfl rfl ?_
      refine gf_X6_21 X h0 dX6_holds_116 (fun k21 => ?_)
      refine g_aload_n X (j := 2) dX6_holds_119 rfl rfl ?_
      refine gf_X6_25 X h0 dX6_holds_120 (fun k22 => ?_)
      refine gc_X6_84 X (ct_X6_isInside X.htr k21 k22) (by decide) (Nat.le_of_ble_eq_true rfl) dX6_holds_123 ?_
      exact hR (f_X6_isInside (gL M19 t0 8) (gP M19 t0 1) (gP M19 t0 2) M19) M19 _ _ (Option.some.inj h).symm (fz_X6_isInside _ _ _ _) dX6_holds_126
    · have h := ite_t hb h
      refine g_iconst X (v := 0) dX6_holds_91 (by decide) ?_
      exact hR (0 : Int32) M13 _ _ (Option.some.inj h).symm (Or.inl rfl) dX6_holds_92
  · have h := ite_t hb h
    refine g_iconst X (v := 0) dX6_holds_53 (by decide) ?_
    exact hR (0 : Int32) M7 _ _ (Option.some.inj h).symm (Or.inl rfl) dX6_holds_54
theorem ct_X6_holds {l : Launch} {z : GZ} (htr : l.stackTraces = false) {t0 : Nat} {i0 : Int32} {i1 : Int32} (h0 : gT t0 = 6) {M : GM} {F : Nat} {v : Int32} {M1 : GM} (h : f_X6_holds F t0 i0 i1 M = some (v, M1)) : gMet l z yX6_holds cX6_holds 5 (some .boolean) 1 [.ref (gad z t0), .int i0, .int i1] M (some (.int v)) M1 := gMet_ofZ (by decide +kernel) (Nat.le_of_ble_eq_true rfl) htr (fun x X ez el hR => by subst ez; subst el; exact w_X6_holds X h0 (fun v9 M9 lv9 pc9 e9 z9 d9 => by cases e9; exact hR lv9 pc9 z9 d9) h)
theorem dX6_mean_0 : decode cX6_mean 0 = .ok (.aload_n 0, 1) := by decide +kernel
theorem dX6_mean_1 : decode cX6_mean 1 = .ok (.getfield 56, 3) := by decide +kernel
theorem dX6_mean_4 : decode cX6_mean 4 = .ok (.lconst 0, 1) := by decide +kernel
theorem dX6_mean_5 : decode cX6_mean 5 = .ok (.lcmp, 1) := by decide +kernel
theorem dX6_mean_6 : decode cX6_mean 6 = .ok (.ifCond .ne 7, 3) := by decide +kernel
theorem dX6_mean_9 : decode cX6_mean 9 = .ok (.iconst 0, 1) := by decide +kernel
theorem dX6_mean_10 : decode cX6_mean 10 = .ok (.goto 32, 3) := by decide +kernel
theorem dX6_mean_13 : decode cX6_mean 13 = .ok (.aload_n 0, 1) := by decide +kernel
theorem dX6_mean_14 : decode cX6_mean 14 = .ok (.getfield 81, 3) := by decide +kernel
theorem dX6_mean_17 : decode cX6_mean 17 = .ok (.iload_n 1, 1) := by decide +kernel
theorem dX6_mean_18 : decode cX6_mean 18 = .ok (.i2l, 1) := by decide +kernel
theorem dX6_mean_19 : decode cX6_mean 19 = .ok (.lmul, 1) := by decide +kernel
theorem dX6_mean_20 : decode cX6_mean 20 = .ok (.aload_n 0, 1) := by decide +kernel
theorem dX6_mean_21 : decode cX6_mean 21 = .ok (.getfield 88, 3) := by decide +kernel
theorem dX6_mean_24 : decode cX6_mean 24 = .ok (.iload_n 2, 1) := by decide +kernel
theorem dX6_mean_25 : decode cX6_mean 25 = .ok (.i2l, 1) := by decide +kernel
theorem dX6_mean_26 : decode cX6_mean 26 = .ok (.lmul, 1) := by decide +kernel
theorem dX6_mean_27 : decode cX6_mean 27 = .ok (.ladd, 1) := by decide +kernel
theorem dX6_mean_28 : decode cX6_mean 28 = .ok (.aload_n 0, 1) := by decide +kernel
theorem dX6_mean_29 : decode cX6_mean 29 = .ok (.getfield 91, 3) := by decide +kernel
theorem dX6_mean_32 : decode cX6_mean 32 = .ok (.iload_n 3, 1) := by decide +kernel
theorem dX6_mean_33 : decode cX6_mean 33 = .ok (.i2l, 1) := by decide +kernel
theorem dX6_mean_34 : decode cX6_mean 34 = .ok (.lmul, 1) := by decide +kernel
theorem dX6_mean_35 : decode cX6_mean 35 = .ok (.ladd, 1) := by decide +kernel
theorem dX6_mean_36 : decode cX6_mean 36 = .ok (.aload_n 0, 1) := by decide +kernel
theorem dX6_mean_37 : decode cX6_mean 37 = .ok (.getfield 56, 3) := by decide +kernel
theorem dX6_mean_40 : decode cX6_mean 40 = .ok (.ldiv, 1) := by decide +kernel
theorem dX6_mean_41 : decode cX6_mean 41 = .ok (.l2i, 1) := by decide +kernel
theorem dX6_mean_42 : decode cX6_mean 42 = .ok (.ireturn, 1) := by decide +kernel
def f_X6_mean (F : Nat) (t0 : Nat) (i0 : Int32) (i1 : Int32) (i2 : Int32) (M : GM) : Option Int32 := if (lg_cmp (gL M t0 4) (0 : Int64)) = 0 then (some (0 : Int32)) else (grd (decide (¬ (gL M t0 4) = 0)) (some ((((((gL M t0 6) * i0.toInt64) + ((gL M t0 7) * i1.toInt64)) + ((gL M t0 8) * i2.toInt64)) / (gL M t0 4)).toInt32)))
set_option maxHeartbeats 4000000 in
set_option maxRecDepth 100000 in
theorem w_X6_mean {x : GX} (X : GC x cX6_mean 4 RX6 0) {t0 : Nat} {i0 : Int32} {i1 : Int32} {i2 : Int32} (h0 : gT t0 = 6) {F : Nat} {M : GM} {r9 : Int32} (hR : ∀ (v9 : Int32) (lv9 : List (Nat × Value)) (pc9 : Nat), r9 = v9 → decode cX6_mean pc9 = .ok (.ireturn, 1) → WG x M lv9 pc9 [.int v9]) (h : f_X6_mean F t0 i0 i1 i2 M = some r9) : WG x M [(0, .ref (gad (xz x) t0)), (1, .int i0), (2, .int i1), (3, .int i2)] 0 [] := by
  unfold f_X6_mean at h
  refine g_aload_n X (j := 0) dX6_mean_0 rfl rfl ?_
  refine gf_X6_56 X h0 dX6_mean_1 ?_
  refine g_lconst X (v := 0) dX6_mean_4 (by decide) ?_
  refine g_lcmp X dX6_mean_5 ?_
  refine g_if_ne X (tgt := 13) dX6_mean_6 (by decide) (fun hb => ?_) (fun hb => ?_)
  · have h := ite_f hb h
    refine g_aload_n X (j := 0) dX6_mean_13 rfl rfl ?_
    refine gf_X6_81 X h0 dX6_mean_14 ?_
    refine g_iload_n X (j := 1) dX6_mean_17 rfl rfl ?_
    refine g_i2l X dX6_mean_18 ?_
    refine g_lmul X dX6_mean_19 ?_
    refine g_aload_n X (j := 0) dX6_mean_20 rfl rfl ?_
    refine gf_X6_88 X h0 dX6_mean_21 ?_
    refine g_iload_n X (j := 2) dX6_mean_24 rfl rfl ?_
    refine g_i2l X dX6_mean_25 ?_
    refine g_lmul X dX6_mean_26 ?_
    refine g_ladd X dX6_mean_27 ?_
    refine g_aload_n X (j := 0) dX6_mean_28 rfl rfl ?_
    refine gf_X6_91 X h0 dX6_mean_29 ?_
    refine g_iload_n X (j := 3) dX6_mean_32 rfl rfl ?_
    refine g_i2l X dX6_mean_33 ?_
    refine g_lmul X dX6_mean_34 ?_
    refine g_ladd X dX6_mean_35 ?_
    refine g_aload_n X (j := 0) dX6_mean_36 rfl rfl ?_
    refine gf_X6_56 X h0 dX6_mean_37 ?_
    obtain ⟨hg1, h⟩ := grd_e h
    refine g_ldiv X dX6_mean_40 (of_decide_eq_true hg1) ?_
    refine g_l2i X dX6_mean_41 ?_
    exact hR ((((((gL M t0 6) * i0.toInt64) + ((gL M t0 7) * i1.toInt64)) + ((gL M t0 8) * i2.toInt64)) / (gL M t0 4)).toInt32) _ _ (Option.some.inj h).symm dX6_mean_42
  · have h := ite_t hb h
    refine g_iconst X (v := 0) dX6_mean_9 (by decide) ?_
    refine g_goto X (tgt := 42) dX6_mean_10 (by decide) ?_
    exact hR (0 : Int32) _ _ (Option.some.inj h).symm dX6_mean_42
theorem ct_X6_mean {l : Launch} {z : GZ} (htr : l.stackTraces = false) {t0 : Nat} {i0 : Int32} {i1 : Int32} {i2 : Int32} (h0 : gT t0 = 6) {M : GM} {F : Nat} {v : Int32} (h : f_X6_mean F t0 i0 i1 i2 M = some v) : gMet l z yX6_mean cX6_mean 4 (some .int) 0 [.ref (gad z t0), .int i0, .int i1, .int i2] M (some (.int v)) M := gMet_ofI (by decide +kernel) (Nat.le_of_ble_eq_true rfl) htr rfl (fun x X ez el hR => by subst ez; subst el; exact w_X6_mean X h0 (fun v9 lv9 pc9 e9 d9 => by cases e9; exact hR lv9 pc9 d9) h)
theorem gc_X6_97 {x : GX} {cc : ByteArray} {nL d pc : Nat} {M : GM} {lv : List (Nat × Value)} {st : List Value} (X : GC x cc nL RX6 d) {i0 : Int32} {i1 : Int32} {i2 : Int32} {M1 : GM} {r : Int32} {g : Nat} (ht : gT g = 6) (hM : gMet (xl x) (xz x) yX6_mean cX6_mean 4 (some .int) 0 [.ref (gad (xz x) g), .int i0, .int i1, .int i2] M (some (.int r)) M1) (hd : 1 ≤ d) (hsum : (st.map fun v => v.category).sum ≤ 8) (dec : decode cc pc = .ok (.invokevirtual 97, 3)) (go : WG x M1 lv (pc + 3) (.int r :: st)) : WG x M lv pc (.int i2 :: .int i1 :: .int i0 :: .ref (gad (xz x) g) :: st) := g_callV X (n := 3) (As := [.int i0, .int i1, .int i2]) (rest := st) hM ht (by decide) (gE_6 ht) rfl q_291 q_292 q_293 q_21 q_294 (by decide +kernel) rfl hd (by decide) rfl hsum dec go
theorem dX6_depthHere_0 : decode cX6_depthHere 0 = .ok (.aload_n 0, 1) := by decide +kernel
theorem dX6_depthHere_1 : decode cX6_depthHere 1 = .ok (.aload_n 0, 1) := by decide +kernel
theorem dX6_depthHere_2 : decode cX6_depthHere 2 = .ok (.getfield 21, 3) := by decide +kernel
theorem dX6_depthHere_5 : decode cX6_depthHere 5 = .ok (.getfield 94, 3) := by decide +kernel
theorem dX6_depthHere_8 : decode cX6_depthHere 8 = .ok (.aload_n 0, 1) := by decide +kernel
theorem dX6_depthHere_9 : decode cX6_depthHere 9 = .ok (.getfield 25, 3) := by decide +kernel
theorem dX6_depthHere_12 : decode cX6_depthHere 12 = .ok (.getfield 94, 3) := by decide +kernel
theorem dX6_depthHere_15 : decode cX6_depthHere 15 = .ok (.aload_n 0, 1) := by decide +kernel
theorem dX6_depthHere_16 : decode cX6_depthHere 16 = .ok (.getfield 28, 3) := by decide +kernel
theorem dX6_depthHere_19 : decode cX6_depthHere 19 = .ok (.getfield 94, 3) := by decide +kernel
theorem dX6_depthHere_22 : decode cX6_depthHere 22 = .ok (.invokevirtual 97, 3) := by decide +kernel
theorem dX6_depthHere_25 : decode cX6_depthHere 25 = .ok (.ireturn, 1) := by decide +kernel
def f_X6_depthHere (F : Nat) (t0 : Nat) (M : GM) : Option Int32 := bndO (f_X6_mean F t0 (gI M (gP M t0 1) 10) (gI M (gP M t0 2) 10) (gI M (gP M t0 3) 10) M) (fun v5 => some v5)
set_option maxHeartbeats 4000000 in
set_option maxRecDepth 100000 in
theorem w_X6_depthHere {x : GX} (X : GC x cX6_depthHere 1 RX6 1) {t0 : Nat} (h0 : gT t0 = 6) {F : Nat} {M : GM} {r9 : Int32} (hR : ∀ (v9 : Int32) (lv9 : List (Nat × Value)) (pc9 : Nat), r9 = v9 → decode cX6_depthHere pc9 = .ok (.ireturn, 1) → WG x M lv9 pc9 [.int v9]) (h : f_X6_depthHere F t0 M = some r9) : WG x M [(0, .ref (gad (xz x) t0))] 0 [] := by
  unfold f_X6_depthHere at h
  refine g_aload_n X (j := 0) dX6_depthHere_0 rfl rfl ?_
  refine g_aload_n X (j := 0) dX6_depthHere_1 rfl rfl ?_
  refine gf_X6_21 X h0 dX6_depthHere_2 (fun k1 => ?_)
  refine gf_X6_94 X k1 dX6_depthHere_5 ?_
  refine g_aload_n X (j := 0) dX6_depthHere_8 rfl rfl ?_
  refine gf_X6_25 X h0 dX6_depthHere_9 (fun k2 => ?_)
  refine gf_X6_94 X k2 dX6_depthHere_12 ?_
  refine g_aload_n X (j := 0) dX6_depthHere_15 rfl rfl ?_
  refine gf_X6_28 X h0 dX6_depthHere_16 (fun k3 => ?_)
  refine gf_X6_94 X k3 dX6_depthHere_19 ?_
  obtain ⟨v5, hc4, h⟩ := bndO_e h
  refine gc_X6_97 X h0 (ct_X6_mean X.htr h0 hc4) (by decide) (Nat.le_of_ble_eq_true rfl) dX6_depthHere_22 ?_
  exact hR v5 _ _ (Option.some.inj h).symm dX6_depthHere_25
theorem ct_X6_depthHere {l : Launch} {z : GZ} (htr : l.stackTraces = false) {t0 : Nat} (h0 : gT t0 = 6) {M : GM} {F : Nat} {v : Int32} (h : f_X6_depthHere F t0 M = some v) : gMet l z yX6_depthHere cX6_depthHere 1 (some .int) 1 [.ref (gad z t0)] M (some (.int v)) M := gMet_ofI (by decide +kernel) (Nat.le_of_ble_eq_true rfl) htr rfl (fun x X ez el hR => by subst ez; subst el; exact w_X6_depthHere X h0 (fun v9 lv9 pc9 e9 d9 => by cases e9; exact hR lv9 pc9 d9) h)
theorem dX6_weightedMean_0 : decode cX6_weightedMean 0 = .ok (.aload_n 0, 1) := by decide +kernel
theorem dX6_weightedMean_1 : decode cX6_weightedMean 1 = .ok (.getfield 81, 3) := by decide +kernel
theorem dX6_weightedMean_4 : decode cX6_weightedMean 4 = .ok (.aload_n 0, 1) := by decide +kernel
theorem dX6_weightedMean_5 : decode cX6_weightedMean 5 = .ok (.getfield 21, 3) := by decide +kernel
theorem dX6_weightedMean_8 : decode cX6_weightedMean 8 = .ok (.getfield 101, 3) := by decide +kernel
theorem dX6_weightedMean_11 : decode cX6_weightedMean 11 = .ok (.i2l, 1) := by decide +kernel
theorem dX6_weightedMean_12 : decode cX6_weightedMean 12 = .ok (.lmul, 1) := by decide +kernel
theorem dX6_weightedMean_13 : decode cX6_weightedMean 13 = .ok (.lstore 4, 2) := by decide +kernel
theorem dX6_weightedMean_15 : decode cX6_weightedMean 15 = .ok (.aload_n 0, 1) := by decide +kernel
theorem dX6_weightedMean_16 : decode cX6_weightedMean 16 = .ok (.getfield 88, 3) := by decide +kernel
theorem dX6_weightedMean_19 : decode cX6_weightedMean 19 = .ok (.aload_n 0, 1) := by decide +kernel
theorem dX6_weightedMean_20 : decode cX6_weightedMean 20 = .ok (.getfield 25, 3) := by decide +kernel
theorem dX6_weightedMean_23 : decode cX6_weightedMean 23 = .ok (.getfield 101, 3) := by decide +kernel
theorem dX6_weightedMean_26 : decode cX6_weightedMean 26 = .ok (.i2l, 1) := by decide +kernel
theorem dX6_weightedMean_27 : decode cX6_weightedMean 27 = .ok (.lmul, 1) := by decide +kernel
theorem dX6_weightedMean_28 : decode cX6_weightedMean 28 = .ok (.lstore 6, 2) := by decide +kernel
theorem dX6_weightedMean_30 : decode cX6_weightedMean 30 = .ok (.aload_n 0, 1) := by decide +kernel
theorem dX6_weightedMean_31 : decode cX6_weightedMean 31 = .ok (.getfield 91, 3) := by decide +kernel
theorem dX6_weightedMean_34 : decode cX6_weightedMean 34 = .ok (.aload_n 0, 1) := by decide +kernel
theorem dX6_weightedMean_35 : decode cX6_weightedMean 35 = .ok (.getfield 28, 3) := by decide +kernel
theorem dX6_weightedMean_38 : decode cX6_weightedMean 38 = .ok (.getfield 101, 3) := by decide +kernel
theorem dX6_weightedMean_41 : decode cX6_weightedMean 41 = .ok (.i2l, 1) := by decide +kernel
theorem dX6_weightedMean_42 : decode cX6_weightedMean 42 = .ok (.lmul, 1) := by decide +kernel
theorem dX6_weightedMean_43 : decode cX6_weightedMean 43 = .ok (.lstore 8, 2) := by decide +kernel
theorem dX6_weightedMean_45 : decode cX6_weightedMean 45 = .ok (.lload 4, 2) := by decide +kernel
theorem dX6_weightedMean_47 : decode cX6_weightedMean 47 = .ok (.lload 6, 2) := by decide +kernel
theorem dX6_weightedMean_49 : decode cX6_weightedMean 49 = .ok (.ladd, 1) := by decide +kernel
theorem dX6_weightedMean_50 : decode cX6_weightedMean 50 = .ok (.lload 8, 2) := by decide +kernel
theorem dX6_weightedMean_52 : decode cX6_weightedMean 52 = .ok (.ladd, 1) := by decide +kernel
theorem dX6_weightedMean_53 : decode cX6_weightedMean 53 = .ok (.lstore 10, 2) := by decide +kernel
theorem dX6_weightedMean_55 : decode cX6_weightedMean 55 = .ok (.lload 10, 2) := by decide +kernel
theorem dX6_weightedMean_57 : decode cX6_weightedMean 57 = .ok (.lconst 0, 1) := by decide +kernel
theorem dX6_weightedMean_58 : decode cX6_weightedMean 58 = .ok (.lcmp, 1) := by decide +kernel
theorem dX6_weightedMean_59 : decode cX6_weightedMean 59 = .ok (.ifCond .ne 7, 3) := by decide +kernel
theorem dX6_weightedMean_62 : decode cX6_weightedMean 62 = .ok (.iconst 0, 1) := by decide +kernel
theorem dX6_weightedMean_63 : decode cX6_weightedMean 63 = .ok (.goto 24, 3) := by decide +kernel
theorem dX6_weightedMean_66 : decode cX6_weightedMean 66 = .ok (.lload 4, 2) := by decide +kernel
theorem dX6_weightedMean_68 : decode cX6_weightedMean 68 = .ok (.iload_n 1, 1) := by decide +kernel
theorem dX6_weightedMean_69 : decode cX6_weightedMean 69 = .ok (.i2l, 1) := by decide +kernel
theorem dX6_weightedMean_70 : decode cX6_weightedMean 70 = .ok (.lmul, 1) := by decide +kernel
theorem dX6_weightedMean_71 : decode cX6_weightedMean 71 = .ok (.lload 6, 2) := by decide +kernel
theorem dX6_weightedMean_73 : decode cX6_weightedMean 73 = .ok (.iload_n 2, 1) := by decide +kernel
theorem dX6_weightedMean_74 : decode cX6_weightedMean 74 = .ok (.i2l, 1) := by decide +kernel
theorem dX6_weightedMean_75 : decode cX6_weightedMean 75 = .ok (.lmul, 1) := by decide +kernel
theorem dX6_weightedMean_76 : decode cX6_weightedMean 76 = .ok (.ladd, 1) := by decide +kernel
theorem dX6_weightedMean_77 : decode cX6_weightedMean 77 = .ok (.lload 8, 2) := by decide +kernel
theorem dX6_weightedMean_79 : decode cX6_weightedMean 79 = .ok (.iload_n 3, 1) := by decide +kernel
theorem dX6_weightedMean_80 : decode cX6_weightedMean 80 = .ok (.i2l, 1) := by decide +kernel
theorem dX6_weightedMean_81 : decode cX6_weightedMean 81 = .ok (.lmul, 1) := by decide +kernel
theorem dX6_weightedMean_82 : decode cX6_weightedMean 82 = .ok (.ladd, 1) := by decide +kernel
theorem dX6_weightedMean_83 : decode cX6_weightedMean 83 = .ok (.lload 10, 2) := by decide +kernel
theorem dX6_weightedMean_85 : decode cX6_weightedMean 85 = .ok (.ldiv, 1) := by decide +kernel
theorem dX6_weightedMean_86 : decode cX6_weightedMean 86 = .ok (.l2i, 1) := by decide +kernel
theorem dX6_weightedMean_87 : decode cX6_weightedMean 87 = .ok (.ireturn, 1) := by decide +kernel
def f_X6_weightedMean (F : Nat) (t0 : Nat) (i0 : Int32) (i1 : Int32) (i2 : Int32) (M : GM) : Option Int32 := bnd ((gL M t0 6) * ((gI M (gP M t0 1) 11).toInt64)) (fun w2 => bnd ((gL M t0 7) * ((gI M (gP M t0 2) 11).toInt64)) (fun w5 => bnd ((gL M t0 8) * ((gI M (gP M t0 3) 11).toInt64)) (fun w8 => bnd ((w2 + w5) + w8) (fun w10 => if (lg_cmp w10 (0 : Int64)) = 0 then (some (0 : Int32)) else (grd (decide (¬ w10 = 0)) (some (((((w2 * i0.toInt64) + (w5 * i1.toInt64)) + (w8 * i2.toInt64)) / w10).toInt32)))))))
set_option maxHeartbeats 4000000 in
set_option maxRecDepth 100000 in
theorem w_X6_weightedMean {x : GX} (X : GC x cX6_weightedMean 12 RX6 0) {t0 : Nat} {i0 : Int32} {i1 : Int32} {i2 : Int32} (h0 : gT t0 = 6) {F : Nat} {M : GM} {r9 : Int32} (hR : ∀ (v9 : Int32) (lv9 : List (Nat × Value)) (pc9 : Nat), r9 = v9 → decode cX6_weightedMean pc9 = .ok (.ireturn, 1) → WG x M lv9 pc9 [.int v9]) (h : f_X6_weightedMean F t0 i0 i1 i2 M = some r9) : WG x M [(0, .ref (gad (xz x) t0)), (1, .int i0), (2, .int i1), (3, .int i2)] 0 [] := by
  unfold f_X6_weightedMean at h
  refine g_aload_n X (j := 0) dX6_weightedMean_0 rfl rfl ?_
  refine gf_X6_81 X h0 dX6_weightedMean_1 ?_
  refine g_aload_n X (j := 0) dX6_weightedMean_4 rfl rfl ?_
  refine gf_X6_21 X h0 dX6_weightedMean_5 (fun k1 => ?_)
  refine gf_X6_101 X k1 dX6_weightedMean_8 ?_
  refine g_i2l X dX6_weightedMean_11 ?_
  refine g_lmul X dX6_weightedMean_12 ?_
  refine g_topl (fun w2 e3 => ?_)
  have h := bnd_e e3 h
  refine g_lstore X (lv' := [(4, .long w2), (0, .ref (gad (xz x) t0)), (1, .int i0), (2, .int i1), (3, .int i2)]) dX6_weightedMean_13 (by decide) rfl ?_
  refine g_aload_n X (j := 1) dX6_weightedMean_15 rfl rfl ?_
  refine gf_X6_88 X h0 dX6_weightedMean_16 ?_
  refine g_aload_n X (j := 1) dX6_weightedMean_19 rfl rfl ?_
  refine gf_X6_25 X h0 dX6_weightedMean_20 (fun k4 => ?_)
  refine gf_X6_101 X k4 dX6_weightedMean_23 ?_
  refine g_i2l X dX6_weightedMean_26 ?_
  refine g_lmul X dX6_weightedMean_27 ?_
  refine g_topl (fun w5 e6 => ?_)
  have h := bnd_e e6 h
  refine g_lstore X (lv' := [(6, .long w5), (4, .long w2), (0, .ref (gad (xz x) t0)), (1, .int i0), (2, .int i1), (3, .int i2)]) dX6_weightedMean_28 (by decide) rfl ?_
  refine g_aload_n X (j := 2) dX6_weightedMean_30 rfl rfl ?_
  refine gf_X6_91 X h0 dX6_weightedMean_31 ?_
  refine g_aload_n X (j := 2) dX6_weightedMean_34 rfl rfl ?_
  refine gf_X6_28 X h0 dX6_weightedMean_35 (fun k7 => ?_)
  refine gf_X6_101 X k7 dX6_weightedMean_38 ?_
  refine g_i2l X dX6_weightedMean_41 ?_
  refine g_lmul X dX6_weightedMean_42 ?_
  refine g_topl (fun w8 e9 => ?_)
  have h := bnd_e e9 h
  refine g_lstore X (lv' := [(8, .long w8), (6, .long w5), (4, .long w2), (0, .ref (gad (xz x) t0)), (1, .int i0), (2, .int i1), (3, .int i2)]) dX6_weightedMean_43 (by decide) rfl ?_
  refine g_lload X (j := 2) dX6_weightedMean_45 rfl ?_
  refine g_lload X (j := 1) dX6_weightedMean_47 rfl ?_
  refine g_ladd X dX6_weightedMean_49 ?_
  refine g_lload X (j := 0) dX6_weightedMean_50 rfl ?_
  refine g_ladd X dX6_weightedMean_52 ?_
  refine g_topl (fun w10 e11 => ?_)
  have h := bnd_e e11 h
  refine g_lstore X (lv' := [(10, .long w10), (8, .long w8), (6, .long w5), (4, .long w2), (0, .ref (gad (xz x) t0)), (1, .int i0), (2, .int i1), (3, .int i2)]) dX6_weightedMean_53 (by decide) rfl ?_
  refine g_lload X (j := 0) dX6_weightedMean_55 rfl ?_
  refine g_lconst X (v := 0) dX6_weightedMean_57 (by decide) ?_
  refine g_lcmp X dX6_weightedMean_58 ?_
  refine g_if_ne X (tgt := 66) dX6_weightedMean_59 (by decide) (fun hb => ?_) (fun hb => ?_)
  · have h := ite_f hb h
    refine g_lload X (j := 3) dX6_weightedMean_66 rfl ?_
    refine g_iload_n X (j := 5) dX6_weightedMean_68 rfl rfl ?_
    refine g_i2l X dX6_weightedMean_69 ?_
    refine g_lmul X dX6_weightedMean_70 ?_
    refine g_lload X (j := 2) dX6_weightedMean_71 rfl ?_
    refine g_iload_n X (j := 6) dX6_weightedMean_73 rfl rfl ?_
    refine g_i2l X dX6_weightedMean_74 ?_
    refine g_lmul X dX6_weightedMean_75 ?_
    refine g_ladd X dX6_weightedMean_76 ?_
    refine g_lload X (j := 1) dX6_weightedMean_77 rfl ?_
    refine g_iload_n X (j := 7) dX6_weightedMean_79 rfl rfl ?_
    refine g_i2l X dX6_weightedMean_80 ?_
    refine g_lmul X dX6_weightedMean_81 ?_
    refine g_ladd X dX6_weightedMean_82 ?_
    refine g_lload X (j := 0) dX6_weightedMean_83 rfl ?_
    obtain ⟨hg12, h⟩ := grd_e h
    refine g_ldiv X dX6_weightedMean_85 (of_decide_eq_true hg12) ?_
    refine g_l2i X dX6_weightedMean_86 ?_
    exact hR (((((w2 * i0.toInt64) + (w5 * i1.toInt64)) + (w8 * i2.toInt64)) / w10).toInt32) _ _ (Option.some.inj h).symm dX6_weightedMean_87
  · have h := ite_t hb h
    refine g_iconst X (v := 0) dX6_weightedMean_62 (by decide) ?_
    refine g_goto X (tgt := 87) dX6_weightedMean_63 (by decide) ?_
    exact hR (0 : Int32) _ _ (Option.some.inj h).symm dX6_weightedMean_87
theorem ct_X6_weightedMean {l : Launch} {z : GZ} (htr : l.stackTraces = false) {t0 : Nat} {i0 : Int32} {i1 : Int32} {i2 : Int32} (h0 : gT t0 = 6) {M : GM} {F : Nat} {v : Int32} (h : f_X6_weightedMean F t0 i0 i1 i2 M = some v) : gMet l z yX6_weightedMean cX6_weightedMean 12 (some .int) 0 [.ref (gad z t0), .int i0, .int i1, .int i2] M (some (.int v)) M := gMet_ofI (by decide +kernel) (Nat.le_of_ble_eq_true rfl) htr rfl (fun x X ez el hR => by subst ez; subst el; exact w_X6_weightedMean X h0 (fun v9 lv9 pc9 e9 d9 => by cases e9; exact hR lv9 pc9 d9) h)
