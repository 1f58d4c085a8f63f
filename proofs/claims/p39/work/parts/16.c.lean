/-! 16.c -/
theorem gc_X10_271 {x : GX} {cc : ByteArray} {nL d pc : Nat} {M : GM} {lv : List (Nat × Value)} {st : List Value} (X : GC x cc nL RX10 d) {i0 : Int32} {i1 : Int32} {M1 : GM} (hM : gMet (xl x) (xz x) yX10_requirePoint cX10_requirePoint 2 none 6 [.int i0, .int i1] M (none) M1) (hd : 7 ≤ d) (hsum : (st.map fun v => v.category).sum ≤ 8) (dec : decode cc pc = .ok (.invokestatic 271, 3)) (go : WG x M1 lv (pc + 3) (st)) : WG x M lv pc (.int i1 :: .int i0 :: st) := g_callS X (n := 2) (As := [.int i0, .int i1]) (rest := st) hM q_278 q_279 q_17 q_280 (by decide +kernel) rfl hd (by decide) rfl hsum dec go
theorem gx_X10_271 {x : GX} {cc : ByteArray} {nL d pc : Nat} {M : GM} {lv : List (Nat × Value)} {st : List Value} (X : GC x cc nL RX10 d) {i0 : Int32} {i1 : Int32} {M1 : GM} {n9 : Nat} (hM : gMetX (xl x) (xz x) yX10_requirePoint cX10_requirePoint 2 none 6 [.int i0, .int i1] M n9 M1) (hd : 7 ≤ d) (hsum : (st.map fun v => v.category).sum ≤ 8) (dec : decode cc pc = .ok (.invokestatic 271, 3)) (hT : GThr x n9 M1) : WG x M lv pc (.int i1 :: .int i0 :: st) := g_xS X (n := 2) (As := [.int i0, .int i1]) (rest := st) hM q_278 q_279 q_17 q_280 (by decide +kernel) rfl hd (by decide) rfl hsum dec hT
theorem dX10_liesIn_0 : decode cX10_liesIn 0 = .ok (.aload_n 0, 1) := by decide +kernel
theorem dX10_liesIn_1 : decode cX10_liesIn 1 = .ok (.iload_n 1, 1) := by decide +kernel
theorem dX10_liesIn_2 : decode cX10_liesIn 2 = .ok (.invokevirtual 150, 3) := by decide +kernel
theorem dX10_liesIn_5 : decode cX10_liesIn 5 = .ok (.iload_n 2, 1) := by decide +kernel
theorem dX10_liesIn_6 : decode cX10_liesIn 6 = .ok (.iload_n 3, 1) := by decide +kernel
theorem dX10_liesIn_7 : decode cX10_liesIn 7 = .ok (.invokestatic 271, 3) := by decide +kernel
theorem dX10_liesIn_10 : decode cX10_liesIn 10 = .ok (.aload_n 0, 1) := by decide +kernel
theorem dX10_liesIn_11 : decode cX10_liesIn 11 = .ok (.iload_n 1, 1) := by decide +kernel
theorem dX10_liesIn_12 : decode cX10_liesIn 12 = .ok (.invokevirtual 199, 3) := by decide +kernel
theorem dX10_liesIn_15 : decode cX10_liesIn 15 = .ok (.aload_n 0, 1) := by decide +kernel
theorem dX10_liesIn_16 : decode cX10_liesIn 16 = .ok (.getfield 37, 3) := by decide +kernel
theorem dX10_liesIn_19 : decode cX10_liesIn 19 = .ok (.iload_n 2, 1) := by decide +kernel
theorem dX10_liesIn_20 : decode cX10_liesIn 20 = .ok (.iload_n 3, 1) := by decide +kernel
theorem dX10_liesIn_21 : decode cX10_liesIn 21 = .ok (.invokevirtual 267, 3) := by decide +kernel
theorem dX10_liesIn_24 : decode cX10_liesIn 24 = .ok (.iconst (-1), 1) := by decide +kernel
theorem dX10_liesIn_25 : decode cX10_liesIn 25 = .ok (.if_icmp .eq 7, 3) := by decide +kernel
theorem dX10_liesIn_28 : decode cX10_liesIn 28 = .ok (.iconst 1, 1) := by decide +kernel
theorem dX10_liesIn_29 : decode cX10_liesIn 29 = .ok (.goto 4, 3) := by decide +kernel
theorem dX10_liesIn_32 : decode cX10_liesIn 32 = .ok (.iconst 0, 1) := by decide +kernel
theorem dX10_liesIn_33 : decode cX10_liesIn 33 = .ok (.ireturn, 1) := by decide +kernel
def f_X10_liesIn (F : Nat) (i0 : Int32) (i1 : Int32) (i2 : Int32) (M : GM) : Option ((Nat × GM) ⊕ (Int32 × GM)) := bndT (f_X10_requirePane F i0 M) (fun n2 => some (Sum.inl (n2, M))) (fun _ => bndT (f_X10_requirePoint F i1 i2 M) (fun n4 => some (Sum.inl (n4, M))) (fun _ => bndO (f_X10_formShape F i0 M) (fun M6 => bndO (f_X8_firstPieceAt F i1 i2 M6) (fun (v8, M9) => if v8 = ((-1) : Int32) then (some (Sum.inr ((0 : Int32), M9))) else (some (Sum.inr ((1 : Int32), M9)))))))
set_option maxHeartbeats 4000000 in
set_option maxRecDepth 100000 in
theorem w_X10_liesIn {x : GX} (X : GC x cX10_liesIn 4 RX10 7) {i0 : Int32} {i1 : Int32} {i2 : Int32}  {F : Nat} {M : GM} {r9 : ((Nat × GM) ⊕ (Int32 × GM))} (hR : ∀ (v9 : Int32) (M9 : GM) (lv9 : List (Nat × Value)) (pc9 : Nat), r9 = Sum.inr (v9, M9) → (v9 = 0 ∨ v9 = 1) → decode cX10_liesIn pc9 = .ok (.ireturn, 1) → WG x M9 lv9 pc9 [.int v9]) (hX : ∀ (n9 : Nat) (M9 : GM), r9 = Sum.inl (n9, M9) → GThr x n9 M9) (h : f_X10_liesIn F i0 i1 i2 M = some r9) : WG x M [(0, .ref (gad (xz x) 0)), (1, .int i0), (2, .int i1), (3, .int i2)] 0 [] := by
  unfold f_X10_liesIn at h
  refine g_aload_n X (j := 0) dX10_liesIn_0 rfl rfl ?_
  refine g_iload_n X (j := 1) dX10_liesIn_1 rfl rfl ?_
  rcases bndT_e h with ⟨n2, hc1, h⟩ | ⟨⟨⟩, hc1, h⟩
  · exact gx_X10_150 X gT_c0 (cx_X10_requirePane X.htr  hc1) (by decide) (Nat.le_of_ble_eq_true rfl) dX10_liesIn_2 (hX n2 M (Option.some.inj h).symm)
  refine gc_X10_150 X gT_c0 (ct_X10_requirePane X.htr  hc1) (by decide) (Nat.le_of_ble_eq_true rfl) dX10_liesIn_2 ?_
  refine g_iload_n X (j := 2) dX10_liesIn_5 rfl rfl ?_
  refine g_iload_n X (j := 3) dX10_liesIn_6 rfl rfl ?_
  rcases bndT_e h with ⟨n4, hc3, h⟩ | ⟨⟨⟩, hc3, h⟩
  · exact gx_X10_271 X (cx_X10_requirePoint X.htr  hc3) (by decide) (Nat.le_of_ble_eq_true rfl) dX10_liesIn_7 (hX n4 M (Option.some.inj h).symm)
  refine gc_X10_271 X (ct_X10_requirePoint X.htr  hc3) (by decide) (Nat.le_of_ble_eq_true rfl) dX10_liesIn_7 ?_
  refine g_aload_n X (j := 0) dX10_liesIn_10 rfl rfl ?_
  refine g_iload_n X (j := 1) dX10_liesIn_11 rfl rfl ?_
  obtain ⟨M6, hc5, h⟩ := bndO_e h
  refine gc_X10_199 X gT_c0 (ct_X10_formShape X.htr  hc5) (by decide) (Nat.le_of_ble_eq_true rfl) dX10_liesIn_12 ?_
  refine g_aload_n X (j := 0) dX10_liesIn_15 rfl rfl ?_
  refine gf_X10_37 X gT_c0 dX10_liesIn_16 ?_
  refine g_iload_n X (j := 2) dX10_liesIn_19 rfl rfl ?_
  refine g_iload_n X (j := 3) dX10_liesIn_20 rfl rfl ?_
  obtain ⟨⟨v8, M9⟩, hc7, h⟩ := bndO_e h
  refine gc_X10_267 X gT_c6 (ct_X8_firstPieceAt X.htr  hc7) (by decide) (Nat.le_of_ble_eq_true rfl) dX10_liesIn_21 ?_
  refine g_iconst X (v := (-1)) dX10_liesIn_24 (by decide) ?_
  refine g_icmp_eq X (tgt := 32) dX10_liesIn_25 (by decide) (fun hb => ?_) (fun hb => ?_)
  · have h := ite_t hb h
    refine g_iconst X (v := 0) dX10_liesIn_32 (by decide) ?_
    exact hR (0 : Int32) M9 _ _ (Option.some.inj h).symm (Or.inl rfl) dX10_liesIn_33
  · have h := ite_f hb h
    refine g_iconst X (v := 1) dX10_liesIn_28 (by decide) ?_
    refine g_goto X (tgt := 33) dX10_liesIn_29 (by decide) ?_
    exact hR (1 : Int32) M9 _ _ (Option.some.inj h).symm (Or.inr rfl) dX10_liesIn_33
theorem ct_X10_liesIn {l : Launch} {z : GZ} (htr : l.stackTraces = false) {i0 : Int32} {i1 : Int32} {i2 : Int32}  {M : GM} {F : Nat} {v : Int32} {M1 : GM} (h : f_X10_liesIn F i0 i1 i2 M = some (Sum.inr (v, M1))) : gMet l z yX10_liesIn cX10_liesIn 4 (some .boolean) 7 [.ref (gad z 0), .int i0, .int i1, .int i2] M (some (.int v)) M1 := gMet_ofZ (by decide +kernel) (Nat.le_of_ble_eq_true rfl) htr (fun x X ez el hR => by subst ez; subst el; exact w_X10_liesIn X  (fun v9 M9 lv9 pc9 e9 z9 d9 => by cases e9; exact hR lv9 pc9 z9 d9) (by intros; rename_i e9; cases e9) h)
theorem cx_X10_liesIn {l : Launch} {z : GZ} (htr : l.stackTraces = false) {i0 : Int32} {i1 : Int32} {i2 : Int32}  {M : GM} {F n : Nat} {M1 : GM} (h : f_X10_liesIn F i0 i1 i2 M = some (Sum.inl (n, M1))) : gMetX l z yX10_liesIn cX10_liesIn 4 (some .boolean) 7 [.ref (gad z 0), .int i0, .int i1, .int i2] M n M1 := gMetX_of (by decide +kernel) (Nat.le_of_ble_eq_true rfl) htr (fun x X ez el hT => by subst ez; subst el; exact w_X10_liesIn X  (by intros; rename_i e9 _ _; cases e9) (fun n9 M9 e9 => by cases e9; exact hT) h)
theorem gc_X10_275 {x : GX} {cc : ByteArray} {nL d pc : Nat} {M : GM} {lv : List (Nat × Value)} {st : List Value} (X : GC x cc nL RX10 d)  {M1 : GM} {r : Int32} {g : Nat} (ht : gT g = 6) (hM : gMet (xl x) (xz x) yX6_depthHere cX6_depthHere 1 (some .int) 1 [.ref (gad (xz x) g)] M (some (.int r)) M1) (hd : 2 ≤ d) (hsum : (st.map fun v => v.category).sum ≤ 8) (dec : decode cc pc = .ok (.invokevirtual 275, 3)) (go : WG x M1 lv (pc + 3) (.int r :: st)) : WG x M lv pc (.ref (gad (xz x) g) :: st) := g_callV X (n := 0) (As := []) (rest := st) hM ht (by decide) (gE_6 ht) rfl q_287 q_288 q_289 q_21 q_290 (by decide +kernel) rfl hd (by decide) rfl hsum dec go
theorem dX10_depthOf_0 : decode cX10_depthOf 0 = .ok (.aload_n 0, 1) := by decide +kernel
theorem dX10_depthOf_1 : decode cX10_depthOf 1 = .ok (.iload_n 1, 1) := by decide +kernel
theorem dX10_depthOf_2 : decode cX10_depthOf 2 = .ok (.invokevirtual 150, 3) := by decide +kernel
theorem dX10_depthOf_5 : decode cX10_depthOf 5 = .ok (.iload_n 2, 1) := by decide +kernel
theorem dX10_depthOf_6 : decode cX10_depthOf 6 = .ok (.iload_n 3, 1) := by decide +kernel
theorem dX10_depthOf_7 : decode cX10_depthOf 7 = .ok (.invokestatic 271, 3) := by decide +kernel
theorem dX10_depthOf_10 : decode cX10_depthOf 10 = .ok (.aload_n 0, 1) := by decide +kernel
theorem dX10_depthOf_11 : decode cX10_depthOf 11 = .ok (.iload_n 1, 1) := by decide +kernel
theorem dX10_depthOf_12 : decode cX10_depthOf 12 = .ok (.invokevirtual 199, 3) := by decide +kernel
theorem dX10_depthOf_15 : decode cX10_depthOf 15 = .ok (.aload_n 0, 1) := by decide +kernel
theorem dX10_depthOf_16 : decode cX10_depthOf 16 = .ok (.getfield 37, 3) := by decide +kernel
theorem dX10_depthOf_19 : decode cX10_depthOf 19 = .ok (.iload_n 2, 1) := by decide +kernel
theorem dX10_depthOf_20 : decode cX10_depthOf 20 = .ok (.iload_n 3, 1) := by decide +kernel
theorem dX10_depthOf_21 : decode cX10_depthOf 21 = .ok (.invokevirtual 267, 3) := by decide +kernel
theorem dX10_depthOf_24 : decode cX10_depthOf 24 = .ok (.istore 4, 2) := by decide +kernel
theorem dX10_depthOf_26 : decode cX10_depthOf 26 = .ok (.iload 4, 2) := by decide +kernel
theorem dX10_depthOf_28 : decode cX10_depthOf 28 = .ok (.iconst (-1), 1) := by decide +kernel
theorem dX10_depthOf_29 : decode cX10_depthOf 29 = .ok (.if_icmp .ne 7, 3) := by decide +kernel
theorem dX10_depthOf_32 : decode cX10_depthOf 32 = .ok (.iconst (-1), 1) := by decide +kernel
theorem dX10_depthOf_33 : decode cX10_depthOf 33 = .ok (.goto 16, 3) := by decide +kernel
theorem dX10_depthOf_36 : decode cX10_depthOf 36 = .ok (.aload_n 0, 1) := by decide +kernel
theorem dX10_depthOf_37 : decode cX10_depthOf 37 = .ok (.getfield 37, 3) := by decide +kernel
theorem dX10_depthOf_40 : decode cX10_depthOf 40 = .ok (.getfield 258, 3) := by decide +kernel
theorem dX10_depthOf_43 : decode cX10_depthOf 43 = .ok (.iload 4, 2) := by decide +kernel
theorem dX10_depthOf_45 : decode cX10_depthOf 45 = .ok (.aaload, 1) := by decide +kernel
theorem dX10_depthOf_46 : decode cX10_depthOf 46 = .ok (.invokevirtual 275, 3) := by decide +kernel
theorem dX10_depthOf_49 : decode cX10_depthOf 49 = .ok (.ireturn, 1) := by decide +kernel
def f_X10_depthOf (F : Nat) (i0 : Int32) (i1 : Int32) (i2 : Int32) (M : GM) : Option ((Nat × GM) ⊕ (Int32 × GM)) := bndT (f_X10_requirePane F i0 M) (fun n2 => some (Sum.inl (n2, M))) (fun _ => bndT (f_X10_requirePoint F i1 i2 M) (fun n4 => some (Sum.inl (n4, M))) (fun _ => bndO (f_X10_formShape F i0 M) (fun M6 => bndO (f_X8_firstPieceAt F i1 i2 M6) (fun (v8, M9) => bnd v8 (fun v10 => if v10 = ((-1) : Int32) then (some (Sum.inr (((-1) : Int32), M9))) else (grd (gIn v10 (gN 16)) (bnd (gR 16 v10.toNatClampNeg) (fun o13 => bndO (f_X6_depthHere F o13 M9) (fun v17 => some (Sum.inr (v17, M9)))))))))))
set_option maxHeartbeats 4000000 in
set_option maxRecDepth 100000 in
theorem w_X10_depthOf {x : GX} (X : GC x cX10_depthOf 5 RX10 7) {i0 : Int32} {i1 : Int32} {i2 : Int32}  {F : Nat} {M : GM} {r9 : ((Nat × GM) ⊕ (Int32 × GM))} (hR : ∀ (v9 : Int32) (M9 : GM) (lv9 : List (Nat × Value)) (pc9 : Nat), r9 = Sum.inr (v9, M9) → decode cX10_depthOf pc9 = .ok (.ireturn, 1) → WG x M9 lv9 pc9 [.int v9]) (hX : ∀ (n9 : Nat) (M9 : GM), r9 = Sum.inl (n9, M9) → GThr x n9 M9) (h : f_X10_depthOf F i0 i1 i2 M = some r9) : WG x M [(0, .ref (gad (xz x) 0)), (1, .int i0), (2, .int i1), (3, .int i2)] 0 [] := by
  unfold f_X10_depthOf at h
  refine g_aload_n X (j := 0) dX10_depthOf_0 rfl rfl ?_
  refine g_iload_n X (j := 1) dX10_depthOf_1 rfl rfl ?_
  rcases bndT_e h with ⟨n2, hc1, h⟩ | ⟨⟨⟩, hc1, h⟩
  · exact gx_X10_150 X gT_c0 (cx_X10_requirePane X.htr  hc1) (by decide) (Nat.le_of_ble_eq_true rfl) dX10_depthOf_2 (hX n2 M (Option.some.inj h).symm)
  refine gc_X10_150 X gT_c0 (ct_X10_requirePane X.htr  hc1) (by decide) (Nat.le_of_ble_eq_true rfl) dX10_depthOf_2 ?_
  refine g_iload_n X (j := 2) dX10_depthOf_5 rfl rfl ?_
  refine g_iload_n X (j := 3) dX10_depthOf_6 rfl rfl ?_
  rcases bndT_e h with ⟨n4, hc3, h⟩ | ⟨⟨⟩, hc3, h⟩
  · exact gx_X10_271 X (cx_X10_requirePoint X.htr  hc3) (by decide) (Nat.le_of_ble_eq_true rfl) dX10_depthOf_7 (hX n4 M (Option.some.inj h).symm)
  refine gc_X10_271 X (ct_X10_requirePoint X.htr  hc3) (by decide) (Nat.le_of_ble_eq_true rfl) dX10_depthOf_7 ?_
  refine g_aload_n X (j := 0) dX10_depthOf_10 rfl rfl ?_
  refine g_iload_n X (j := 1) dX10_depthOf_11 rfl rfl ?_
  obtain ⟨M6, hc5, h⟩ := bndO_e h
  refine gc_X10_199 X gT_c0 (ct_X10_formShape X.htr  hc5) (by decide) (Nat.le_of_ble_eq_true rfl) dX10_depthOf_12 ?_
  refine g_aload_n X (j := 0) dX10_depthOf_15 rfl rfl ?_
  refine gf_X10_37 X gT_c0 dX10_depthOf_16 ?_
  refine g_iload_n X (j := 2) dX10_depthOf_19 rfl rfl ?_
  refine g_iload_n X (j := 3) dX10_depthOf_20 rfl rfl ?_
  obtain ⟨⟨v8, M9⟩, hc7, h⟩ := bndO_e h
  refine gc_X10_267 X gT_c6 (ct_X8_firstPieceAt X.htr  hc7) (by decide) (Nat.le_of_ble_eq_true rfl) dX10_depthOf_21 ?_
  refine g_topi (fun v10 e11 => ?_)
  have h := bnd_e e11 h
  refine g_istore X (lv' := [(4, .int v10), (0, .ref (gad (xz x) 0)), (1, .int i0), (2, .int i1), (3, .int i2)]) dX10_depthOf_24 (by decide) rfl ?_
  refine g_iload X (j := 0) dX10_depthOf_26 rfl ?_
  refine g_iconst X (v := (-1)) dX10_depthOf_28 (by decide) ?_
  refine g_icmp_ne X (tgt := 36) dX10_depthOf_29 (by decide) (fun hb => ?_) (fun hb => ?_)
  · have h := ite_f hb h
    refine g_aload_n X (j := 1) dX10_depthOf_36 rfl rfl ?_
    refine gf_X10_37 X gT_c0 dX10_depthOf_37 ?_
    refine gf_X10_258 X gT_c6 dX10_depthOf_40 ?_
    refine g_iload X (j := 0) dX10_depthOf_43 rfl ?_
    obtain ⟨hg12, h⟩ := grd_e h
    refine g_aald_27 X gT_c16 hg12 dX10_depthOf_45 ?_
    refine g_topr (fun o13 e14 => ?_)
    have h := bnd_e e14 h
    have k15 : gT o13 = 6 := by rw [e14]; exact gR_27 gT_c16 (gIn_lt hg12)
    obtain ⟨v17, hc16, h⟩ := bndO_e h
    refine gc_X10_275 X k15 (ct_X6_depthHere X.htr k15 hc16) (by decide) (Nat.le_of_ble_eq_true rfl) dX10_depthOf_46 ?_
    exact hR v17 M9 _ _ (Option.some.inj h).symm dX10_depthOf_49
  · have h := ite_t hb h
    refine g_iconst X (v := (-1)) dX10_depthOf_32 (by decide) ?_
    refine g_goto X (tgt := 49) dX10_depthOf_33 (by decide) ?_
    exact hR ((-1) : Int32) M9 _ _ (Option.some.inj h).symm dX10_depthOf_49
theorem ct_X10_depthOf {l : Launch} {z : GZ} (htr : l.stackTraces = false) {i0 : Int32} {i1 : Int32} {i2 : Int32}  {M : GM} {F : Nat} {v : Int32} {M1 : GM} (h : f_X10_depthOf F i0 i1 i2 M = some (Sum.inr (v, M1))) : gMet l z yX10_depthOf cX10_depthOf 5 (some .int) 7 [.ref (gad z 0), .int i0, .int i1, .int i2] M (some (.int v)) M1 := gMet_ofI (by decide +kernel) (Nat.le_of_ble_eq_true rfl) htr rfl (fun x X ez el hR => by subst ez; subst el; exact w_X10_depthOf X  (fun v9 M9 lv9 pc9 e9 d9 => by cases e9; exact hR lv9 pc9 d9) (by intros; rename_i e9; cases e9) h)
theorem cx_X10_depthOf {l : Launch} {z : GZ} (htr : l.stackTraces = false) {i0 : Int32} {i1 : Int32} {i2 : Int32}  {M : GM} {F n : Nat} {M1 : GM} (h : f_X10_depthOf F i0 i1 i2 M = some (Sum.inl (n, M1))) : gMetX l z yX10_depthOf cX10_depthOf 5 (some .int) 7 [.ref (gad z 0), .int i0, .int i1, .int i2] M n M1 := gMetX_of (by decide +kernel) (Nat.le_of_ble_eq_true rfl) htr (fun x X ez el hT => by subst ez; subst el; exact w_X10_depthOf X  (by intros; rename_i e9 _; cases e9) (fun n9 M9 e9 => by cases e9; exact hT) h)
theorem gc_X10_460 {x : GX} {cc : ByteArray} {nL d pc : Nat} {M : GM} {lv : List (Nat × Value)} {st : List Value} (X : GC x cc nL RX10 d) {i0 : Int32} {i1 : Int32} {i2 : Int32} {M1 : GM} {r : Int32} {g : Nat} (ht : gT g = 6) (hM : gMet (xl x) (xz x) yX6_mean cX6_mean 4 (some .int) 0 [.ref (gad (xz x) g), .int i0, .int i1, .int i2] M (some (.int r)) M1) (hd : 1 ≤ d) (hsum : (st.map fun v => v.category).sum ≤ 8) (dec : decode cc pc = .ok (.invokevirtual 460, 3)) (go : WG x M1 lv (pc + 3) (.int r :: st)) : WG x M lv pc (.int i2 :: .int i1 :: .int i0 :: .ref (gad (xz x) g) :: st) := g_callV X (n := 3) (As := [.int i0, .int i1, .int i2]) (rest := st) hM ht (by decide) (gE_6 ht) rfl q_303 q_292 q_293 q_21 q_294 (by decide +kernel) rfl hd (by decide) rfl hsum dec go
theorem gc_X10_236 {x : GX} {cc : ByteArray} {nL d pc : Nat} {M : GM} {lv : List (Nat × Value)} {st : List Value} (X : GC x cc nL RX10 d) {i0 : Int32} {i1 : Int32} {i2 : Int32} {M1 : GM} {r : Int32} (hM : gMet (xl x) (xz x) yX10_mixed cX10_mixed 3 (some .int) 0 [.int i0, .int i1, .int i2] M (some (.int r)) M1) (hd : 1 ≤ d) (hsum : (st.map fun v => v.category).sum ≤ 8) (dec : decode cc pc = .ok (.invokestatic 236, 3)) (go : WG x M1 lv (pc + 3) (.int r :: st)) : WG x M lv pc (.int i2 :: .int i1 :: .int i0 :: st) := g_callS X (n := 3) (As := [.int i0, .int i1, .int i2]) (rest := st) hM q_304 q_305 q_17 q_306 (by decide +kernel) rfl hd (by decide) rfl hsum dec go
theorem gc_X10_463 {x : GX} {cc : ByteArray} {nL d pc : Nat} {M : GM} {lv : List (Nat × Value)} {st : List Value} (X : GC x cc nL RX10 d) {i0 : Int32} {i1 : Int32} {i2 : Int32} {M1 : GM} {r : Int32} {g : Nat} (ht : gT g = 6) (hM : gMet (xl x) (xz x) yX6_weightedMean cX6_weightedMean 12 (some .int) 0 [.ref (gad (xz x) g), .int i0, .int i1, .int i2] M (some (.int r)) M1) (hd : 1 ≤ d) (hsum : (st.map fun v => v.category).sum ≤ 8) (dec : decode cc pc = .ok (.invokevirtual 463, 3)) (go : WG x M1 lv (pc + 3) (.int r :: st)) : WG x M lv pc (.int i2 :: .int i1 :: .int i0 :: .ref (gad (xz x) g) :: st) := g_callV X (n := 3) (As := [.int i0, .int i1, .int i2]) (rest := st) hM ht (by decide) (gE_6 ht) rfl q_308 q_309 q_310 q_21 q_311 (by decide +kernel) rfl hd (by decide) rfl hsum dec go
theorem gc_X10_466 {x : GX} {cc : ByteArray} {nL d pc : Nat} {M : GM} {lv : List (Nat × Value)} {st : List Value} (X : GC x cc nL RX10 d) {i0 : Int32} {i1 : Int32} {M1 : GM} {r : Int32} {g : Nat} (ht : gT g = 5) (hM : gMet (xl x) (xz x) yX5_tintAt cX5_tintAt 3 (some .int) 1 [.ref (gad (xz x) g), .int i0, .int i1] M (some (.int r)) M1) (hd : 2 ≤ d) (hsum : (st.map fun v => v.category).sum ≤ 8) (dec : decode cc pc = .ok (.invokevirtual 466, 3)) (go : WG x M1 lv (pc + 3) (.int r :: st)) : WG x M lv pc (.int i1 :: .int i0 :: .ref (gad (xz x) g) :: st) := g_callV X (n := 2) (As := [.int i0, .int i1]) (rest := st) hM ht (by decide) (gE_5 ht) rfl q_312 q_313 q_314 q_27 q_315 (by decide +kernel) rfl hd (by decide) rfl hsum dec go
theorem gc_X10_338 {x : GX} {cc : ByteArray} {nL d pc : Nat} {M : GM} {lv : List (Nat × Value)} {st : List Value} (X : GC x cc nL RX10 d) {i0 : Int32} {M1 : GM} {r : Int32} (hM : gMet (xl x) (xz x) yX10_redOf cX10_redOf 1 (some .int) 0 [.int i0] M (some (.int r)) M1) (hd : 1 ≤ d) (hsum : (st.map fun v => v.category).sum ≤ 8) (dec : decode cc pc = .ok (.invokestatic 338, 3)) (go : WG x M1 lv (pc + 3) (.int r :: st)) : WG x M lv pc (.int i0 :: st) := g_callS X (n := 1) (As := [.int i0]) (rest := st) hM q_321 q_172 q_17 q_173 (by decide +kernel) rfl hd (by decide) rfl hsum dec go
theorem gc_X10_341 {x : GX} {cc : ByteArray} {nL d pc : Nat} {M : GM} {lv : List (Nat × Value)} {st : List Value} (X : GC x cc nL RX10 d) {i0 : Int32} {M1 : GM} {r : Int32} (hM : gMet (xl x) (xz x) yX10_greenOf cX10_greenOf 1 (some .int) 0 [.int i0] M (some (.int r)) M1) (hd : 1 ≤ d) (hsum : (st.map fun v => v.category).sum ≤ 8) (dec : decode cc pc = .ok (.invokestatic 341, 3)) (go : WG x M1 lv (pc + 3) (.int r :: st)) : WG x M lv pc (.int i0 :: st) := g_callS X (n := 1) (As := [.int i0]) (rest := st) hM q_322 q_175 q_17 q_176 (by decide +kernel) rfl hd (by decide) rfl hsum dec go
theorem gc_X10_344 {x : GX} {cc : ByteArray} {nL d pc : Nat} {M : GM} {lv : List (Nat × Value)} {st : List Value} (X : GC x cc nL RX10 d) {i0 : Int32} {M1 : GM} {r : Int32} (hM : gMet (xl x) (xz x) yX10_blueOf cX10_blueOf 1 (some .int) 0 [.int i0] M (some (.int r)) M1) (hd : 1 ≤ d) (hsum : (st.map fun v => v.category).sum ≤ 8) (dec : decode cc pc = .ok (.invokestatic 344, 3)) (go : WG x M1 lv (pc + 3) (.int r :: st)) : WG x M lv pc (.int i0 :: st) := g_callS X (n := 1) (As := [.int i0]) (rest := st) hM q_323 q_178 q_17 q_179 (by decide +kernel) rfl hd (by decide) rfl hsum dec go
theorem dX10_colourHere_0 : decode cX10_colourHere 0 = .ok (.aload_n 2, 1) := by decide +kernel
theorem dX10_colourHere_1 : decode cX10_colourHere 1 = .ok (.aload_n 2, 1) := by decide +kernel
theorem dX10_colourHere_2 : decode cX10_colourHere 2 = .ok (.getfield 450, 3) := by decide +kernel
theorem dX10_colourHere_5 : decode cX10_colourHere 5 = .ok (.getfield 227, 3) := by decide +kernel
theorem dX10_colourHere_8 : decode cX10_colourHere 8 = .ok (.aload_n 2, 1) := by decide +kernel
theorem dX10_colourHere_9 : decode cX10_colourHere 9 = .ok (.getfield 454, 3) := by decide +kernel
theorem dX10_colourHere_12 : decode cX10_colourHere 12 = .ok (.getfield 227, 3) := by decide +kernel
theorem dX10_colourHere_15 : decode cX10_colourHere 15 = .ok (.aload_n 2, 1) := by decide +kernel
theorem dX10_colourHere_16 : decode cX10_colourHere 16 = .ok (.getfield 457, 3) := by decide +kernel
theorem dX10_colourHere_19 : decode cX10_colourHere 19 = .ok (.getfield 227, 3) := by decide +kernel
theorem dX10_colourHere_22 : decode cX10_colourHere 22 = .ok (.invokevirtual 460, 3) := by decide +kernel
theorem dX10_colourHere_25 : decode cX10_colourHere 25 = .ok (.istore_n 3, 1) := by decide +kernel
theorem dX10_colourHere_26 : decode cX10_colourHere 26 = .ok (.aload_n 2, 1) := by decide +kernel
theorem dX10_colourHere_27 : decode cX10_colourHere 27 = .ok (.aload_n 2, 1) := by decide +kernel
theorem dX10_colourHere_28 : decode cX10_colourHere 28 = .ok (.getfield 450, 3) := by decide +kernel
theorem dX10_colourHere_31 : decode cX10_colourHere 31 = .ok (.getfield 230, 3) := by decide +kernel
theorem dX10_colourHere_34 : decode cX10_colourHere 34 = .ok (.aload_n 2, 1) := by decide +kernel
theorem dX10_colourHere_35 : decode cX10_colourHere 35 = .ok (.getfield 454, 3) := by decide +kernel
theorem dX10_colourHere_38 : decode cX10_colourHere 38 = .ok (.getfield 230, 3) := by decide +kernel
theorem dX10_colourHere_41 : decode cX10_colourHere 41 = .ok (.aload_n 2, 1) := by decide +kernel
theorem dX10_colourHere_42 : decode cX10_colourHere 42 = .ok (.getfield 457, 3) := by decide +kernel
theorem dX10_colourHere_45 : decode cX10_colourHere 45 = .ok (.getfield 230, 3) := by decide +kernel
theorem dX10_colourHere_48 : decode cX10_colourHere 48 = .ok (.invokevirtual 460, 3) := by decide +kernel
theorem dX10_colourHere_51 : decode cX10_colourHere 51 = .ok (.istore 4, 2) := by decide +kernel
theorem dX10_colourHere_53 : decode cX10_colourHere 53 = .ok (.aload_n 2, 1) := by decide +kernel
theorem dX10_colourHere_54 : decode cX10_colourHere 54 = .ok (.aload_n 2, 1) := by decide +kernel
theorem dX10_colourHere_55 : decode cX10_colourHere 55 = .ok (.getfield 450, 3) := by decide +kernel
theorem dX10_colourHere_58 : decode cX10_colourHere 58 = .ok (.getfield 233, 3) := by decide +kernel
theorem dX10_colourHere_61 : decode cX10_colourHere 61 = .ok (.aload_n 2, 1) := by decide +kernel
theorem dX10_colourHere_62 : decode cX10_colourHere 62 = .ok (.getfield 454, 3) := by decide +kernel
theorem dX10_colourHere_65 : decode cX10_colourHere 65 = .ok (.getfield 233, 3) := by decide +kernel
theorem dX10_colourHere_68 : decode cX10_colourHere 68 = .ok (.aload_n 2, 1) := by decide +kernel
theorem dX10_colourHere_69 : decode cX10_colourHere 69 = .ok (.getfield 457, 3) := by decide +kernel
theorem dX10_colourHere_72 : decode cX10_colourHere 72 = .ok (.getfield 233, 3) := by decide +kernel
theorem dX10_colourHere_75 : decode cX10_colourHere 75 = .ok (.invokevirtual 460, 3) := by decide +kernel
theorem dX10_colourHere_78 : decode cX10_colourHere 78 = .ok (.istore 5, 2) := by decide +kernel
theorem dX10_colourHere_80 : decode cX10_colourHere 80 = .ok (.aload_n 1, 1) := by decide +kernel
theorem dX10_colourHere_81 : decode cX10_colourHere 81 = .ok (.getfield 137, 3) := by decide +kernel
theorem dX10_colourHere_84 : decode cX10_colourHere 84 = .ok (.iconst 0, 1) := by decide +kernel
theorem dX10_colourHere_85 : decode cX10_colourHere 85 = .ok (.iconst 3, 1) := by decide +kernel
theorem dX10_colourHere_86 : decode cX10_colourHere 86 = .ok (.invokestatic 86, 3) := by decide +kernel
theorem dX10_colourHere_89 : decode cX10_colourHere 89 = .ok (.ifCond .ne 12, 3) := by decide +kernel
theorem dX10_colourHere_92 : decode cX10_colourHere 92 = .ok (.iload_n 3, 1) := by decide +kernel
theorem dX10_colourHere_93 : decode cX10_colourHere 93 = .ok (.iload 4, 2) := by decide +kernel
theorem dX10_colourHere_95 : decode cX10_colourHere 95 = .ok (.iload 5, 2) := by decide +kernel
theorem dX10_colourHere_97 : decode cX10_colourHere 97 = .ok (.invokestatic 236, 3) := by decide +kernel
theorem dX10_colourHere_100 : decode cX10_colourHere 100 = .ok (.ireturn, 1) := by decide +kernel
theorem dX10_colourHere_101 : decode cX10_colourHere 101 = .ok (.aload_n 2, 1) := by decide +kernel
theorem dX10_colourHere_102 : decode cX10_colourHere 102 = .ok (.aload_n 2, 1) := by decide +kernel
theorem dX10_colourHere_103 : decode cX10_colourHere 103 = .ok (.getfield 450, 3) := by decide +kernel
theorem dX10_colourHere_106 : decode cX10_colourHere 106 = .ok (.getfield 225, 3) := by decide +kernel
theorem dX10_colourHere_109 : decode cX10_colourHere 109 = .ok (.aload_n 2, 1) := by decide +kernel
theorem dX10_colourHere_110 : decode cX10_colourHere 110 = .ok (.getfield 454, 3) := by decide +kernel
theorem dX10_colourHere_113 : decode cX10_colourHere 113 = .ok (.getfield 225, 3) := by decide +kernel
theorem dX10_colourHere_116 : decode cX10_colourHere 116 = .ok (.aload_n 2, 1) := by decide +kernel
theorem dX10_colourHere_117 : decode cX10_colourHere 117 = .ok (.getfield 457, 3) := by decide +kernel
theorem dX10_colourHere_120 : decode cX10_colourHere 120 = .ok (.getfield 225, 3) := by decide +kernel
theorem dX10_colourHere_123 : decode cX10_colourHere 123 = .ok (.invokevirtual 463, 3) := by decide +kernel
theorem dX10_colourHere_126 : decode cX10_colourHere 126 = .ok (.istore 6, 2) := by decide +kernel
theorem dX10_colourHere_128 : decode cX10_colourHere 128 = .ok (.aload_n 2, 1) := by decide +kernel
theorem dX10_colourHere_129 : decode cX10_colourHere 129 = .ok (.aload_n 2, 1) := by decide +kernel
theorem dX10_colourHere_130 : decode cX10_colourHere 130 = .ok (.getfield 450, 3) := by decide +kernel
theorem dX10_colourHere_133 : decode cX10_colourHere 133 = .ok (.getfield 226, 3) := by decide +kernel
theorem dX10_colourHere_136 : decode cX10_colourHere 136 = .ok (.aload_n 2, 1) := by decide +kernel
theorem dX10_colourHere_137 : decode cX10_colourHere 137 = .ok (.getfield 454, 3) := by decide +kernel
theorem dX10_colourHere_140 : decode cX10_colourHere 140 = .ok (.getfield 226, 3) := by decide +kernel
theorem dX10_colourHere_143 : decode cX10_colourHere 143 = .ok (.aload_n 2, 1) := by decide +kernel
theorem dX10_colourHere_144 : decode cX10_colourHere 144 = .ok (.getfield 457, 3) := by decide +kernel
theorem dX10_colourHere_147 : decode cX10_colourHere 147 = .ok (.getfield 226, 3) := by decide +kernel
theorem dX10_colourHere_150 : decode cX10_colourHere 150 = .ok (.invokevirtual 463, 3) := by decide +kernel
theorem dX10_colourHere_153 : decode cX10_colourHere 153 = .ok (.istore 7, 2) := by decide +kernel
theorem dX10_colourHere_155 : decode cX10_colourHere 155 = .ok (.aload_n 0, 1) := by decide +kernel
theorem dX10_colourHere_156 : decode cX10_colourHere 156 = .ok (.getfield 23, 3) := by decide +kernel
theorem dX10_colourHere_159 : decode cX10_colourHere 159 = .ok (.aload_n 1, 1) := by decide +kernel
theorem dX10_colourHere_160 : decode cX10_colourHere 160 = .ok (.getfield 137, 3) := by decide +kernel
theorem dX10_colourHere_163 : decode cX10_colourHere 163 = .ok (.aaload, 1) := by decide +kernel
theorem dX10_colourHere_164 : decode cX10_colourHere 164 = .ok (.iload 6, 2) := by decide +kernel
theorem dX10_colourHere_166 : decode cX10_colourHere 166 = .ok (.iload 7, 2) := by decide +kernel
theorem dX10_colourHere_168 : decode cX10_colourHere 168 = .ok (.invokevirtual 466, 3) := by decide +kernel
theorem dX10_colourHere_171 : decode cX10_colourHere 171 = .ok (.istore 8, 2) := by decide +kernel
theorem dX10_colourHere_173 : decode cX10_colourHere 173 = .ok (.iload 8, 2) := by decide +kernel
theorem dX10_colourHere_175 : decode cX10_colourHere 175 = .ok (.invokestatic 338, 3) := by decide +kernel
theorem dX10_colourHere_178 : decode cX10_colourHere 178 = .ok (.iload_n 3, 1) := by decide +kernel
theorem dX10_colourHere_179 : decode cX10_colourHere 179 = .ok (.imul, 1) := by decide +kernel
theorem dX10_colourHere_180 : decode cX10_colourHere 180 = .ok (.sipush 255, 3) := by decide +kernel
theorem dX10_colourHere_183 : decode cX10_colourHere 183 = .ok (.idiv, 1) := by decide +kernel
theorem dX10_colourHere_184 : decode cX10_colourHere 184 = .ok (.iload 8, 2) := by decide +kernel
theorem dX10_colourHere_186 : decode cX10_colourHere 186 = .ok (.invokestatic 341, 3) := by decide +kernel
theorem dX10_colourHere_189 : decode cX10_colourHere 189 = .ok (.iload 4, 2) := by decide +kernel
theorem dX10_colourHere_191 : decode cX10_colourHere 191 = .ok (.imul, 1) := by decide +kernel
theorem dX10_colourHere_192 : decode cX10_colourHere 192 = .ok (.sipush 255, 3) := by decide +kernel
theorem dX10_colourHere_195 : decode cX10_colourHere 195 = .ok (.idiv, 1) := by decide +kernel
theorem dX10_colourHere_196 : decode cX10_colourHere 196 = .ok (.iload 8, 2) := by decide +kernel
theorem dX10_colourHere_198 : decode cX10_colourHere 198 = .ok (.invokestatic 344, 3) := by decide +kernel
theorem dX10_colourHere_201 : decode cX10_colourHere 201 = .ok (.iload 5, 2) := by decide +kernel
theorem dX10_colourHere_203 : decode cX10_colourHere 203 = .ok (.imul, 1) := by decide +kernel
theorem dX10_colourHere_204 : decode cX10_colourHere 204 = .ok (.sipush 255, 3) := by decide +kernel
theorem dX10_colourHere_207 : decode cX10_colourHere 207 = .ok (.idiv, 1) := by decide +kernel
theorem dX10_colourHere_208 : decode cX10_colourHere 208 = .ok (.invokestatic 236, 3) := by decide +kernel
theorem dX10_colourHere_211 : decode cX10_colourHere 211 = .ok (.ireturn, 1) := by decide +kernel
def f_X10_colourHere (F : Nat) (p0 : Nat) (p1 : Nat) (M : GM) : Option Int32 := bndO (f_X6_mean F p1 (gI M (gP M p1 1) 5) (gI M (gP M p1 2) 5) (gI M (gP M p1 3) 5) M) (fun v5 => bnd v5 (fun v6 => bndO (f_X6_mean F p1 (gI M (gP M p1 1) 6) (gI M (gP M p1 2) 6) (gI M (gP M p1 3) 6) M) (fun v12 => bnd v12 (fun v13 => bndO (f_X6_mean F p1 (gI M (gP M p1 1) 7) (gI M (gP M p1 2) 7) (gI M (gP M p1 3) 7) M) (fun v19 => bnd v19 (fun v20 => if (f_X10_isWithin (gI M p0 3) (0 : Int32) (3 : Int32)) = 0 then (some (f_X10_mixed v6 v13 v20)) else (bndO (f_X6_weightedMean F p1 (gI M (gP M p1 1) 3) (gI M (gP M p1 2) 3) (gI M (gP M p1 3) 3) M) (fun v26 => bnd v26 (fun v27 => bndO (f_X6_weightedMean F p1 (gI M (gP M p1 1) 4) (gI M (gP M p1 2) 4) (gI M (gP M p1 3) 4) M) (fun v33 => bnd v33 (fun v34 => grd (gIn (gI M p0 3) (gN 3)) (bnd (gR 3 (gI M p0 3).toNatClampNeg) (fun o37 => bndO (f_X5_tintAt F o37 v27 v34 M) (fun v41 => bnd v41 (fun v42 => some (f_X10_mixed (((f_X10_redOf v42) * v6) / (255 : Int32)) (((f_X10_greenOf v42) * v13) / (255 : Int32)) (((f_X10_blueOf v42) * v20) / (255 : Int32))))))))))))))))))
set_option maxHeartbeats 4000000 in
set_option maxRecDepth 100000 in
theorem w_X10_colourHere {x : GX} (X : GC x cX10_colourHere 9 RX10 2) {p0 : Nat} {p1 : Nat} (h1 : gT p0 = 4) (h2 : gT p1 = 6) {F : Nat} {M : GM} {r9 : Int32} (hR : ∀ (v9 : Int32) (lv9 : List (Nat × Value)) (pc9 : Nat), r9 = v9 → decode cX10_colourHere pc9 = .ok (.ireturn, 1) → WG x M lv9 pc9 [.int v9]) (h : f_X10_colourHere F p0 p1 M = some r9) : WG x M [(0, .ref (gad (xz x) 0)), (1, .ref (gad (xz x) p0)), (2, .ref (gad (xz x) p1))] 0 [] := by
  unfold f_X10_colourHere at h
  refine g_aload_n X (j := 2) dX10_colourHere_0 rfl rfl ?_
  refine g_aload_n X (j := 2) dX10_colourHere_1 rfl rfl ?_
  refine gf_X10_450 X h2 dX10_colourHere_2 (fun k1 => ?_)
  refine gf_X10_227 X k1 dX10_colourHere_5 ?_
  refine g_aload_n X (j := 2) dX10_colourHere_8 rfl rfl ?_
  refine gf_X10_454 X h2 dX10_colourHere_9 (fun k2 => ?_)
  refine gf_X10_227 X k2 dX10_colourHere_12 ?_
  refine g_aload_n X (j := 2) dX10_colourHere_15 rfl rfl ?_
  refine gf_X10_457 X h2 dX10_colourHere_16 (fun k3 => ?_)
  refine gf_X10_227 X k3 dX10_colourHere_19 ?_
  obtain ⟨v5, hc4, h⟩ := bndO_e h
  refine gc_X10_460 X h2 (ct_X6_mean X.htr h2 hc4) (by decide) (Nat.le_of_ble_eq_true rfl) dX10_colourHere_22 ?_
  refine g_topi (fun v6 e7 => ?_)
  have h := bnd_e e7 h
  refine g_istore_n X (lv' := [(3, .int v6), (0, .ref (gad (xz x) 0)), (1, .ref (gad (xz x) p0)), (2, .ref (gad (xz x) p1))]) dX10_colourHere_25 rfl (by decide) rfl ?_
  refine g_aload_n X (j := 3) dX10_colourHere_26 rfl rfl ?_
  refine g_aload_n X (j := 3) dX10_colourHere_27 rfl rfl ?_
  refine gf_X10_450 X h2 dX10_colourHere_28 (fun k8 => ?_)
  refine gf_X10_230 X k8 dX10_colourHere_31 ?_
  refine g_aload_n X (j := 3) dX10_colourHere_34 rfl rfl ?_
  refine gf_X10_454 X h2 dX10_colourHere_35 (fun k9 => ?_)
  refine gf_X10_230 X k9 dX10_colourHere_38 ?_
  refine g_aload_n X (j := 3) dX10_colourHere_41 rfl rfl ?_
  refine gf_X10_457 X h2 dX10_colourHere_42 (fun k10 => ?_)
  refine gf_X10_230 X k10 dX10_colourHere_45 ?_
  obtain ⟨v12, hc11, h⟩ := bndO_e h
  refine gc_X10_460 X h2 (ct_X6_mean X.htr h2 hc11) (by decide) (Nat.le_of_ble_eq_true rfl) dX10_colourHere_48 ?_
  refine g_topi (fun v13 e14 => ?_)
  have h := bnd_e e14 h
  refine g_istore X (lv' := [(4, .int v13), (3, .int v6), (0, .ref (gad (xz x) 0)), (1, .ref (gad (xz x) p0)), (2, .ref (gad (xz x) p1))]) dX10_colourHere_51 (by decide) rfl ?_
  refine g_aload_n X (j := 4) dX10_colourHere_53 rfl rfl ?_
  refine g_aload_n X (j := 4) dX10_colourHere_54 rfl rfl ?_
  refine gf_X10_450 X h2 dX10_colourHere_55 (fun k15 => ?_)
  refine gf_X10_233 X k15 dX10_colourHere_58 ?_
  refine g_aload_n X (j := 4) dX10_colourHere_61 rfl rfl ?_
  refine gf_X10_454 X h2 dX10_colourHere_62 (fun k16 => ?_)
  refine gf_X10_233 X k16 dX10_colourHere_65 ?_
  refine g_aload_n X (j := 4) dX10_colourHere_68 rfl rfl ?_
  refine gf_X10_457 X h2 dX10_colourHere_69 (fun k17 => ?_)
  refine gf_X10_233 X k17 dX10_colourHere_72 ?_
  obtain ⟨v19, hc18, h⟩ := bndO_e h
  refine gc_X10_460 X h2 (ct_X6_mean X.htr h2 hc18) (by decide) (Nat.le_of_ble_eq_true rfl) dX10_colourHere_75 ?_
  refine g_topi (fun v20 e21 => ?_)
  have h := bnd_e e21 h
  refine g_istore X (lv' := [(5, .int v20), (4, .int v13), (3, .int v6), (0, .ref (gad (xz x) 0)), (1, .ref (gad (xz x) p0)), (2, .ref (gad (xz x) p1))]) dX10_colourHere_78 (by decide) rfl ?_
  refine g_aload_n X (j := 4) dX10_colourHere_80 rfl rfl ?_
  refine gf_X10_137 X h1 dX10_colourHere_81 ?_
  refine g_iconst X (v := 0) dX10_colourHere_84 (by decide) ?_
  refine g_iconst X (v := 3) dX10_colourHere_85 (by decide) ?_
  refine gc_X10_86 X (ct_X10_isWithin X.htr ) (by decide) (Nat.le_of_ble_eq_true rfl) dX10_colourHere_86 ?_
  refine g_if_ne X (tgt := 101) dX10_colourHere_89 (by decide) (fun hb => ?_) (fun hb => ?_)
  · have h := ite_f hb h
    refine g_aload_n X (j := 5) dX10_colourHere_101 rfl rfl ?_
    refine g_aload_n X (j := 5) dX10_colourHere_102 rfl rfl ?_
    refine gf_X10_450 X h2 dX10_colourHere_103 (fun k22 => ?_)
    refine gf_X10_225 X k22 dX10_colourHere_106 ?_
    refine g_aload_n X (j := 5) dX10_colourHere_109 rfl rfl ?_
    refine gf_X10_454 X h2 dX10_colourHere_110 (fun k23 => ?_)
    refine gf_X10_225 X k23 dX10_colourHere_113 ?_
    refine g_aload_n X (j := 5) dX10_colourHere_116 rfl rfl ?_
    refine gf_X10_457 X h2 dX10_colourHere_117 (fun k24 => ?_)
    refine gf_X10_225 X k24 dX10_colourHere_120 ?_
    obtain ⟨v26, hc25, h⟩ := bndO_e h
    refine gc_X10_463 X h2 (ct_X6_weightedMean X.htr h2 hc25) (by decide) (Nat.le_of_ble_eq_true rfl) dX10_colourHere_123 ?_
    refine g_topi (fun v27 e28 => ?_)
    have h := bnd_e e28 h
    refine g_istore X (lv' := [(6, .int v27), (5, .int v20), (4, .int v13), (3, .int v6), (0, .ref (gad (xz x) 0)), (1, .ref (gad (xz x) p0)), (2, .ref (gad (xz x) p1))]) dX10_colourHere_126 (by decide) rfl ?_
    refine g_aload_n X (j := 6) dX10_colourHere_128 rfl rfl ?_
    refine g_aload_n X (j := 6) dX10_colourHere_129 rfl rfl ?_
    refine gf_X10_450 X h2 dX10_colourHere_130 (fun k29 => ?_)
    refine gf_X10_226 X k29 dX10_colourHere_133 ?_
    refine g_aload_n X (j := 6) dX10_colourHere_136 rfl rfl ?_
    refine gf_X10_454 X h2 dX10_colourHere_137 (fun k30 => ?_)
    refine gf_X10_226 X k30 dX10_colourHere_140 ?_
    refine g_aload_n X (j := 6) dX10_colourHere_143 rfl rfl ?_
    refine gf_X10_457 X h2 dX10_colourHere_144 (fun k31 => ?_)
    refine gf_X10_226 X k31 dX10_colourHere_147 ?_
    obtain ⟨v33, hc32, h⟩ := bndO_e h
    refine gc_X10_463 X h2 (ct_X6_weightedMean X.htr h2 hc32) (by decide) (Nat.le_of_ble_eq_true rfl) dX10_colourHere_150 ?_
    refine g_topi (fun v34 e35 => ?_)
    have h := bnd_e e35 h
    refine g_istore X (lv' := [(7, .int v34), (6, .int v27), (5, .int v20), (4, .int v13), (3, .int v6), (0, .ref (gad (xz x) 0)), (1, .ref (gad (xz x) p0)), (2, .ref (gad (xz x) p1))]) dX10_colourHere_153 (by decide) rfl ?_
    refine g_aload_n X (j := 5) dX10_colourHere_155 rfl rfl ?_
    refine gf_X10_23 X gT_c0 dX10_colourHere_156 ?_
    refine g_aload_n X (j := 6) dX10_colourHere_159 rfl rfl ?_
    refine gf_X10_137 X h1 dX10_colourHere_160 ?_
    obtain ⟨hg36, h⟩ := grd_e h
    refine g_aald_25 X gT_c3 hg36 dX10_colourHere_163 ?_
    refine g_topr (fun o37 e38 => ?_)
    have h := bnd_e e38 h
    have k39 : gT o37 = 5 := by rw [e38]; exact gR_25 gT_c3 (gIn_lt hg36)
    refine g_iload X (j := 1) dX10_colourHere_164 rfl ?_
    refine g_iload X (j := 0) dX10_colourHere_166 rfl ?_
    obtain ⟨v41, hc40, h⟩ := bndO_e h
    refine gc_X10_466 X k39 (ct_X5_tintAt X.htr k39 hc40) (by decide) (Nat.le_of_ble_eq_true rfl) dX10_colourHere_168 ?_
    refine g_topi (fun v42 e43 => ?_)
    have h := bnd_e e43 h
    refine g_istore X (lv' := [(8, .int v42), (7, .int v34), (6, .int v27), (5, .int v20), (4, .int v13), (3, .int v6), (0, .ref (gad (xz x) 0)), (1, .ref (gad (xz x) p0)), (2, .ref (gad (xz x) p1))]) dX10_colourHere_171 (by decide) rfl ?_
    refine g_iload X (j := 0) dX10_colourHere_173 rfl ?_
    refine gc_X10_338 X (ct_X10_redOf X.htr ) (by decide) (Nat.le_of_ble_eq_true rfl) dX10_colourHere_175 ?_
    refine g_iload_n X (j := 5) dX10_colourHere_178 rfl rfl ?_
    refine g_imul X dX10_colourHere_179 ?_
    refine g_sipush X (v := 255) dX10_colourHere_180 (by decide) ?_
    refine g_idiv X dX10_colourHere_183 (by decide) ?_
    refine g_iload X (j := 0) dX10_colourHere_184 rfl ?_
    refine gc_X10_341 X (ct_X10_greenOf X.htr ) (by decide) (Nat.le_of_ble_eq_true rfl) dX10_colourHere_186 ?_
    refine g_iload X (j := 4) dX10_colourHere_189 rfl ?_
    refine g_imul X dX10_colourHere_191 ?_
    refine g_sipush X (v := 255) dX10_colourHere_192 (by decide) ?_
    refine g_idiv X dX10_colourHere_195 (by decide) ?_
    refine g_iload X (j := 0) dX10_colourHere_196 rfl ?_
    refine gc_X10_344 X (ct_X10_blueOf X.htr ) (by decide) (Nat.le_of_ble_eq_true rfl) dX10_colourHere_198 ?_
    refine g_iload X (j := 3) dX10_colourHere_201 rfl ?_
    refine g_imul X dX10_colourHere_203 ?_
    refine g_sipush X (v := 255) dX10_colourHere_204 (by decide) ?_
    refine g_idiv X dX10_colourHere_207 (by decide) ?_
    refine gc_X10_236 X (ct_X10_mixed X.htr ) (by decide) (Nat.le_of_ble_eq_true rfl) dX10_colourHere_208 ?_
    exact hR (f_X10_mixed (((f_X10_redOf v42) * v6) / (255 : Int32)) (((f_X10_greenOf v42) * v13) / (255 : Int32)) (((f_X10_blueOf v42) * v20) / (255 : Int32))) _ _ (Option.some.inj h).symm dX10_colourHere_211
  · have h := ite_t hb h
    refine g_iload_n X (j := 2) dX10_colourHere_92 rfl rfl ?_
    refine g_iload X (j := 1) dX10_colourHere_93 rfl ?_
    refine g_iload X (j := 0) dX10_colourHere_95 rfl ?_
    refine gc_X10_236 X (ct_X10_mixed X.htr ) (by decide) (Nat.le_of_ble_eq_true rfl) dX10_colourHere_97 ?_
    exact hR (f_X10_mixed v6 v13 v20) _ _ (Option.some.inj h).symm dX10_colourHere_100
theorem ct_X10_colourHere {l : Launch} {z : GZ} (htr : l.stackTraces = false) {p0 : Nat} {p1 : Nat} (h1 : gT p0 = 4) (h2 : gT p1 = 6) {M : GM} {F : Nat} {v : Int32} (h : f_X10_colourHere F p0 p1 M = some v) : gMet l z yX10_colourHere cX10_colourHere 9 (some .int) 2 [.ref (gad z 0), .ref (gad z p0), .ref (gad z p1)] M (some (.int v)) M := gMet_ofI (by decide +kernel) (Nat.le_of_ble_eq_true rfl) htr rfl (fun x X ez el hR => by subst ez; subst el; exact w_X10_colourHere X h1 h2 (fun v9 lv9 pc9 e9 d9 => by cases e9; exact hR lv9 pc9 d9) h)
theorem gc_X10_278 {x : GX} {cc : ByteArray} {nL d pc : Nat} {M : GM} {lv : List (Nat × Value)} {st : List Value} (X : GC x cc nL RX10 d) {i0 : Nat} {i1 : Nat} {M1 : GM} {r : Int32} (ht : gT 0 = 10) (hM : gMet (xl x) (xz x) yX10_colourHere cX10_colourHere 9 (some .int) 2 [.ref (gad (xz x) 0), .ref (gad (xz x) i0), .ref (gad (xz x) i1)] M (some (.int r)) M1) (hd : 3 ≤ d) (hsum : (st.map fun v => v.category).sum ≤ 8) (dec : decode cc pc = .ok (.invokevirtual 278, 3)) (go : WG x M1 lv (pc + 3) (.int r :: st)) : WG x M lv pc (.ref (gad (xz x) i1) :: .ref (gad (xz x) i0) :: .ref (gad (xz x) 0) :: st) := g_callV X (n := 2) (As := [.ref (gad (xz x) i0), .ref (gad (xz x) i1)]) (rest := st) hM ht (by decide) (gE_10 ht) rfl q_299 q_301 q_4 q_17 q_302 (by decide +kernel) rfl hd (by decide) rfl hsum dec go
theorem dX10_colourOf_0 : decode cX10_colourOf 0 = .ok (.aload_n 0, 1) := by decide +kernel
theorem dX10_colourOf_1 : decode cX10_colourOf 1 = .ok (.iload_n 1, 1) := by decide +kernel
theorem dX10_colourOf_2 : decode cX10_colourOf 2 = .ok (.invokevirtual 150, 3) := by decide +kernel
theorem dX10_colourOf_5 : decode cX10_colourOf 5 = .ok (.iload_n 2, 1) := by decide +kernel
theorem dX10_colourOf_6 : decode cX10_colourOf 6 = .ok (.iload_n 3, 1) := by decide +kernel
theorem dX10_colourOf_7 : decode cX10_colourOf 7 = .ok (.invokestatic 271, 3) := by decide +kernel
theorem dX10_colourOf_10 : decode cX10_colourOf 10 = .ok (.aload_n 0, 1) := by decide +kernel
theorem dX10_colourOf_11 : decode cX10_colourOf 11 = .ok (.iload_n 1, 1) := by decide +kernel
theorem dX10_colourOf_12 : decode cX10_colourOf 12 = .ok (.invokevirtual 199, 3) := by decide +kernel
theorem dX10_colourOf_15 : decode cX10_colourOf 15 = .ok (.aload_n 0, 1) := by decide +kernel
theorem dX10_colourOf_16 : decode cX10_colourOf 16 = .ok (.getfield 37, 3) := by decide +kernel
theorem dX10_colourOf_19 : decode cX10_colourOf 19 = .ok (.iload_n 2, 1) := by decide +kernel
theorem dX10_colourOf_20 : decode cX10_colourOf 20 = .ok (.iload_n 3, 1) := by decide +kernel
theorem dX10_colourOf_21 : decode cX10_colourOf 21 = .ok (.invokevirtual 267, 3) := by decide +kernel
theorem dX10_colourOf_24 : decode cX10_colourOf 24 = .ok (.istore 4, 2) := by decide +kernel
theorem dX10_colourOf_26 : decode cX10_colourOf 26 = .ok (.iload 4, 2) := by decide +kernel
theorem dX10_colourOf_28 : decode cX10_colourOf 28 = .ok (.iconst (-1), 1) := by decide +kernel
theorem dX10_colourOf_29 : decode cX10_colourOf 29 = .ok (.if_icmp .ne 7, 3) := by decide +kernel
theorem dX10_colourOf_32 : decode cX10_colourOf 32 = .ok (.iconst (-1), 1) := by decide +kernel
theorem dX10_colourOf_33 : decode cX10_colourOf 33 = .ok (.goto 23, 3) := by decide +kernel
theorem dX10_colourOf_36 : decode cX10_colourOf 36 = .ok (.aload_n 0, 1) := by decide +kernel
theorem dX10_colourOf_37 : decode cX10_colourOf 37 = .ok (.aload_n 0, 1) := by decide +kernel
theorem dX10_colourOf_38 : decode cX10_colourOf 38 = .ok (.getfield 17, 3) := by decide +kernel
theorem dX10_colourOf_41 : decode cX10_colourOf 41 = .ok (.iload_n 1, 1) := by decide +kernel
theorem dX10_colourOf_42 : decode cX10_colourOf 42 = .ok (.aaload, 1) := by decide +kernel
theorem dX10_colourOf_43 : decode cX10_colourOf 43 = .ok (.aload_n 0, 1) := by decide +kernel
theorem dX10_colourOf_44 : decode cX10_colourOf 44 = .ok (.getfield 37, 3) := by decide +kernel
theorem dX10_colourOf_47 : decode cX10_colourOf 47 = .ok (.getfield 258, 3) := by decide +kernel
theorem dX10_colourOf_50 : decode cX10_colourOf 50 = .ok (.iload 4, 2) := by decide +kernel
theorem dX10_colourOf_52 : decode cX10_colourOf 52 = .ok (.aaload, 1) := by decide +kernel
theorem dX10_colourOf_53 : decode cX10_colourOf 53 = .ok (.invokevirtual 278, 3) := by decide +kernel
theorem dX10_colourOf_56 : decode cX10_colourOf 56 = .ok (.ireturn, 1) := by decide +kernel
def f_X10_colourOf (F : Nat) (i0 : Int32) (i1 : Int32) (i2 : Int32) (M : GM) : Option ((Nat × GM) ⊕ (Int32 × GM)) := bndT (f_X10_requirePane F i0 M) (fun n2 => some (Sum.inl (n2, M))) (fun _ => bndT (f_X10_requirePoint F i1 i2 M) (fun n4 => some (Sum.inl (n4, M))) (fun _ => bndO (f_X10_formShape F i0 M) (fun M6 => bndO (f_X8_firstPieceAt F i1 i2 M6) (fun (v8, M9) => bnd v8 (fun v10 => if v10 = ((-1) : Int32) then (some (Sum.inr (((-1) : Int32), M9))) else (grd (gIn i0 (gN 2)) (bnd (gR 2 i0.toNatClampNeg) (fun o13 => grd (gIn v10 (gN 16)) (bnd (gR 16 v10.toNatClampNeg) (fun o17 => bndO (f_X10_colourHere F o13 o17 M9) (fun v21 => some (Sum.inr (v21, M9)))))))))))))
set_option maxHeartbeats 4000000 in
set_option maxRecDepth 100000 in
theorem w_X10_colourOf {x : GX} (X : GC x cX10_colourOf 5 RX10 7) {i0 : Int32} {i1 : Int32} {i2 : Int32}  {F : Nat} {M : GM} {r9 : ((Nat × GM) ⊕ (Int32 × GM))} (hR : ∀ (v9 : Int32) (M9 : GM) (lv9 : List (Nat × Value)) (pc9 : Nat), r9 = Sum.inr (v9, M9) → decode cX10_colourOf pc9 = .ok (.ireturn, 1) → WG x M9 lv9 pc9 [.int v9]) (hX : ∀ (n9 : Nat) (M9 : GM), r9 = Sum.inl (n9, M9) → GThr x n9 M9) (h : f_X10_colourOf F i0 i1 i2 M = some r9) : WG x M [(0, .ref (gad (xz x) 0)), (1, .int i0), (2, .int i1), (3, .int i2)] 0 [] := by
  unfold f_X10_colourOf at h
  refine g_aload_n X (j := 0) dX10_colourOf_0 rfl rfl ?_
  refine g_iload_n X (j := 1) dX10_colourOf_1 rfl rfl ?_
  rcases bndT_e h with ⟨n2, hc1, h⟩ | ⟨⟨⟩, hc1, h⟩
  · exact gx_X10_150 X gT_c0 (cx_X10_requirePane X.htr  hc1) (by decide) (Nat.le_of_ble_eq_true rfl) dX10_colourOf_2 (hX n2 M (Option.some.inj h).symm)
  refine gc_X10_150 X gT_c0 (ct_X10_requirePane X.htr  hc1) (by decide) (Nat.le_of_ble_eq_true rfl) dX10_colourOf_2 ?_
  refine g_iload_n X (j := 2) dX10_colourOf_5 rfl rfl ?_
  refine g_iload_n X (j := 3) dX10_colourOf_6 rfl rfl ?_
  rcases bndT_e h with ⟨n4, hc3, h⟩ | ⟨⟨⟩, hc3, h⟩
  · exact gx_X10_271 X (cx_X10_requirePoint X.htr  hc3) (by decide) (Nat.le_of_ble_eq_true rfl) dX10_colourOf_7 (hX n4 M (Option.some.inj h).symm)
  refine gc_X10_271 X (ct_X10_requirePoint X.htr  hc3) (by decide) (Nat.le_of_ble_eq_true rfl) dX10_colourOf_7 ?_
  refine g_aload_n X (j := 0) dX10_colourOf_10 rfl rfl ?_
  refine g_iload_n X (j := 1) dX10_colourOf_11 rfl rfl ?_
  obtain ⟨M6, hc5, h⟩ := bndO_e h
  refine gc_X10_199 X gT_c0 (ct_X10_formShape X.htr  hc5) (by decide) (Nat.le_of_ble_eq_true rfl) dX10_colourOf_12 ?_
  refine g_aload_n X (j := 0) dX10_colourOf_15 rfl rfl ?_
  refine gf_X10_37 X gT_c0 dX10_colourOf_16 ?_
  refine g_iload_n X (j := 2) dX10_colourOf_19 rfl rfl ?_
  refine g_iload_n X (j := 3) dX10_colourOf_20 rfl rfl ?_
  obtain ⟨⟨v8, M9⟩, hc7, h⟩ := bndO_e h
  refine gc_X10_267 X gT_c6 (ct_X8_firstPieceAt X.htr  hc7) (by decide) (Nat.le_of_ble_eq_true rfl) dX10_colourOf_21 ?_
  refine g_topi (fun v10 e11 => ?_)
  have h := bnd_e e11 h
  refine g_istore X (lv' := [(4, .int v10), (0, .ref (gad (xz x) 0)), (1, .int i0), (2, .int i1), (3, .int i2)]) dX10_colourOf_24 (by decide) rfl ?_
  refine g_iload X (j := 0) dX10_colourOf_26 rfl ?_
  refine g_iconst X (v := (-1)) dX10_colourOf_28 (by decide) ?_
  refine g_icmp_ne X (tgt := 36) dX10_colourOf_29 (by decide) (fun hb => ?_) (fun hb => ?_)
  · have h := ite_f hb h
    refine g_aload_n X (j := 1) dX10_colourOf_36 rfl rfl ?_
    refine g_aload_n X (j := 1) dX10_colourOf_37 rfl rfl ?_
    refine gf_X10_17 X gT_c0 dX10_colourOf_38 ?_
    refine g_iload_n X (j := 2) dX10_colourOf_41 rfl rfl ?_
    obtain ⟨hg12, h⟩ := grd_e h
    refine g_aald_24 X gT_c2 hg12 dX10_colourOf_42 ?_
    refine g_topr (fun o13 e14 => ?_)
    have h := bnd_e e14 h
    have k15 : gT o13 = 4 := by rw [e14]; exact gR_24 gT_c2 (gIn_lt hg12)
    refine g_aload_n X (j := 1) dX10_colourOf_43 rfl rfl ?_
    refine gf_X10_37 X gT_c0 dX10_colourOf_44 ?_
    refine gf_X10_258 X gT_c6 dX10_colourOf_47 ?_
    refine g_iload X (j := 0) dX10_colourOf_50 rfl ?_
    obtain ⟨hg16, h⟩ := grd_e h
    refine g_aald_27 X gT_c16 hg16 dX10_colourOf_52 ?_
    refine g_topr (fun o17 e18 => ?_)
    have h := bnd_e e18 h
    have k19 : gT o17 = 6 := by rw [e18]; exact gR_27 gT_c16 (gIn_lt hg16)
    obtain ⟨v21, hc20, h⟩ := bndO_e h
    refine gc_X10_278 X gT_c0 (ct_X10_colourHere X.htr k15 k19 hc20) (by decide) (Nat.le_of_ble_eq_true rfl) dX10_colourOf_53 ?_
    exact hR v21 M9 _ _ (Option.some.inj h).symm dX10_colourOf_56
  · have h := ite_t hb h
    refine g_iconst X (v := (-1)) dX10_colourOf_32 (by decide) ?_
    refine g_goto X (tgt := 56) dX10_colourOf_33 (by decide) ?_
    exact hR ((-1) : Int32) M9 _ _ (Option.some.inj h).symm dX10_colourOf_56
theorem ct_X10_colourOf {l : Launch} {z : GZ} (htr : l.stackTraces = false) {i0 : Int32} {i1 : Int32} {i2 : Int32}  {M : GM} {F : Nat} {v : Int32} {M1 : GM} (h : f_X10_colourOf F i0 i1 i2 M = some (Sum.inr (v, M1))) : gMet l z yX10_colourOf cX10_colourOf 5 (some .int) 7 [.ref (gad z 0), .int i0, .int i1, .int i2] M (some (.int v)) M1 := gMet_ofI (by decide +kernel) (Nat.le_of_ble_eq_true rfl) htr rfl (fun x X ez el hR => by subst ez; subst el; exact w_X10_colourOf X  (fun v9 M9 lv9 pc9 e9 d9 => by cases e9; exact hR lv9 pc9 d9) (by intros; rename_i e9; cases e9) h)
theorem cx_X10_colourOf {l : Launch} {z : GZ} (htr : l.stackTraces = false) {i0 : Int32} {i1 : Int32} {i2 : Int32}  {M : GM} {F n : Nat} {M1 : GM} (h : f_X10_colourOf F i0 i1 i2 M = some (Sum.inl (n, M1))) : gMetX l z yX10_colourOf cX10_colourOf 5 (some .int) 7 [.ref (gad z 0), .int i0, .int i1, .int i2] M n M1 := gMetX_of (by decide +kernel) (Nat.le_of_ble_eq_true rfl) htr (fun x X ez el hT => by subst ez; subst el; exact w_X10_colourOf X  (by intros; rename_i e9 _; cases e9) (fun n9 M9 e9 => by cases e9; exact hT) h)
theorem dX10_halfOfBoth_0 : decode cX10_halfOfBoth 0 = .ok (.iload_n 0, 1) := by decide +kernel
theorem dX10_halfOfBoth_1 : decode cX10_halfOfBoth 1 = .ok (.invokestatic 338, 3) := by decide +kernel
theorem dX10_halfOfBoth_4 : decode cX10_halfOfBoth 4 = .ok (.iload_n 1, 1) := by decide +kernel
theorem dX10_halfOfBoth_5 : decode cX10_halfOfBoth 5 = .ok (.invokestatic 338, 3) := by decide +kernel
theorem dX10_halfOfBoth_8 : decode cX10_halfOfBoth 8 = .ok (.iadd, 1) := by decide +kernel
theorem dX10_halfOfBoth_9 : decode cX10_halfOfBoth 9 = .ok (.iconst 2, 1) := by decide +kernel
theorem dX10_halfOfBoth_10 : decode cX10_halfOfBoth 10 = .ok (.idiv, 1) := by decide +kernel
theorem dX10_halfOfBoth_11 : decode cX10_halfOfBoth 11 = .ok (.iload_n 0, 1) := by decide +kernel
theorem dX10_halfOfBoth_12 : decode cX10_halfOfBoth 12 = .ok (.invokestatic 341, 3) := by decide +kernel
theorem dX10_halfOfBoth_15 : decode cX10_halfOfBoth 15 = .ok (.iload_n 1, 1) := by decide +kernel
theorem dX10_halfOfBoth_16 : decode cX10_halfOfBoth 16 = .ok (.invokestatic 341, 3) := by decide +kernel
theorem dX10_halfOfBoth_19 : decode cX10_halfOfBoth 19 = .ok (.iadd, 1) := by decide +kernel
theorem dX10_halfOfBoth_20 : decode cX10_halfOfBoth 20 = .ok (.iconst 2, 1) := by decide +kernel
theorem dX10_halfOfBoth_21 : decode cX10_halfOfBoth 21 = .ok (.idiv, 1) := by decide +kernel
theorem dX10_halfOfBoth_22 : decode cX10_halfOfBoth 22 = .ok (.iload_n 0, 1) := by decide +kernel
theorem dX10_halfOfBoth_23 : decode cX10_halfOfBoth 23 = .ok (.invokestatic 344, 3) := by decide +kernel
theorem dX10_halfOfBoth_26 : decode cX10_halfOfBoth 26 = .ok (.iload_n 1, 1) := by decide +kernel
theorem dX10_halfOfBoth_27 : decode cX10_halfOfBoth 27 = .ok (.invokestatic 344, 3) := by decide +kernel
theorem dX10_halfOfBoth_30 : decode cX10_halfOfBoth 30 = .ok (.iadd, 1) := by decide +kernel
theorem dX10_halfOfBoth_31 : decode cX10_halfOfBoth 31 = .ok (.iconst 2, 1) := by decide +kernel
theorem dX10_halfOfBoth_32 : decode cX10_halfOfBoth 32 = .ok (.idiv, 1) := by decide +kernel
theorem dX10_halfOfBoth_33 : decode cX10_halfOfBoth 33 = .ok (.invokestatic 236, 3) := by decide +kernel
theorem dX10_halfOfBoth_36 : decode cX10_halfOfBoth 36 = .ok (.ireturn, 1) := by decide +kernel
def f_X10_halfOfBoth (i0 : Int32) (i1 : Int32) : Int32 := (f_X10_mixed (((f_X10_redOf i0) + (f_X10_redOf i1)) / (2 : Int32)) (((f_X10_greenOf i0) + (f_X10_greenOf i1)) / (2 : Int32)) (((f_X10_blueOf i0) + (f_X10_blueOf i1)) / (2 : Int32)))
set_option maxHeartbeats 4000000 in
set_option maxRecDepth 100000 in
theorem w_X10_halfOfBoth {x : GX} (X : GC x cX10_halfOfBoth 2 RX10 1) {i0 : Int32} {i1 : Int32}  {M : GM} {r9 : Int32} (hR : ∀ (v9 : Int32) (lv9 : List (Nat × Value)) (pc9 : Nat), r9 = v9 → decode cX10_halfOfBoth pc9 = .ok (.ireturn, 1) → WG x M lv9 pc9 [.int v9]) (h : f_X10_halfOfBoth i0 i1 = r9) : WG x M [(0, .int i0), (1, .int i1)] 0 [] := by
  unfold f_X10_halfOfBoth at h
  refine g_iload_n X (j := 0) dX10_halfOfBoth_0 rfl rfl ?_
  refine gc_X10_338 X (ct_X10_redOf X.htr ) (by decide) (Nat.le_of_ble_eq_true rfl) dX10_halfOfBoth_1 ?_
  refine g_iload_n X (j := 1) dX10_halfOfBoth_4 rfl rfl ?_
  refine gc_X10_338 X (ct_X10_redOf X.htr ) (by decide) (Nat.le_of_ble_eq_true rfl) dX10_halfOfBoth_5 ?_
  refine g_iadd X dX10_halfOfBoth_8 ?_
  refine g_iconst X (v := 2) dX10_halfOfBoth_9 (by decide) ?_
  refine g_idiv X dX10_halfOfBoth_10 (by decide) ?_
  refine g_iload_n X (j := 0) dX10_halfOfBoth_11 rfl rfl ?_
  refine gc_X10_341 X (ct_X10_greenOf X.htr ) (by decide) (Nat.le_of_ble_eq_true rfl) dX10_halfOfBoth_12 ?_
  refine g_iload_n X (j := 1) dX10_halfOfBoth_15 rfl rfl ?_
  refine gc_X10_341 X (ct_X10_greenOf X.htr ) (by decide) (Nat.le_of_ble_eq_true rfl) dX10_halfOfBoth_16 ?_
  refine g_iadd X dX10_halfOfBoth_19 ?_
  refine g_iconst X (v := 2) dX10_halfOfBoth_20 (by decide) ?_
  refine g_idiv X dX10_halfOfBoth_21 (by decide) ?_
  refine g_iload_n X (j := 0) dX10_halfOfBoth_22 rfl rfl ?_
  refine gc_X10_344 X (ct_X10_blueOf X.htr ) (by decide) (Nat.le_of_ble_eq_true rfl) dX10_halfOfBoth_23 ?_
  refine g_iload_n X (j := 1) dX10_halfOfBoth_26 rfl rfl ?_
  refine gc_X10_344 X (ct_X10_blueOf X.htr ) (by decide) (Nat.le_of_ble_eq_true rfl) dX10_halfOfBoth_27 ?_
  refine g_iadd X dX10_halfOfBoth_30 ?_
  refine g_iconst X (v := 2) dX10_halfOfBoth_31 (by decide) ?_
  refine g_idiv X dX10_halfOfBoth_32 (by decide) ?_
  refine gc_X10_236 X (ct_X10_mixed X.htr ) (by decide) (Nat.le_of_ble_eq_true rfl) dX10_halfOfBoth_33 ?_
  exact hR (f_X10_mixed (((f_X10_redOf i0) + (f_X10_redOf i1)) / (2 : Int32)) (((f_X10_greenOf i0) + (f_X10_greenOf i1)) / (2 : Int32)) (((f_X10_blueOf i0) + (f_X10_blueOf i1)) / (2 : Int32))) _ _ h.symm dX10_halfOfBoth_36
theorem ct_X10_halfOfBoth {l : Launch} {z : GZ} (htr : l.stackTraces = false) {i0 : Int32} {i1 : Int32}  {M : GM} : gMet l z yX10_halfOfBoth cX10_halfOfBoth 2 (some .int) 1 [.int i0, .int i1] M (some (.int (f_X10_halfOfBoth i0 i1))) M := gMet_ofI (by decide +kernel) (Nat.le_of_ble_eq_true rfl) htr rfl (fun x X ez el hR => by subst ez; subst el; exact w_X10_halfOfBoth X  (fun v9 lv9 pc9 e9 d9 => by cases e9; exact hR lv9 pc9 d9) rfl)
theorem gc_X10_496 {x : GX} {cc : ByteArray} {nL d pc : Nat} {M : GM} {lv : List (Nat × Value)} {st : List Value} (X : GC x cc nL RX10 d) {i0 : Int32} {i1 : Int32} {M1 : GM} {r : Int32} (hM : gMet (xl x) (xz x) yX10_halfOfBoth cX10_halfOfBoth 2 (some .int) 1 [.int i0, .int i1] M (some (.int r)) M1) (hd : 2 ≤ d) (hsum : (st.map fun v => v.category).sum ≤ 8) (dec : decode cc pc = .ok (.invokestatic 496, 3)) (go : WG x M1 lv (pc + 3) (.int r :: st)) : WG x M lv pc (.int i1 :: .int i0 :: st) := g_callS X (n := 2) (As := [.int i0, .int i1]) (rest := st) hM q_352 q_353 q_17 q_354 (by decide +kernel) rfl hd (by decide) rfl hsum dec go
theorem dX10_paintPoint_0 : decode cX10_paintPoint 0 = .ok (.aload 4, 2) := by decide +kernel
theorem dX10_paintPoint_2 : decode cX10_paintPoint 2 = .ok (.invokevirtual 275, 3) := by decide +kernel
theorem dX10_paintPoint_5 : decode cX10_paintPoint 5 = .ok (.istore 5, 2) := by decide +kernel
theorem dX10_paintPoint_7 : decode cX10_paintPoint 7 = .ok (.iload 5, 2) := by decide +kernel
theorem dX10_paintPoint_9 : decode cX10_paintPoint 9 = .ok (.aload_n 1, 1) := by decide +kernel
theorem dX10_paintPoint_10 : decode cX10_paintPoint 10 = .ok (.getfield 309, 3) := by decide +kernel
theorem dX10_paintPoint_13 : decode cX10_paintPoint 13 = .ok (.iload_n 2, 1) := by decide +kernel
theorem dX10_paintPoint_14 : decode cX10_paintPoint 14 = .ok (.iaload, 1) := by decide +kernel
theorem dX10_paintPoint_15 : decode cX10_paintPoint 15 = .ok (.if_icmp .lt 5, 3) := by decide +kernel
theorem dX10_paintPoint_18 : decode cX10_paintPoint 18 = .ok (.iconst 0, 1) := by decide +kernel
theorem dX10_paintPoint_19 : decode cX10_paintPoint 19 = .ok (.ireturn, 1) := by decide +kernel
theorem dX10_paintPoint_20 : decode cX10_paintPoint 20 = .ok (.aload_n 0, 1) := by decide +kernel
theorem dX10_paintPoint_21 : decode cX10_paintPoint 21 = .ok (.getfield 17, 3) := by decide +kernel
theorem dX10_paintPoint_24 : decode cX10_paintPoint 24 = .ok (.iload_n 3, 1) := by decide +kernel
theorem dX10_paintPoint_25 : decode cX10_paintPoint 25 = .ok (.aaload, 1) := by decide +kernel
theorem dX10_paintPoint_26 : decode cX10_paintPoint 26 = .ok (.astore 6, 2) := by decide +kernel
theorem dX10_paintPoint_28 : decode cX10_paintPoint 28 = .ok (.aload_n 0, 1) := by decide +kernel
theorem dX10_paintPoint_29 : decode cX10_paintPoint 29 = .ok (.aload 6, 2) := by decide +kernel
theorem dX10_paintPoint_31 : decode cX10_paintPoint 31 = .ok (.aload 4, 2) := by decide +kernel
theorem dX10_paintPoint_33 : decode cX10_paintPoint 33 = .ok (.invokevirtual 278, 3) := by decide +kernel
theorem dX10_paintPoint_36 : decode cX10_paintPoint 36 = .ok (.istore 7, 2) := by decide +kernel
theorem dX10_paintPoint_38 : decode cX10_paintPoint 38 = .ok (.aload 6, 2) := by decide +kernel
theorem dX10_paintPoint_40 : decode cX10_paintPoint 40 = .ok (.getfield 140, 3) := by decide +kernel
theorem dX10_paintPoint_43 : decode cX10_paintPoint 43 = .ok (.ifCond .eq 23, 3) := by decide +kernel
theorem dX10_paintPoint_46 : decode cX10_paintPoint 46 = .ok (.aload_n 1, 1) := by decide +kernel
theorem dX10_paintPoint_47 : decode cX10_paintPoint 47 = .ok (.getfield 306, 3) := by decide +kernel
theorem dX10_paintPoint_50 : decode cX10_paintPoint 50 = .ok (.iload_n 2, 1) := by decide +kernel
theorem dX10_paintPoint_51 : decode cX10_paintPoint 51 = .ok (.aload_n 1, 1) := by decide +kernel
theorem dX10_paintPoint_52 : decode cX10_paintPoint 52 = .ok (.getfield 306, 3) := by decide +kernel
theorem dX10_paintPoint_55 : decode cX10_paintPoint 55 = .ok (.iload_n 2, 1) := by decide +kernel
theorem dX10_paintPoint_56 : decode cX10_paintPoint 56 = .ok (.iaload, 1) := by decide +kernel
theorem dX10_paintPoint_57 : decode cX10_paintPoint 57 = .ok (.iload 7, 2) := by decide +kernel
theorem dX10_paintPoint_59 : decode cX10_paintPoint 59 = .ok (.invokestatic 496, 3) := by decide +kernel
theorem dX10_paintPoint_62 : decode cX10_paintPoint 62 = .ok (.iastore, 1) := by decide +kernel
theorem dX10_paintPoint_63 : decode cX10_paintPoint 63 = .ok (.goto 26, 3) := by decide +kernel
theorem dX10_paintPoint_66 : decode cX10_paintPoint 66 = .ok (.aload_n 1, 1) := by decide +kernel
theorem dX10_paintPoint_67 : decode cX10_paintPoint 67 = .ok (.getfield 306, 3) := by decide +kernel
theorem dX10_paintPoint_70 : decode cX10_paintPoint 70 = .ok (.iload_n 2, 1) := by decide +kernel
theorem dX10_paintPoint_71 : decode cX10_paintPoint 71 = .ok (.iload 7, 2) := by decide +kernel
theorem dX10_paintPoint_73 : decode cX10_paintPoint 73 = .ok (.iastore, 1) := by decide +kernel
theorem dX10_paintPoint_74 : decode cX10_paintPoint 74 = .ok (.aload_n 1, 1) := by decide +kernel
theorem dX10_paintPoint_75 : decode cX10_paintPoint 75 = .ok (.getfield 309, 3) := by decide +kernel
theorem dX10_paintPoint_78 : decode cX10_paintPoint 78 = .ok (.iload_n 2, 1) := by decide +kernel
theorem dX10_paintPoint_79 : decode cX10_paintPoint 79 = .ok (.iload 5, 2) := by decide +kernel
theorem dX10_paintPoint_81 : decode cX10_paintPoint 81 = .ok (.iastore, 1) := by decide +kernel
theorem dX10_paintPoint_82 : decode cX10_paintPoint 82 = .ok (.aload_n 1, 1) := by decide +kernel
theorem dX10_paintPoint_83 : decode cX10_paintPoint 83 = .ok (.getfield 312, 3) := by decide +kernel
theorem dX10_paintPoint_86 : decode cX10_paintPoint 86 = .ok (.iload_n 2, 1) := by decide +kernel
theorem dX10_paintPoint_87 : decode cX10_paintPoint 87 = .ok (.iload_n 3, 1) := by decide +kernel
theorem dX10_paintPoint_88 : decode cX10_paintPoint 88 = .ok (.iastore, 1) := by decide +kernel
theorem dX10_paintPoint_89 : decode cX10_paintPoint 89 = .ok (.iconst 1, 1) := by decide +kernel
theorem dX10_paintPoint_90 : decode cX10_paintPoint 90 = .ok (.ireturn, 1) := by decide +kernel
def f_X10_paintPoint (F : Nat) (p0 : Nat) (i1 : Int32) (i2 : Int32) (p3 : Nat) (M : GM) : Option (Int32 × GM) := bndO (f_X6_depthHere F p3 M) (fun v2 => bnd v2 (fun v3 => grd (gIn i1 (gN (p0 + 2))) (if v3 < (gI M (p0 + 2) i1.toNatClampNeg) then (grd (gIn i2 (gN 2)) (bnd (gR 2 i2.toNatClampNeg) (fun o7 => bndO (f_X10_colourHere F o7 p3 M) (fun v11 => bnd v11 (fun v12 => if (gI M o7 4) = 0 then (grd (gIn i1 (gN (p0 + 1))) (bnd (sI M (p0 + 1) i1.toNatClampNeg v12) (fun M15 => grd (gIn i1 (gN (p0 + 2))) (bnd (sI M15 (p0 + 2) i1.toNatClampNeg v3) (fun M18 => grd (gIn i1 (gN (p0 + 3))) (bnd (sI M18 (p0 + 3) i1.toNatClampNeg i2) (fun M21 => some ((1 : Int32), M21)))))))) else (grd (gIn i1 (gN (p0 + 1))) (grd (gIn i1 (gN (p0 + 1))) (bnd (sI M (p0 + 1) i1.toNatClampNeg (f_X10_halfOfBoth (gI M (p0 + 1) i1.toNatClampNeg) v12)) (fun M25 => some ((1 : Int32), M25)))))))))) else (some ((0 : Int32), M)))))
set_option maxHeartbeats 4000000 in
set_option maxRecDepth 100000 in
theorem w_X10_paintPoint {x : GX} (X : GC x cX10_paintPoint 8 RX10 3) {p0 : Nat} {i1 : Int32} {i2 : Int32} {p3 : Nat} (h1 : gT p0 = 7) (h4 : gT p3 = 6) {F : Nat} {M : GM} {r9 : (Int32 × GM)} (hR : ∀ (v9 : Int32) (M9 : GM) (lv9 : List (Nat × Value)) (pc9 : Nat), r9 = (v9, M9) → (v9 = 0 ∨ v9 = 1) → decode cX10_paintPoint pc9 = .ok (.ireturn, 1) → WG x M9 lv9 pc9 [.int v9]) (h : f_X10_paintPoint F p0 i1 i2 p3 M = some r9) : WG x M [(0, .ref (gad (xz x) 0)), (1, .ref (gad (xz x) p0)), (2, .int i1), (3, .int i2), (4, .ref (gad (xz x) p3))] 0 [] := by
  unfold f_X10_paintPoint at h
  refine g_aload X (j := 4) dX10_paintPoint_0 rfl ?_
  obtain ⟨v2, hc1, h⟩ := bndO_e h
  refine gc_X10_275 X h4 (ct_X6_depthHere X.htr h4 hc1) (by decide) (Nat.le_of_ble_eq_true rfl) dX10_paintPoint_2 ?_
  refine g_topi (fun v3 e4 => ?_)
  have h := bnd_e e4 h
  refine g_istore X (lv' := [(5, .int v3), (0, .ref (gad (xz x) 0)), (1, .ref (gad (xz x) p0)), (2, .int i1), (3, .int i2), (4, .ref (gad (xz x) p3))]) dX10_paintPoint_5 (by decide) rfl ?_
  refine g_iload X (j := 0) dX10_paintPoint_7 rfl ?_
  refine g_aload_n X (j := 2) dX10_paintPoint_9 rfl rfl ?_
  refine gf_X10_309 X h1 dX10_paintPoint_10 ?_
  refine g_iload_n X (j := 3) dX10_paintPoint_13 rfl rfl ?_
  obtain ⟨hg5, h⟩ := grd_e h
  refine g_iald X (gT_7_depths h1) hg5 dX10_paintPoint_14 ?_
  refine g_icmp_lt X (tgt := 20) dX10_paintPoint_15 (by decide) (fun hb => ?_) (fun hb => ?_)
  · have h := ite_t hb h
    refine g_aload_n X (j := 1) dX10_paintPoint_20 rfl rfl ?_
    refine gf_X10_17 X gT_c0 dX10_paintPoint_21 ?_
    refine g_iload_n X (j := 4) dX10_paintPoint_24 rfl rfl ?_
    obtain ⟨hg6, h⟩ := grd_e h
    refine g_aald_24 X gT_c2 hg6 dX10_paintPoint_25 ?_
    refine g_topr (fun o7 e8 => ?_)
    have h := bnd_e e8 h
    have k9 : gT o7 = 4 := by rw [e8]; exact gR_24 gT_c2 (gIn_lt hg6)
    refine g_astore X (lv' := [(6, .ref (gad (xz x) o7)), (5, .int v3), (0, .ref (gad (xz x) 0)), (1, .ref (gad (xz x) p0)), (2, .int i1), (3, .int i2), (4, .ref (gad (xz x) p3))]) dX10_paintPoint_26 (by decide) rfl ?_
    refine g_aload_n X (j := 2) dX10_paintPoint_28 rfl rfl ?_
    refine g_aload X (j := 0) dX10_paintPoint_29 rfl ?_
    refine g_aload X (j := 6) dX10_paintPoint_31 rfl ?_
    obtain ⟨v11, hc10, h⟩ := bndO_e h
    refine gc_X10_278 X gT_c0 (ct_X10_colourHere X.htr k9 h4 hc10) (by decide) (Nat.le_of_ble_eq_true rfl) dX10_paintPoint_33 ?_
    refine g_topi (fun v12 e13 => ?_)
    have h := bnd_e e13 h
    refine g_istore X (lv' := [(7, .int v12), (6, .ref (gad (xz x) o7)), (5, .int v3), (0, .ref (gad (xz x) 0)), (1, .ref (gad (xz x) p0)), (2, .int i1), (3, .int i2), (4, .ref (gad (xz x) p3))]) dX10_paintPoint_36 (by decide) rfl ?_
    refine g_aload X (j := 1) dX10_paintPoint_38 rfl ?_
    refine gf_X10_140 X k9 dX10_paintPoint_40 ?_
    refine g_if_eq X (tgt := 66) dX10_paintPoint_43 (by decide) (fun hb => ?_) (fun hb => ?_)
    · have h := ite_t hb h
      refine g_aload_n X (j := 4) dX10_paintPoint_66 rfl rfl ?_
      refine gf_X10_306 X h1 dX10_paintPoint_67 ?_
      refine g_iload_n X (j := 5) dX10_paintPoint_70 rfl rfl ?_
      refine g_iload X (j := 0) dX10_paintPoint_71 rfl ?_
      obtain ⟨hg14, h⟩ := grd_e h
      refine g_iast X (gT_7_colours h1) hg14 dX10_paintPoint_73 ?_
      refine g_mem (fun M15 e16 => ?_)
      have h := bnd_e e16 h
      refine g_aload_n X (j := 4) dX10_paintPoint_74 rfl rfl ?_
      refine gf_X10_309 X h1 dX10_paintPoint_75 ?_
      refine g_iload_n X (j := 5) dX10_paintPoint_78 rfl rfl ?_
      refine g_iload X (j := 2) dX10_paintPoint_79 rfl ?_
      obtain ⟨hg17, h⟩ := grd_e h
      refine g_iast X (gT_7_depths h1) hg17 dX10_paintPoint_81 ?_
      refine g_mem (fun M18 e19 => ?_)
      have h := bnd_e e19 h
      refine g_aload_n X (j := 4) dX10_paintPoint_82 rfl rfl ?_
      refine gf_X10_312 X h1 dX10_paintPoint_83 ?_
      refine g_iload_n X (j := 5) dX10_paintPoint_86 rfl rfl ?_
      refine g_iload_n X (j := 6) dX10_paintPoint_87 rfl rfl ?_
      obtain ⟨hg20, h⟩ := grd_e h
      refine g_iast X (gT_7_panes h1) hg20 dX10_paintPoint_88 ?_
      refine g_mem (fun M21 e22 => ?_)
      have h := bnd_e e22 h
      refine g_iconst X (v := 1) dX10_paintPoint_89 (by decide) ?_
      exact hR (1 : Int32) M21 _ _ (Option.some.inj h).symm (Or.inr rfl) dX10_paintPoint_90
    · have h := ite_f hb h
      refine g_aload_n X (j := 4) dX10_paintPoint_46 rfl rfl ?_
      refine gf_X10_306 X h1 dX10_paintPoint_47 ?_
      refine g_iload_n X (j := 5) dX10_paintPoint_50 rfl rfl ?_
      refine g_aload_n X (j := 4) dX10_paintPoint_51 rfl rfl ?_
      refine gf_X10_306 X h1 dX10_paintPoint_52 ?_
      refine g_iload_n X (j := 5) dX10_paintPoint_55 rfl rfl ?_
      obtain ⟨hg23, h⟩ := grd_e h
      refine g_iald X (gT_7_colours h1) hg23 dX10_paintPoint_56 ?_
      refine g_iload X (j := 0) dX10_paintPoint_57 rfl ?_
      refine gc_X10_496 X (ct_X10_halfOfBoth X.htr ) (by decide) (Nat.le_of_ble_eq_true rfl) dX10_paintPoint_59 ?_
      obtain ⟨hg24, h⟩ := grd_e h
      refine g_iast X (gT_7_colours h1) hg24 dX10_paintPoint_62 ?_
      refine g_mem (fun M25 e26 => ?_)
      have h := bnd_e e26 h
      refine g_goto X (tgt := 89) dX10_paintPoint_63 (by decide) ?_
      refine g_iconst X (v := 1) dX10_paintPoint_89 (by decide) ?_
      exact hR (1 : Int32) M25 _ _ (Option.some.inj h).symm (Or.inr rfl) dX10_paintPoint_90
  · have h := ite_f hb h
    refine g_iconst X (v := 0) dX10_paintPoint_18 (by decide) ?_
    exact hR (0 : Int32) M _ _ (Option.some.inj h).symm (Or.inl rfl) dX10_paintPoint_19
theorem ct_X10_paintPoint {l : Launch} {z : GZ} (htr : l.stackTraces = false) {p0 : Nat} {i1 : Int32} {i2 : Int32} {p3 : Nat} (h1 : gT p0 = 7) (h4 : gT p3 = 6) {M : GM} {F : Nat} {v : Int32} {M1 : GM} (h : f_X10_paintPoint F p0 i1 i2 p3 M = some (v, M1)) : gMet l z yX10_paintPoint cX10_paintPoint 8 (some .boolean) 3 [.ref (gad z 0), .ref (gad z p0), .int i1, .int i2, .ref (gad z p3)] M (some (.int v)) M1 := gMet_ofZ (by decide +kernel) (Nat.le_of_ble_eq_true rfl) htr (fun x X ez el hR => by subst ez; subst el; exact w_X10_paintPoint X h1 h4 (fun v9 M9 lv9 pc9 e9 z9 d9 => by cases e9; exact hR lv9 pc9 z9 d9) h)
theorem gc_X10_488 {x : GX} {cc : ByteArray} {nL d pc : Nat} {M : GM} {lv : List (Nat × Value)} {st : List Value} (X : GC x cc nL RX10 d) {i0 : Int32} {i1 : Int32} {M1 : GM} {r : Int32} {g : Nat} (ht : gT g = 6) (hM : gMet (xl x) (xz x) yX6_holds cX6_holds 5 (some .boolean) 1 [.ref (gad (xz x) g), .int i0, .int i1] M (some (.int r)) M1) (hd : 2 ≤ d) (hsum : (st.map fun v => v.category).sum ≤ 8) (dec : decode cc pc = .ok (.invokevirtual 488, 3)) (go : WG x M1 lv (pc + 3) (.int r :: st)) : WG x M lv pc (.int i1 :: .int i0 :: .ref (gad (xz x) g) :: st) := g_callV X (n := 2) (As := [.int i0, .int i1]) (rest := st) hM ht (by decide) (gE_6 ht) rfl q_347 q_268 q_269 q_21 q_270 (by decide +kernel) rfl hd (by decide) rfl hsum dec go
theorem gc_X10_492 {x : GX} {cc : ByteArray} {nL d pc : Nat} {M : GM} {lv : List (Nat × Value)} {st : List Value} (X : GC x cc nL RX10 d) {i0 : Nat} {i1 : Int32} {i2 : Int32} {i3 : Nat} {M1 : GM} {r : Int32} (ht : gT 0 = 10) (hM : gMet (xl x) (xz x) yX10_paintPoint cX10_paintPoint 8 (some .boolean) 3 [.ref (gad (xz x) 0), .ref (gad (xz x) i0), .int i1, .int i2, .ref (gad (xz x) i3)] M (some (.int r)) M1) (hd : 4 ≤ d) (hsum : (st.map fun v => v.category).sum ≤ 8) (dec : decode cc pc = .ok (.invokevirtual 492, 3)) (go : WG x M1 lv (pc + 3) (.int r :: st)) : WG x M lv pc (.ref (gad (xz x) i3) :: .int i2 :: .int i1 :: .ref (gad (xz x) i0) :: .ref (gad (xz x) 0) :: st) := g_callV X (n := 4) (As := [.ref (gad (xz x) i0), .int i1, .int i2, .ref (gad (xz x) i3)]) (rest := st) hM ht (by decide) (gE_10 ht) rfl q_348 q_350 q_9 q_17 q_351 (by decide +kernel) rfl hd (by decide) rfl hsum dec go
theorem dX10_drawPiece_0 : decode cX10_drawPiece 0 = .ok (.aload_n 2, 1) := by decide +kernel
theorem dX10_drawPiece_1 : decode cX10_drawPiece 1 = .ok (.getfield 473, 3) := by decide +kernel
theorem dX10_drawPiece_4 : decode cX10_drawPiece 4 = .ok (.aload 4, 2) := by decide +kernel
theorem dX10_drawPiece_6 : decode cX10_drawPiece 6 = .ok (.getfield 476, 3) := by decide +kernel
theorem dX10_drawPiece_9 : decode cX10_drawPiece 9 = .ok (.getfield 473, 3) := by decide +kernel
theorem dX10_drawPiece_12 : decode cX10_drawPiece 12 = .ok (.invokestatic 419, 3) := by decide +kernel
theorem dX10_drawPiece_15 : decode cX10_drawPiece 15 = .ok (.istore 5, 2) := by decide +kernel
theorem dX10_drawPiece_17 : decode cX10_drawPiece 17 = .ok (.aload_n 2, 1) := by decide +kernel
theorem dX10_drawPiece_18 : decode cX10_drawPiece 18 = .ok (.getfield 479, 3) := by decide +kernel
theorem dX10_drawPiece_21 : decode cX10_drawPiece 21 = .ok (.aload 4, 2) := by decide +kernel
theorem dX10_drawPiece_23 : decode cX10_drawPiece 23 = .ok (.getfield 476, 3) := by decide +kernel
theorem dX10_drawPiece_26 : decode cX10_drawPiece 26 = .ok (.getfield 479, 3) := by decide +kernel
theorem dX10_drawPiece_29 : decode cX10_drawPiece 29 = .ok (.invokestatic 419, 3) := by decide +kernel
theorem dX10_drawPiece_32 : decode cX10_drawPiece 32 = .ok (.istore 6, 2) := by decide +kernel
theorem dX10_drawPiece_34 : decode cX10_drawPiece 34 = .ok (.aload_n 2, 1) := by decide +kernel
theorem dX10_drawPiece_35 : decode cX10_drawPiece 35 = .ok (.getfield 482, 3) := by decide +kernel
theorem dX10_drawPiece_38 : decode cX10_drawPiece 38 = .ok (.aload 4, 2) := by decide +kernel
theorem dX10_drawPiece_40 : decode cX10_drawPiece 40 = .ok (.getfield 476, 3) := by decide +kernel
theorem dX10_drawPiece_43 : decode cX10_drawPiece 43 = .ok (.getfield 482, 3) := by decide +kernel
theorem dX10_drawPiece_46 : decode cX10_drawPiece 46 = .ok (.invokestatic 416, 3) := by decide +kernel
theorem dX10_drawPiece_49 : decode cX10_drawPiece 49 = .ok (.istore 7, 2) := by decide +kernel
theorem dX10_drawPiece_51 : decode cX10_drawPiece 51 = .ok (.aload_n 2, 1) := by decide +kernel
theorem dX10_drawPiece_52 : decode cX10_drawPiece 52 = .ok (.getfield 485, 3) := by decide +kernel
theorem dX10_drawPiece_55 : decode cX10_drawPiece 55 = .ok (.aload 4, 2) := by decide +kernel
theorem dX10_drawPiece_57 : decode cX10_drawPiece 57 = .ok (.getfield 476, 3) := by decide +kernel
theorem dX10_drawPiece_60 : decode cX10_drawPiece 60 = .ok (.getfield 485, 3) := by decide +kernel
theorem dX10_drawPiece_63 : decode cX10_drawPiece 63 = .ok (.invokestatic 416, 3) := by decide +kernel
theorem dX10_drawPiece_66 : decode cX10_drawPiece 66 = .ok (.istore 8, 2) := by decide +kernel
theorem dX10_drawPiece_68 : decode cX10_drawPiece 68 = .ok (.iconst 0, 1) := by decide +kernel
theorem dX10_drawPiece_69 : decode cX10_drawPiece 69 = .ok (.istore 9, 2) := by decide +kernel
theorem dX10_drawPiece_71 : decode cX10_drawPiece 71 = .ok (.iload 6, 2) := by decide +kernel
theorem dX10_drawPiece_73 : decode cX10_drawPiece 73 = .ok (.istore 10, 2) := by decide +kernel
theorem dX10_drawPiece_75 : decode cX10_drawPiece 75 = .ok (.iload 10, 2) := by decide +kernel
theorem dX10_drawPiece_77 : decode cX10_drawPiece 77 = .ok (.iload 8, 2) := by decide +kernel
theorem dX10_drawPiece_79 : decode cX10_drawPiece 79 = .ok (.if_icmp .gt 60, 3) := by decide +kernel
theorem dX10_drawPiece_82 : decode cX10_drawPiece 82 = .ok (.iload 5, 2) := by decide +kernel
theorem dX10_drawPiece_84 : decode cX10_drawPiece 84 = .ok (.istore 11, 2) := by decide +kernel
theorem dX10_drawPiece_86 : decode cX10_drawPiece 86 = .ok (.iload 11, 2) := by decide +kernel
theorem dX10_drawPiece_88 : decode cX10_drawPiece 88 = .ok (.iload 7, 2) := by decide +kernel
theorem dX10_drawPiece_90 : decode cX10_drawPiece 90 = .ok (.if_icmp .gt 43, 3) := by decide +kernel
theorem dX10_drawPiece_93 : decode cX10_drawPiece 93 = .ok (.aload 4, 2) := by decide +kernel
theorem dX10_drawPiece_95 : decode cX10_drawPiece 95 = .ok (.iload 11, 2) := by decide +kernel
theorem dX10_drawPiece_97 : decode cX10_drawPiece 97 = .ok (.iload 10, 2) := by decide +kernel
theorem dX10_drawPiece_99 : decode cX10_drawPiece 99 = .ok (.invokevirtual 488, 3) := by decide +kernel
theorem dX10_drawPiece_102 : decode cX10_drawPiece 102 = .ok (.ifCond .eq 25, 3) := by decide +kernel
theorem dX10_drawPiece_105 : decode cX10_drawPiece 105 = .ok (.aload_n 0, 1) := by decide +kernel
theorem dX10_drawPiece_106 : decode cX10_drawPiece 106 = .ok (.aload_n 1, 1) := by decide +kernel
theorem dX10_drawPiece_107 : decode cX10_drawPiece 107 = .ok (.iload 10, 2) := by decide +kernel
theorem dX10_drawPiece_109 : decode cX10_drawPiece 109 = .ok (.bipush 40, 2) := by decide +kernel
theorem dX10_drawPiece_111 : decode cX10_drawPiece 111 = .ok (.imul, 1) := by decide +kernel
theorem dX10_drawPiece_112 : decode cX10_drawPiece 112 = .ok (.iload 11, 2) := by decide +kernel
theorem dX10_drawPiece_114 : decode cX10_drawPiece 114 = .ok (.iadd, 1) := by decide +kernel
theorem dX10_drawPiece_115 : decode cX10_drawPiece 115 = .ok (.iload_n 3, 1) := by decide +kernel
theorem dX10_drawPiece_116 : decode cX10_drawPiece 116 = .ok (.aload 4, 2) := by decide +kernel
theorem dX10_drawPiece_118 : decode cX10_drawPiece 118 = .ok (.invokevirtual 492, 3) := by decide +kernel
theorem dX10_drawPiece_121 : decode cX10_drawPiece 121 = .ok (.ifCond .eq 6, 3) := by decide +kernel
theorem dX10_drawPiece_124 : decode cX10_drawPiece 124 = .ok (.iconst 1, 1) := by decide +kernel
theorem dX10_drawPiece_125 : decode cX10_drawPiece 125 = .ok (.istore 9, 2) := by decide +kernel
theorem dX10_drawPiece_127 : decode cX10_drawPiece 127 = .ok (.iinc 11 1, 3) := by decide +kernel
theorem dX10_drawPiece_130 : decode cX10_drawPiece 130 = .ok (.goto (-44), 3) := by decide +kernel
theorem dX10_drawPiece_133 : decode cX10_drawPiece 133 = .ok (.iinc 10 1, 3) := by decide +kernel
theorem dX10_drawPiece_136 : decode cX10_drawPiece 136 = .ok (.goto (-61), 3) := by decide +kernel
theorem dX10_drawPiece_139 : decode cX10_drawPiece 139 = .ok (.iload 9, 2) := by decide +kernel
theorem dX10_drawPiece_141 : decode cX10_drawPiece 141 = .ok (.ireturn, 1) := by decide +kernel
def st_X10_drawPiece_86 (F : Nat) (p25 : Nat) (a27 : Int32) (p28 : Nat) (a30 : Int32) (a31 : Int32) (a32 : Int32) (a34 : Int32) (rec : Int32 → Int32 → GM → Option (Int32 × GM)) (a33 : Int32) (a35 : Int32) (M : GM) : Option (Int32 × GM) := if a31 < a35 then (some (a33, M)) else (bndO (f_X6_holds F p28 a35 a34 M) (fun (v37, M38) => if v37 = 0 then (bnd (a35 + (1 : Int32)) (fun v39 => rec a33 v39 M38)) else (bndO (f_X10_paintPoint F p25 ((a34 * (40 : Int32)) + a35) a27 p28 M38) (fun (v42, M43) => if v42 = 0 then (bnd (a35 + (1 : Int32)) (fun v44 => rec a33 v44 M43)) else (bnd (1 : Int32) (fun v46 => bnd (a35 + (1 : Int32)) (fun v48 => rec v46 v48 M43)))))))
def lp_X10_drawPiece_86 (F : Nat) (p25 : Nat) (a27 : Int32) (p28 : Nat) (a30 : Int32) (a31 : Int32) (a32 : Int32) (a34 : Int32) : Nat → Int32 → Int32 → GM → Option (Int32 × GM)
  | 0 => fun _ _ _ => none
  | f + 1 => fun a33 a35 M => st_X10_drawPiece_86 F p25 a27 p28 a30 a31 a32 a34 (lp_X10_drawPiece_86 F p25 a27 p28 a30 a31 a32 a34 f) a33 a35 M
set_option maxHeartbeats 4000000 in
set_option maxRecDepth 100000 in
theorem lw_X10_drawPiece_86 {x : GX} (X : GC x cX10_drawPiece 12 RX10 4) {p25 : Nat} {a27 : Int32} {p28 : Nat} {a30 : Int32} {a31 : Int32} {a32 : Int32} {a34 : Int32} (k26 : gT p25 = 7) (k29 : gT p28 = 6) {F : Nat} {r9 : (Int32 × GM)} (hE : ∀ (x9_9 : Int32) (M9 : GM), r9 = (x9_9, M9) → WG x M9 [(0, .ref (gad (xz x) 0)), (1, .ref (gad (xz x) p25)), (3, .int a27), (4, .ref (gad (xz x) p28)), (5, .int a30), (7, .int a31), (8, .int a32), (9, .int x9_9), (10, .int a34)] 133 []) : ∀ (f : Nat) (a33 : Int32) (a35 : Int32) (M : GM), lp_X10_drawPiece_86 F p25 a27 p28 a30 a31 a32 a34 f a33 a35 M = some r9 → WG x M [(0, .ref (gad (xz x) 0)), (1, .ref (gad (xz x) p25)), (3, .int a27), (4, .ref (gad (xz x) p28)), (5, .int a30), (7, .int a31), (8, .int a32), (9, .int a33), (10, .int a34), (11, .int a35)] 86 [] := by
  intro f
  induction f with
  | zero => intro a33 a35 M h; cases h
  | succ f ih =>
    intro a33 a35 M h
    have hrec := ih
    have h : st_X10_drawPiece_86 F p25 a27 p28 a30 a31 a32 a34 (lp_X10_drawPiece_86 F p25 a27 p28 a30 a31 a32 a34 f) a33 a35 M = some r9 := h
    generalize lp_X10_drawPiece_86 F p25 a27 p28 a30 a31 a32 a34 f = rec at h hrec
    unfold st_X10_drawPiece_86 at h
    refine g_iload X (j := 9) dX10_drawPiece_86 rfl ?_
    refine g_iload X (j := 5) dX10_drawPiece_88 rfl ?_
    refine g_icmp_gt X (tgt := 133) dX10_drawPiece_90 (by decide) (fun hb => ?_) (fun hb => ?_)
    · have h := ite_t hb h
      refine g_lv [0, 1, 2, 3, 4, 5, 6, 7, 8] rfl ?_
      exact hE a33 M (Option.some.inj h).symm
    · have h := ite_f hb h
      refine g_aload X (j := 3) dX10_drawPiece_93 rfl ?_
      refine g_iload X (j := 9) dX10_drawPiece_95 rfl ?_
      refine g_iload X (j := 8) dX10_drawPiece_97 rfl ?_
      obtain ⟨⟨v37, M38⟩, hc36, h⟩ := bndO_e h
      refine gc_X10_488 X k29 (ct_X6_holds X.htr k29 hc36) (by decide) (Nat.le_of_ble_eq_true rfl) dX10_drawPiece_99 ?_
      refine g_if_eq X (tgt := 127) dX10_drawPiece_102 (by decide) (fun hb => ?_) (fun hb => ?_)
      · have h := ite_t hb h
        refine g_iinc X (j := 9) (w := a35 + (1 : Int32)) (lv' := [(0, .ref (gad (xz x) 0)), (1, .ref (gad (xz x) p25)), (3, .int a27), (4, .ref (gad (xz x) p28)), (5, .int a30), (7, .int a31), (8, .int a32), (9, .int a33), (10, .int a34)]) dX10_drawPiece_127 rfl (by rw [ii_1]) (by decide) (fun _ => rfl) (fun v39 e40 => ?_)
        have h := bnd_e e40 h
        refine g_goto X (tgt := 86) dX10_drawPiece_130 (by decide) ?_
        refine g_lv [1, 2, 3, 4, 5, 6, 7, 8, 9, 0] rfl ?_
        exact hrec a33 v39 M38 h
      · have h := ite_f hb h
        refine g_aload_n X (j := 0) dX10_drawPiece_105 rfl rfl ?_
        refine g_aload_n X (j := 1) dX10_drawPiece_106 rfl rfl ?_
        refine g_iload X (j := 8) dX10_drawPiece_107 rfl ?_
        refine g_bipush X (v := 40) dX10_drawPiece_109 (by decide) ?_
        refine g_imul X dX10_drawPiece_111 ?_
        refine g_iload X (j := 9) dX10_drawPiece_112 rfl ?_
        refine g_iadd X dX10_drawPiece_114 ?_
        refine g_iload_n X (j := 2) dX10_drawPiece_115 rfl rfl ?_
        refine g_aload X (j := 3) dX10_drawPiece_116 rfl ?_
        obtain ⟨⟨v42, M43⟩, hc41, h⟩ := bndO_e h
        refine gc_X10_492 X gT_c0 (ct_X10_paintPoint X.htr k26 k29 hc41) (by decide) (Nat.le_of_ble_eq_true rfl) dX10_drawPiece_118 ?_
        refine g_if_eq X (tgt := 127) dX10_drawPiece_121 (by decide) (fun hb => ?_) (fun hb => ?_)
        · have h := ite_t hb h
          refine g_iinc X (j := 9) (w := a35 + (1 : Int32)) (lv' := [(0, .ref (gad (xz x) 0)), (1, .ref (gad (xz x) p25)), (3, .int a27), (4, .ref (gad (xz x) p28)), (5, .int a30), (7, .int a31), (8, .int a32), (9, .int a33), (10, .int a34)]) dX10_drawPiece_127 rfl (by rw [ii_1]) (by decide) (fun _ => rfl) (fun v44 e45 => ?_)
          have h := bnd_e e45 h
          refine g_goto X (tgt := 86) dX10_drawPiece_130 (by decide) ?_
          refine g_lv [1, 2, 3, 4, 5, 6, 7, 8, 9, 0] rfl ?_
          exact hrec a33 v44 M43 h
        · have h := ite_f hb h
          refine g_iconst X (v := 1) dX10_drawPiece_124 (by decide) ?_
          refine g_topi (fun v46 e47 => ?_)
          have h := bnd_e e47 h
          refine g_istore X (lv' := [(9, .int v46), (0, .ref (gad (xz x) 0)), (1, .ref (gad (xz x) p25)), (3, .int a27), (4, .ref (gad (xz x) p28)), (5, .int a30), (7, .int a31), (8, .int a32), (10, .int a34), (11, .int a35)]) dX10_drawPiece_125 (by decide) rfl ?_
          refine g_iinc X (j := 9) (w := a35 + (1 : Int32)) (lv' := [(9, .int v46), (0, .ref (gad (xz x) 0)), (1, .ref (gad (xz x) p25)), (3, .int a27), (4, .ref (gad (xz x) p28)), (5, .int a30), (7, .int a31), (8, .int a32), (10, .int a34)]) dX10_drawPiece_127 rfl (by rw [ii_1]) (by decide) (fun _ => rfl) (fun v48 e49 => ?_)
          have h := bnd_e e49 h
          refine g_goto X (tgt := 86) dX10_drawPiece_130 (by decide) ?_
          refine g_lv [2, 3, 4, 5, 6, 7, 8, 1, 9, 0] rfl ?_
          exact hrec v46 v48 M43 h
def st_X10_drawPiece_75 (F : Nat) (p13 : Nat) (a15 : Int32) (p16 : Nat) (a18 : Int32) (a19 : Int32) (a20 : Int32) (rec : Int32 → Int32 → GM → Option (Int32 × GM)) (a21 : Int32) (a22 : Int32) (M : GM) : Option (Int32 × GM) := if a20 < a22 then (some (a21, M)) else (bnd a18 (fun v23 => bndO (lp_X10_drawPiece_86 F p13 a15 p16 a18 a19 a20 a22 F a21 v23 M) (fun (v50, M51) => bnd (a22 + (1 : Int32)) (fun v53 => rec v50 v53 M51))))
def lp_X10_drawPiece_75 (F : Nat) (p13 : Nat) (a15 : Int32) (p16 : Nat) (a18 : Int32) (a19 : Int32) (a20 : Int32) : Nat → Int32 → Int32 → GM → Option (Int32 × GM)
  | 0 => fun _ _ _ => none
  | f + 1 => fun a21 a22 M => st_X10_drawPiece_75 F p13 a15 p16 a18 a19 a20 (lp_X10_drawPiece_75 F p13 a15 p16 a18 a19 a20 f) a21 a22 M
set_option maxHeartbeats 4000000 in
set_option maxRecDepth 100000 in
theorem lw_X10_drawPiece_75 {x : GX} (X : GC x cX10_drawPiece 12 RX10 4) {p13 : Nat} {a15 : Int32} {p16 : Nat} {a18 : Int32} {a19 : Int32} {a20 : Int32} (k14 : gT p13 = 7) (k17 : gT p16 = 6) {F : Nat} {r9 : (Int32 × GM)} (hE : ∀ (x9_9 : Int32) (M9 : GM), r9 = (x9_9, M9) → WG x M9 [(9, .int x9_9)] 139 []) : ∀ (f : Nat) (a21 : Int32) (a22 : Int32) (M : GM), lp_X10_drawPiece_75 F p13 a15 p16 a18 a19 a20 f a21 a22 M = some r9 → WG x M [(0, .ref (gad (xz x) 0)), (1, .ref (gad (xz x) p13)), (3, .int a15), (4, .ref (gad (xz x) p16)), (5, .int a18), (7, .int a19), (8, .int a20), (9, .int a21), (10, .int a22)] 75 [] := by
  intro f
  induction f with
  | zero => intro a21 a22 M h; cases h
  | succ f ih =>
    intro a21 a22 M h
    have hrec := ih
    have h : st_X10_drawPiece_75 F p13 a15 p16 a18 a19 a20 (lp_X10_drawPiece_75 F p13 a15 p16 a18 a19 a20 f) a21 a22 M = some r9 := h
    generalize lp_X10_drawPiece_75 F p13 a15 p16 a18 a19 a20 f = rec at h hrec
    unfold st_X10_drawPiece_75 at h
    refine g_iload X (j := 8) dX10_drawPiece_75 rfl ?_
    refine g_iload X (j := 6) dX10_drawPiece_77 rfl ?_
    refine g_icmp_gt X (tgt := 139) dX10_drawPiece_79 (by decide) (fun hb => ?_) (fun hb => ?_)
    · have h := ite_t hb h
      refine g_lv [7] rfl ?_
      exact hE a21 M (Option.some.inj h).symm
    · have h := ite_f hb h
      refine g_iload X (j := 4) dX10_drawPiece_82 rfl ?_
      refine g_topi (fun v23 e24 => ?_)
      have h := bnd_e e24 h
      refine g_istore X (lv' := [(11, .int v23), (0, .ref (gad (xz x) 0)), (1, .ref (gad (xz x) p13)), (3, .int a15), (4, .ref (gad (xz x) p16)), (5, .int a18), (7, .int a19), (8, .int a20), (9, .int a21), (10, .int a22)]) dX10_drawPiece_84 (by decide) rfl ?_
      refine g_lv [1, 2, 3, 4, 5, 6, 7, 8, 9, 0] rfl ?_
      obtain ⟨⟨v50, M51⟩, hl52, h⟩ := bndO_e h
      refine lw_X10_drawPiece_86 X k14 k17 (fun v50_ M51_ e9 => ?_) F a21 v23 M hl52
      cases e9
      refine g_iinc X (j := 8) (w := a22 + (1 : Int32)) (lv' := [(0, .ref (gad (xz x) 0)), (1, .ref (gad (xz x) p13)), (3, .int a15), (4, .ref (gad (xz x) p16)), (5, .int a18), (7, .int a19), (8, .int a20), (9, .int v50)]) dX10_drawPiece_133 rfl (by rw [ii_1]) (by decide) (fun _ => rfl) (fun v53 e54 => ?_)
      have h := bnd_e e54 h
      refine g_goto X (tgt := 75) dX10_drawPiece_136 (by decide) ?_
      refine g_lv [1, 2, 3, 4, 5, 6, 7, 8, 0] rfl ?_
      exact hrec v50 v53 M51 h
def f_X10_drawPiece (F : Nat) (p0 : Nat) (p1 : Nat) (i2 : Int32) (p3 : Nat) (M : GM) : Option (Int32 × GM) := bnd (g_max (gI M p1 0) (gI M (p3 + 1) 0)) (fun v1 => bnd (g_max (gI M p1 1) (gI M (p3 + 1) 1)) (fun v3 => bnd (g_min (gI M p1 2) (gI M (p3 + 1) 2)) (fun v5 => bnd (g_min (gI M p1 3) (gI M (p3 + 1) 3)) (fun v7 => bnd (0 : Int32) (fun v9 => bnd v3 (fun v11 => bndO (lp_X10_drawPiece_75 F p0 i2 p3 v1 v5 v7 F v9 v11 M) (fun (v55, M56) => grd (gTf v55) (some (v55, M56)))))))))
set_option maxHeartbeats 4000000 in
set_option maxRecDepth 100000 in
theorem w_X10_drawPiece {x : GX} (X : GC x cX10_drawPiece 12 RX10 4) {p0 : Nat} {p1 : Nat} {i2 : Int32} {p3 : Nat} (h1 : gT p0 = 7) (h2 : gT p1 = 0) (h4 : gT p3 = 6) {F : Nat} {M : GM} {r9 : (Int32 × GM)} (hR : ∀ (v9 : Int32) (M9 : GM) (lv9 : List (Nat × Value)) (pc9 : Nat), r9 = (v9, M9) → (v9 = 0 ∨ v9 = 1) → decode cX10_drawPiece pc9 = .ok (.ireturn, 1) → WG x M9 lv9 pc9 [.int v9]) (h : f_X10_drawPiece F p0 p1 i2 p3 M = some r9) : WG x M [(0, .ref (gad (xz x) 0)), (1, .ref (gad (xz x) p0)), (2, .ref (gad (xz x) p1)), (3, .int i2), (4, .ref (gad (xz x) p3))] 0 [] := by
  unfold f_X10_drawPiece at h
  refine g_aload_n X (j := 2) dX10_drawPiece_0 rfl rfl ?_
  refine gf_X10_473 X h2 dX10_drawPiece_1 ?_
  refine g_aload X (j := 4) dX10_drawPiece_4 rfl ?_
  refine gf_X10_476 X h4 dX10_drawPiece_6 ?_
  refine gf_X10_473 X (gT_6_box h4) dX10_drawPiece_9 ?_
  refine gm_X10_419 X (by decide) (Nat.le_of_ble_eq_true rfl) dX10_drawPiece_12 ?_
  refine g_topi (fun v1 e2 => ?_)
  have h := bnd_e e2 h
  refine g_istore X (lv' := [(5, .int v1), (0, .ref (gad (xz x) 0)), (1, .ref (gad (xz x) p0)), (2, .ref (gad (xz x) p1)), (3, .int i2), (4, .ref (gad (xz x) p3))]) dX10_drawPiece_15 (by decide) rfl ?_
  refine g_aload_n X (j := 3) dX10_drawPiece_17 rfl rfl ?_
  refine gf_X10_479 X h2 dX10_drawPiece_18 ?_
  refine g_aload X (j := 5) dX10_drawPiece_21 rfl ?_
  refine gf_X10_476 X h4 dX10_drawPiece_23 ?_
  refine gf_X10_479 X (gT_6_box h4) dX10_drawPiece_26 ?_
  refine gm_X10_419 X (by decide) (Nat.le_of_ble_eq_true rfl) dX10_drawPiece_29 ?_
  refine g_topi (fun v3 e4 => ?_)
  have h := bnd_e e4 h
  refine g_istore X (lv' := [(6, .int v3), (5, .int v1), (0, .ref (gad (xz x) 0)), (1, .ref (gad (xz x) p0)), (2, .ref (gad (xz x) p1)), (3, .int i2), (4, .ref (gad (xz x) p3))]) dX10_drawPiece_32 (by decide) rfl ?_
  refine g_aload_n X (j := 4) dX10_drawPiece_34 rfl rfl ?_
  refine gf_X10_482 X h2 dX10_drawPiece_35 ?_
  refine g_aload X (j := 6) dX10_drawPiece_38 rfl ?_
  refine gf_X10_476 X h4 dX10_drawPiece_40 ?_
  refine gf_X10_482 X (gT_6_box h4) dX10_drawPiece_43 ?_
  refine gm_X10_416 X (by decide) (Nat.le_of_ble_eq_true rfl) dX10_drawPiece_46 ?_
  refine g_topi (fun v5 e6 => ?_)
  have h := bnd_e e6 h
  refine g_istore X (lv' := [(7, .int v5), (6, .int v3), (5, .int v1), (0, .ref (gad (xz x) 0)), (1, .ref (gad (xz x) p0)), (2, .ref (gad (xz x) p1)), (3, .int i2), (4, .ref (gad (xz x) p3))]) dX10_drawPiece_49 (by decide) rfl ?_
  refine g_aload_n X (j := 5) dX10_drawPiece_51 rfl rfl ?_
  refine gf_X10_485 X h2 dX10_drawPiece_52 ?_
  refine g_aload X (j := 7) dX10_drawPiece_55 rfl ?_
  refine gf_X10_476 X h4 dX10_drawPiece_57 ?_
  refine gf_X10_485 X (gT_6_box h4) dX10_drawPiece_60 ?_
  refine gm_X10_416 X (by decide) (Nat.le_of_ble_eq_true rfl) dX10_drawPiece_63 ?_
  refine g_topi (fun v7 e8 => ?_)
  have h := bnd_e e8 h
  refine g_istore X (lv' := [(8, .int v7), (7, .int v5), (6, .int v3), (5, .int v1), (0, .ref (gad (xz x) 0)), (1, .ref (gad (xz x) p0)), (2, .ref (gad (xz x) p1)), (3, .int i2), (4, .ref (gad (xz x) p3))]) dX10_drawPiece_66 (by decide) rfl ?_
  refine g_iconst X (v := 0) dX10_drawPiece_68 (by decide) ?_
  refine g_topi (fun v9 e10 => ?_)
  have h := bnd_e e10 h
  refine g_istore X (lv' := [(9, .int v9), (8, .int v7), (7, .int v5), (6, .int v3), (5, .int v1), (0, .ref (gad (xz x) 0)), (1, .ref (gad (xz x) p0)), (2, .ref (gad (xz x) p1)), (3, .int i2), (4, .ref (gad (xz x) p3))]) dX10_drawPiece_69 (by decide) rfl ?_
  refine g_iload X (j := 3) dX10_drawPiece_71 rfl ?_
  refine g_topi (fun v11 e12 => ?_)
  have h := bnd_e e12 h
  refine g_istore X (lv' := [(10, .int v11), (9, .int v9), (8, .int v7), (7, .int v5), (6, .int v3), (5, .int v1), (0, .ref (gad (xz x) 0)), (1, .ref (gad (xz x) p0)), (2, .ref (gad (xz x) p1)), (3, .int i2), (4, .ref (gad (xz x) p3))]) dX10_drawPiece_73 (by decide) rfl ?_
  refine g_lv [6, 7, 9, 10, 5, 3, 2, 1, 0] rfl ?_
  obtain ⟨⟨v55, M56⟩, hl57, h⟩ := bndO_e h
  refine lw_X10_drawPiece_75 X h1 h4 (fun v55_ M56_ e9 => ?_) F v9 v11 M hl57
  cases e9
  refine g_iload X (j := 0) dX10_drawPiece_139 rfl ?_
  obtain ⟨hg58, h⟩ := grd_e h
  exact hR v55 M56 _ _ (Option.some.inj h).symm (gTf_of hg58) dX10_drawPiece_141
theorem ct_X10_drawPiece {l : Launch} {z : GZ} (htr : l.stackTraces = false) {p0 : Nat} {p1 : Nat} {i2 : Int32} {p3 : Nat} (h1 : gT p0 = 7) (h2 : gT p1 = 0) (h4 : gT p3 = 6) {M : GM} {F : Nat} {v : Int32} {M1 : GM} (h : f_X10_drawPiece F p0 p1 i2 p3 M = some (v, M1)) : gMet l z yX10_drawPiece cX10_drawPiece 12 (some .boolean) 4 [.ref (gad z 0), .ref (gad z p0), .ref (gad z p1), .int i2, .ref (gad z p3)] M (some (.int v)) M1 := gMet_ofZ (by decide +kernel) (Nat.le_of_ble_eq_true rfl) htr (fun x X ez el hR => by subst ez; subst el; exact w_X10_drawPiece X h1 h2 h4 (fun v9 M9 lv9 pc9 e9 z9 d9 => by cases e9; exact hR lv9 pc9 z9 d9) h)
theorem gc_X10_469 {x : GX} {cc : ByteArray} {nL d pc : Nat} {M : GM} {lv : List (Nat × Value)} {st : List Value} (X : GC x cc nL RX10 d) {i0 : Nat} {i1 : Nat} {i2 : Int32} {i3 : Nat} {M1 : GM} {r : Int32} (ht : gT 0 = 10) (hM : gMet (xl x) (xz x) yX10_drawPiece cX10_drawPiece 12 (some .boolean) 4 [.ref (gad (xz x) 0), .ref (gad (xz x) i0), .ref (gad (xz x) i1), .int i2, .ref (gad (xz x) i3)] M (some (.int r)) M1) (hd : 5 ≤ d) (hsum : (st.map fun v => v.category).sum ≤ 8) (dec : decode cc pc = .ok (.invokevirtual 469, 3)) (go : WG x M1 lv (pc + 3) (.int r :: st)) : WG x M lv pc (.ref (gad (xz x) i3) :: .int i2 :: .ref (gad (xz x) i1) :: .ref (gad (xz x) i0) :: .ref (gad (xz x) 0) :: st) := g_callV X (n := 4) (As := [.ref (gad (xz x) i0), .ref (gad (xz x) i1), .int i2, .ref (gad (xz x) i3)]) (rest := st) hM ht (by decide) (gE_10 ht) rfl q_341 q_343 q_8 q_17 q_344 (by decide +kernel) rfl hd (by decide) rfl hsum dec go
theorem dX10_drawPane_0 : decode cX10_drawPane 0 = .ok (.aload_n 0, 1) := by decide +kernel
theorem dX10_drawPane_1 : decode cX10_drawPane 1 = .ok (.iload_n 3, 1) := by decide +kernel
theorem dX10_drawPane_2 : decode cX10_drawPane 2 = .ok (.invokevirtual 199, 3) := by decide +kernel
theorem dX10_drawPane_5 : decode cX10_drawPane 5 = .ok (.iconst 0, 1) := by decide +kernel
theorem dX10_drawPane_6 : decode cX10_drawPane 6 = .ok (.istore 4, 2) := by decide +kernel
theorem dX10_drawPane_8 : decode cX10_drawPane 8 = .ok (.aload_n 0, 1) := by decide +kernel
theorem dX10_drawPane_9 : decode cX10_drawPane 9 = .ok (.getfield 37, 3) := by decide +kernel
theorem dX10_drawPane_12 : decode cX10_drawPane 12 = .ok (.getfield 258, 3) := by decide +kernel
theorem dX10_drawPane_15 : decode cX10_drawPane 15 = .ok (.astore 5, 2) := by decide +kernel
theorem dX10_drawPane_17 : decode cX10_drawPane 17 = .ok (.aload 5, 2) := by decide +kernel
theorem dX10_drawPane_19 : decode cX10_drawPane 19 = .ok (.arraylength, 1) := by decide +kernel
theorem dX10_drawPane_20 : decode cX10_drawPane 20 = .ok (.istore 6, 2) := by decide +kernel
theorem dX10_drawPane_22 : decode cX10_drawPane 22 = .ok (.iconst 0, 1) := by decide +kernel
theorem dX10_drawPane_23 : decode cX10_drawPane 23 = .ok (.istore 7, 2) := by decide +kernel
theorem dX10_drawPane_25 : decode cX10_drawPane 25 = .ok (.iload 7, 2) := by decide +kernel
theorem dX10_drawPane_27 : decode cX10_drawPane 27 = .ok (.iload 6, 2) := by decide +kernel
theorem dX10_drawPane_29 : decode cX10_drawPane 29 = .ok (.if_icmp .ge 39, 3) := by decide +kernel
theorem dX10_drawPane_32 : decode cX10_drawPane 32 = .ok (.aload 5, 2) := by decide +kernel
theorem dX10_drawPane_34 : decode cX10_drawPane 34 = .ok (.iload 7, 2) := by decide +kernel
theorem dX10_drawPane_36 : decode cX10_drawPane 36 = .ok (.aaload, 1) := by decide +kernel
theorem dX10_drawPane_37 : decode cX10_drawPane 37 = .ok (.astore 8, 2) := by decide +kernel
theorem dX10_drawPane_39 : decode cX10_drawPane 39 = .ok (.aload 8, 2) := by decide +kernel
theorem dX10_drawPane_41 : decode cX10_drawPane 41 = .ok (.getfield 262, 3) := by decide +kernel
theorem dX10_drawPane_44 : decode cX10_drawPane 44 = .ok (.ifCond .eq 18, 3) := by decide +kernel
theorem dX10_drawPane_47 : decode cX10_drawPane 47 = .ok (.aload_n 0, 1) := by decide +kernel
theorem dX10_drawPane_48 : decode cX10_drawPane 48 = .ok (.aload_n 1, 1) := by decide +kernel
theorem dX10_drawPane_49 : decode cX10_drawPane 49 = .ok (.aload_n 2, 1) := by decide +kernel
theorem dX10_drawPane_50 : decode cX10_drawPane 50 = .ok (.iload_n 3, 1) := by decide +kernel
theorem dX10_drawPane_51 : decode cX10_drawPane 51 = .ok (.aload 8, 2) := by decide +kernel
theorem dX10_drawPane_53 : decode cX10_drawPane 53 = .ok (.invokevirtual 469, 3) := by decide +kernel
theorem dX10_drawPane_56 : decode cX10_drawPane 56 = .ok (.ifCond .eq 6, 3) := by decide +kernel
theorem dX10_drawPane_59 : decode cX10_drawPane 59 = .ok (.iconst 1, 1) := by decide +kernel
theorem dX10_drawPane_60 : decode cX10_drawPane 60 = .ok (.istore 4, 2) := by decide +kernel
theorem dX10_drawPane_62 : decode cX10_drawPane 62 = .ok (.iinc 7 1, 3) := by decide +kernel
theorem dX10_drawPane_65 : decode cX10_drawPane 65 = .ok (.goto (-40), 3) := by decide +kernel
theorem dX10_drawPane_68 : decode cX10_drawPane 68 = .ok (.iload 4, 2) := by decide +kernel
theorem dX10_drawPane_70 : decode cX10_drawPane 70 = .ok (.ireturn, 1) := by decide +kernel
def st_X10_drawPane_25 (F : Nat) (p9 : Nat) (p11 : Nat) (a13 : Int32) (a15 : Int32) (rec : Int32 → Int32 → GM → Option (Int32 × GM)) (a14 : Int32) (a16 : Int32) (M : GM) : Option (Int32 × GM) := if a15 ≤ a16 then (some (a14, M)) else (grd (gIn a16 (gN 16)) (bnd (gR 16 a16.toNatClampNeg) (fun o18 => if (gI M o18 5) = 0 then (bnd (a16 + (1 : Int32)) (fun v21 => rec a14 v21 M)) else (bndO (f_X10_drawPiece F p9 p11 a13 o18 M) (fun (v24, M25) => if v24 = 0 then (bnd (a16 + (1 : Int32)) (fun v26 => rec a14 v26 M25)) else (bnd (1 : Int32) (fun v28 => bnd (a16 + (1 : Int32)) (fun v30 => rec v28 v30 M25))))))))
def lp_X10_drawPane_25 (F : Nat) (p9 : Nat) (p11 : Nat) (a13 : Int32) (a15 : Int32) : Nat → Int32 → Int32 → GM → Option (Int32 × GM)
  | 0 => fun _ _ _ => none
  | f + 1 => fun a14 a16 M => st_X10_drawPane_25 F p9 p11 a13 a15 (lp_X10_drawPane_25 F p9 p11 a13 a15 f) a14 a16 M
set_option maxHeartbeats 4000000 in
set_option maxRecDepth 100000 in
theorem lw_X10_drawPane_25 {x : GX} (X : GC x cX10_drawPane 9 RX10 5) {p9 : Nat} {p11 : Nat} {a13 : Int32} {a15 : Int32} (k10 : gT p9 = 7) (k12 : gT p11 = 0) {F : Nat} {r9 : (Int32 × GM)} (hE : ∀ (x4_9 : Int32) (M9 : GM), r9 = (x4_9, M9) → WG x M9 [(4, .int x4_9)] 68 []) : ∀ (f : Nat) (a14 : Int32) (a16 : Int32) (M : GM), lp_X10_drawPane_25 F p9 p11 a13 a15 f a14 a16 M = some r9 → WG x M [(0, .ref (gad (xz x) 0)), (1, .ref (gad (xz x) p9)), (2, .ref (gad (xz x) p11)), (3, .int a13), (4, .int a14), (5, .ref (gad (xz x) 16)), (6, .int a15), (7, .int a16)] 25 [] := by
  intro f
  induction f with
  | zero => intro a14 a16 M h; cases h
  | succ f ih =>
    intro a14 a16 M h
    have hrec := ih
    have h : st_X10_drawPane_25 F p9 p11 a13 a15 (lp_X10_drawPane_25 F p9 p11 a13 a15 f) a14 a16 M = some r9 := h
    generalize lp_X10_drawPane_25 F p9 p11 a13 a15 f = rec at h hrec
    unfold st_X10_drawPane_25 at h
    refine g_iload X (j := 7) dX10_drawPane_25 rfl ?_
    refine g_iload X (j := 6) dX10_drawPane_27 rfl ?_
    refine g_icmp_ge X (tgt := 68) dX10_drawPane_29 (by decide) (fun hb => ?_) (fun hb => ?_)
    · have h := ite_t hb h
      refine g_lv [4] rfl ?_
      exact hE a14 M (Option.some.inj h).symm
    · have h := ite_f hb h
      refine g_aload X (j := 5) dX10_drawPane_32 rfl ?_
      refine g_iload X (j := 7) dX10_drawPane_34 rfl ?_
      obtain ⟨hg17, h⟩ := grd_e h
      refine g_aald_27 X gT_c16 hg17 dX10_drawPane_36 ?_
      refine g_topr (fun o18 e19 => ?_)
      have h := bnd_e e19 h
      have k20 : gT o18 = 6 := by rw [e19]; exact gR_27 gT_c16 (gIn_lt hg17)
      refine g_astore X (lv' := [(8, .ref (gad (xz x) o18)), (0, .ref (gad (xz x) 0)), (1, .ref (gad (xz x) p9)), (2, .ref (gad (xz x) p11)), (3, .int a13), (4, .int a14), (5, .ref (gad (xz x) 16)), (6, .int a15), (7, .int a16)]) dX10_drawPane_37 (by decide) rfl ?_
      refine g_aload X (j := 0) dX10_drawPane_39 rfl ?_
      refine gf_X10_262 X k20 dX10_drawPane_41 ?_
      refine g_if_eq X (tgt := 62) dX10_drawPane_44 (by decide) (fun hb => ?_) (fun hb => ?_)
      · have h := ite_t hb h
        refine g_iinc X (j := 8) (w := a16 + (1 : Int32)) (lv' := [(8, .ref (gad (xz x) o18)), (0, .ref (gad (xz x) 0)), (1, .ref (gad (xz x) p9)), (2, .ref (gad (xz x) p11)), (3, .int a13), (4, .int a14), (5, .ref (gad (xz x) 16)), (6, .int a15)]) dX10_drawPane_62 rfl (by rw [ii_1]) (by decide) (fun _ => rfl) (fun v21 e22 => ?_)
        have h := bnd_e e22 h
        refine g_goto X (tgt := 25) dX10_drawPane_65 (by decide) ?_
        refine g_lv [2, 3, 4, 5, 6, 7, 8, 0] rfl ?_
        exact hrec a14 v21 M h
      · have h := ite_f hb h
        refine g_aload_n X (j := 1) dX10_drawPane_47 rfl rfl ?_
        refine g_aload_n X (j := 2) dX10_drawPane_48 rfl rfl ?_
        refine g_aload_n X (j := 3) dX10_drawPane_49 rfl rfl ?_
        refine g_iload_n X (j := 4) dX10_drawPane_50 rfl rfl ?_
        refine g_aload X (j := 0) dX10_drawPane_51 rfl ?_
        obtain ⟨⟨v24, M25⟩, hc23, h⟩ := bndO_e h
        refine gc_X10_469 X gT_c0 (ct_X10_drawPiece X.htr k10 k12 k20 hc23) (by decide) (Nat.le_of_ble_eq_true rfl) dX10_drawPane_53 ?_
        refine g_if_eq X (tgt := 62) dX10_drawPane_56 (by decide) (fun hb => ?_) (fun hb => ?_)
        · have h := ite_t hb h
          refine g_iinc X (j := 8) (w := a16 + (1 : Int32)) (lv' := [(8, .ref (gad (xz x) o18)), (0, .ref (gad (xz x) 0)), (1, .ref (gad (xz x) p9)), (2, .ref (gad (xz x) p11)), (3, .int a13), (4, .int a14), (5, .ref (gad (xz x) 16)), (6, .int a15)]) dX10_drawPane_62 rfl (by rw [ii_1]) (by decide) (fun _ => rfl) (fun v26 e27 => ?_)
          have h := bnd_e e27 h
          refine g_goto X (tgt := 25) dX10_drawPane_65 (by decide) ?_
          refine g_lv [2, 3, 4, 5, 6, 7, 8, 0] rfl ?_
          exact hrec a14 v26 M25 h
        · have h := ite_f hb h
          refine g_iconst X (v := 1) dX10_drawPane_59 (by decide) ?_
          refine g_topi (fun v28 e29 => ?_)
          have h := bnd_e e29 h
          refine g_istore X (lv' := [(4, .int v28), (8, .ref (gad (xz x) o18)), (0, .ref (gad (xz x) 0)), (1, .ref (gad (xz x) p9)), (2, .ref (gad (xz x) p11)), (3, .int a13), (5, .ref (gad (xz x) 16)), (6, .int a15), (7, .int a16)]) dX10_drawPane_60 (by decide) rfl ?_
          refine g_iinc X (j := 8) (w := a16 + (1 : Int32)) (lv' := [(4, .int v28), (8, .ref (gad (xz x) o18)), (0, .ref (gad (xz x) 0)), (1, .ref (gad (xz x) p9)), (2, .ref (gad (xz x) p11)), (3, .int a13), (5, .ref (gad (xz x) 16)), (6, .int a15)]) dX10_drawPane_62 rfl (by rw [ii_1]) (by decide) (fun _ => rfl) (fun v30 e31 => ?_)
          have h := bnd_e e31 h
          refine g_goto X (tgt := 25) dX10_drawPane_65 (by decide) ?_
          refine g_lv [3, 4, 5, 6, 1, 7, 8, 0] rfl ?_
          exact hrec v28 v30 M25 h
def f_X10_drawPane (F : Nat) (p0 : Nat) (p1 : Nat) (i2 : Int32) (M : GM) : Option (Int32 × GM) := bndO (f_X10_formShape F i2 M) (fun M2 => bnd (0 : Int32) (fun v3 => bnd (2 : Int32) (fun v5 => bnd (0 : Int32) (fun v7 => bndO (lp_X10_drawPane_25 F p0 p1 i2 v5 F v3 v7 M2) (fun (v32, M33) => grd (gTf v32) (some (v32, M33)))))))
set_option maxHeartbeats 4000000 in
set_option maxRecDepth 100000 in
theorem w_X10_drawPane {x : GX} (X : GC x cX10_drawPane 9 RX10 5) {p0 : Nat} {p1 : Nat} {i2 : Int32} (h1 : gT p0 = 7) (h2 : gT p1 = 0) {F : Nat} {M : GM} {r9 : (Int32 × GM)} (hR : ∀ (v9 : Int32) (M9 : GM) (lv9 : List (Nat × Value)) (pc9 : Nat), r9 = (v9, M9) → (v9 = 0 ∨ v9 = 1) → decode cX10_drawPane pc9 = .ok (.ireturn, 1) → WG x M9 lv9 pc9 [.int v9]) (h : f_X10_drawPane F p0 p1 i2 M = some r9) : WG x M [(0, .ref (gad (xz x) 0)), (1, .ref (gad (xz x) p0)), (2, .ref (gad (xz x) p1)), (3, .int i2)] 0 [] := by
  unfold f_X10_drawPane at h
  refine g_aload_n X (j := 0) dX10_drawPane_0 rfl rfl ?_
  refine g_iload_n X (j := 3) dX10_drawPane_1 rfl rfl ?_
  obtain ⟨M2, hc1, h⟩ := bndO_e h
  refine gc_X10_199 X gT_c0 (ct_X10_formShape X.htr  hc1) (by decide) (Nat.le_of_ble_eq_true rfl) dX10_drawPane_2 ?_
  refine g_iconst X (v := 0) dX10_drawPane_5 (by decide) ?_
  refine g_topi (fun v3 e4 => ?_)
  have h := bnd_e e4 h
  refine g_istore X (lv' := [(4, .int v3), (0, .ref (gad (xz x) 0)), (1, .ref (gad (xz x) p0)), (2, .ref (gad (xz x) p1)), (3, .int i2)]) dX10_drawPane_6 (by decide) rfl ?_
  refine g_aload_n X (j := 1) dX10_drawPane_8 rfl rfl ?_
  refine gf_X10_37 X gT_c0 dX10_drawPane_9 ?_
  refine gf_X10_258 X gT_c6 dX10_drawPane_12 ?_
  refine g_astore X (lv' := [(5, .ref (gad (xz x) 16)), (4, .int v3), (0, .ref (gad (xz x) 0)), (1, .ref (gad (xz x) p0)), (2, .ref (gad (xz x) p1)), (3, .int i2)]) dX10_drawPane_15 (by decide) rfl ?_
  refine g_aload X (j := 0) dX10_drawPane_17 rfl ?_
  refine g_alen_27 X gT_c16 dX10_drawPane_19 ?_
  rw [show Int32.ofNat (gN 16) = 2 by decide +kernel]
  refine g_topi (fun v5 e6 => ?_)
  have h := bnd_e e6 h
  refine g_istore X (lv' := [(6, .int v5), (5, .ref (gad (xz x) 16)), (4, .int v3), (0, .ref (gad (xz x) 0)), (1, .ref (gad (xz x) p0)), (2, .ref (gad (xz x) p1)), (3, .int i2)]) dX10_drawPane_20 (by decide) rfl ?_
  refine g_iconst X (v := 0) dX10_drawPane_22 (by decide) ?_
  refine g_topi (fun v7 e8 => ?_)
  have h := bnd_e e8 h
  refine g_istore X (lv' := [(7, .int v7), (6, .int v5), (5, .ref (gad (xz x) 16)), (4, .int v3), (0, .ref (gad (xz x) 0)), (1, .ref (gad (xz x) p0)), (2, .ref (gad (xz x) p1)), (3, .int i2)]) dX10_drawPane_23 (by decide) rfl ?_
  refine g_lv [4, 5, 6, 7, 3, 2, 1, 0] rfl ?_
  obtain ⟨⟨v32, M33⟩, hl34, h⟩ := bndO_e h
  refine lw_X10_drawPane_25 X h1 h2 (fun v32_ M33_ e9 => ?_) F v3 v7 M2 hl34
  cases e9
  refine g_iload X (j := 0) dX10_drawPane_68 rfl ?_
  obtain ⟨hg35, h⟩ := grd_e h
  exact hR v32 M33 _ _ (Option.some.inj h).symm (gTf_of hg35) dX10_drawPane_70
theorem ct_X10_drawPane {l : Launch} {z : GZ} (htr : l.stackTraces = false) {p0 : Nat} {p1 : Nat} {i2 : Int32} (h1 : gT p0 = 7) (h2 : gT p1 = 0) {M : GM} {F : Nat} {v : Int32} {M1 : GM} (h : f_X10_drawPane F p0 p1 i2 M = some (v, M1)) : gMet l z yX10_drawPane cX10_drawPane 9 (some .boolean) 5 [.ref (gad z 0), .ref (gad z p0), .ref (gad z p1), .int i2] M (some (.int v)) M1 := gMet_ofZ (by decide +kernel) (Nat.le_of_ble_eq_true rfl) htr (fun x X ez el hR => by subst ez; subst el; exact w_X10_drawPane X h1 h2 (fun v9 M9 lv9 pc9 e9 z9 d9 => by cases e9; exact hR lv9 pc9 z9 d9) h)
