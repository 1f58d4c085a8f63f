/-! 24.m -/
theorem dX11_told_0 : decode cX11_told 0 = .ok (.lload_n 0, 1) := by decide +kernel
theorem dX11_told_1 : decode cX11_told 1 = .ok (.ldc2_w 209, 3) := by decide +kernel
theorem dX11_told_4 : decode cX11_told 4 = .ok (.lcmp, 1) := by decide +kernel
theorem dX11_told_5 : decode cX11_told 5 = .ok (.ifCond .ge 9, 3) := by decide +kernel
theorem dX11_told_8 : decode cX11_told 8 = .ok (.sipush (-30001), 3) := by decide +kernel
theorem dX11_told_11 : decode cX11_told 11 = .ok (.goto 19, 3) := by decide +kernel
theorem dX11_told_14 : decode cX11_told 14 = .ok (.lload_n 0, 1) := by decide +kernel
theorem dX11_told_15 : decode cX11_told 15 = .ok (.ldc2_w 211, 3) := by decide +kernel
theorem dX11_told_18 : decode cX11_told 18 = .ok (.lcmp, 1) := by decide +kernel
theorem dX11_told_19 : decode cX11_told 19 = .ok (.ifCond .le 9, 3) := by decide +kernel
theorem dX11_told_22 : decode cX11_told 22 = .ok (.sipush 30001, 3) := by decide +kernel
theorem dX11_told_25 : decode cX11_told 25 = .ok (.goto 5, 3) := by decide +kernel
theorem dX11_told_28 : decode cX11_told 28 = .ok (.lload_n 0, 1) := by decide +kernel
theorem dX11_told_29 : decode cX11_told 29 = .ok (.l2i, 1) := by decide +kernel
theorem dX11_told_30 : decode cX11_told 30 = .ok (.ireturn, 1) := by decide +kernel
def f_X11_told (j0 : Int64) : Int32 := if 0 ≤ (lg_cmp j0 ((-30000) : Int64)) then (if (lg_cmp j0 (30000 : Int64)) ≤ 0 then (j0.toInt32) else ((30001 : Int32))) else (((-30001) : Int32))
set_option maxHeartbeats 4000000 in
set_option maxRecDepth 100000 in
theorem w_X11_told {x : GX} (X : GC x cX11_told 2 RX11 0) {j0 : Int64}  {M : GM} {r9 : Int32} (hR : ∀ (v9 : Int32) (lv9 : List (Nat × Value)) (pc9 : Nat), r9 = v9 → decode cX11_told pc9 = .ok (.ireturn, 1) → WG x M lv9 pc9 [.int v9]) (h : f_X11_told j0 = r9) : WG x M [(0, .long j0)] 0 [] := by
  unfold f_X11_told at h
  refine g_lload_n X (j := 0) dX11_told_0 rfl rfl ?_
  refine g_ldc2 X q_1349 dX11_told_1 ?_
  refine g_lcmp X dX11_told_4 ?_
  refine g_if_ge X (tgt := 14) dX11_told_5 (by decide) (fun hb => ?_) (fun hb => ?_)
  · have h := ite_t hb h
    refine g_lload_n X (j := 0) dX11_told_14 rfl rfl ?_
    refine g_ldc2 X q_1350 dX11_told_15 ?_
    refine g_lcmp X dX11_told_18 ?_
    refine g_if_le X (tgt := 28) dX11_told_19 (by decide) (fun hb => ?_) (fun hb => ?_)
    · have h := ite_t hb h
      refine g_lload_n X (j := 0) dX11_told_28 rfl rfl ?_
      refine g_l2i X dX11_told_29 ?_
      exact hR j0.toInt32 _ _ h.symm dX11_told_30
    · have h := ite_f hb h
      refine g_sipush X (v := 30001) dX11_told_22 (by decide) ?_
      refine g_goto X (tgt := 30) dX11_told_25 (by decide) ?_
      exact hR (30001 : Int32) _ _ h.symm dX11_told_30
  · have h := ite_f hb h
    refine g_sipush X (v := (-30001)) dX11_told_8 (by decide) ?_
    refine g_goto X (tgt := 30) dX11_told_11 (by decide) ?_
    exact hR ((-30001) : Int32) _ _ h.symm dX11_told_30
theorem ct_X11_told {l : Launch} {z : GZ} (htr : l.stackTraces = false) {j0 : Int64}  {M : GM} : gMet l z yX11_told cX11_told 2 (some .int) 0 [.long j0] M (some (.int (f_X11_told j0))) M := gMet_ofI (by decide +kernel) (Nat.le_of_ble_eq_true rfl) htr rfl (fun x X ez el hR => by subst ez; subst el; exact w_X11_told X  (fun v9 lv9 pc9 e9 d9 => by cases e9; exact hR lv9 pc9 d9) rfl)
theorem gc_X11_318 {x : GX} {cc : ByteArray} {nL d pc : Nat} {M : GM} {lv : List (Nat × Value)} {st : List Value} (X : GC x cc nL RX11 d) {i0 : Int64} {M1 : GM} {r : Int32} (hM : gMet (xl x) (xz x) yX11_told cX11_told 2 (some .int) 0 [.long i0] M (some (.int r)) M1) (hd : 1 ≤ d) (hsum : (st.map fun v => v.category).sum ≤ 8) (dec : decode cc pc = .ok (.invokestatic 318, 3)) (go : WG x M1 lv (pc + 3) (.int r :: st)) : WG x M lv pc (.long i0 :: st) := g_callS X (n := 1) (As := [.long i0]) (rest := st) hM q_1346 q_1347 q_63 q_1348 (by decide +kernel) rfl hd (by decide) rfl hsum dec go
theorem dX11_onScreen_0 : decode cX11_onScreen 0 = .ok (.iload_n 2, 1) := by decide +kernel
theorem dX11_onScreen_1 : decode cX11_onScreen 1 = .ok (.ifCond .ne 12, 3) := by decide +kernel
theorem dX11_onScreen_4 : decode cX11_onScreen 4 = .ok (.aload_n 0, 1) := by decide +kernel
theorem dX11_onScreen_5 : decode cX11_onScreen 5 = .ok (.aload_n 1, 1) := by decide +kernel
theorem dX11_onScreen_6 : decode cX11_onScreen 6 = .ok (.invokevirtual 213, 3) := by decide +kernel
theorem dX11_onScreen_9 : decode cX11_onScreen 9 = .ok (.invokestatic 318, 3) := by decide +kernel
theorem dX11_onScreen_12 : decode cX11_onScreen 12 = .ok (.ireturn, 1) := by decide +kernel
theorem dX11_onScreen_13 : decode cX11_onScreen 13 = .ok (.iload_n 2, 1) := by decide +kernel
theorem dX11_onScreen_14 : decode cX11_onScreen 14 = .ok (.iconst 1, 1) := by decide +kernel
theorem dX11_onScreen_15 : decode cX11_onScreen 15 = .ok (.if_icmp .ne 12, 3) := by decide +kernel
theorem dX11_onScreen_18 : decode cX11_onScreen 18 = .ok (.aload_n 0, 1) := by decide +kernel
theorem dX11_onScreen_19 : decode cX11_onScreen 19 = .ok (.aload_n 1, 1) := by decide +kernel
theorem dX11_onScreen_20 : decode cX11_onScreen 20 = .ok (.invokevirtual 217, 3) := by decide +kernel
theorem dX11_onScreen_23 : decode cX11_onScreen 23 = .ok (.invokestatic 318, 3) := by decide +kernel
theorem dX11_onScreen_26 : decode cX11_onScreen 26 = .ok (.ireturn, 1) := by decide +kernel
theorem dX11_onScreen_27 : decode cX11_onScreen 27 = .ok (.iload_n 2, 1) := by decide +kernel
theorem dX11_onScreen_28 : decode cX11_onScreen 28 = .ok (.iconst 2, 1) := by decide +kernel
theorem dX11_onScreen_29 : decode cX11_onScreen 29 = .ok (.if_icmp .ne 11, 3) := by decide +kernel
theorem dX11_onScreen_32 : decode cX11_onScreen 32 = .ok (.aload_n 0, 1) := by decide +kernel
theorem dX11_onScreen_33 : decode cX11_onScreen 33 = .ok (.aload_n 1, 1) := by decide +kernel
theorem dX11_onScreen_34 : decode cX11_onScreen 34 = .ok (.invokevirtual 220, 3) := by decide +kernel
theorem dX11_onScreen_37 : decode cX11_onScreen 37 = .ok (.goto 7, 3) := by decide +kernel
theorem dX11_onScreen_40 : decode cX11_onScreen 40 = .ok (.aload_n 1, 1) := by decide +kernel
theorem dX11_onScreen_41 : decode cX11_onScreen 41 = .ok (.invokestatic 223, 3) := by decide +kernel
theorem dX11_onScreen_44 : decode cX11_onScreen 44 = .ok (.l2i, 1) := by decide +kernel
theorem dX11_onScreen_45 : decode cX11_onScreen 45 = .ok (.ireturn, 1) := by decide +kernel
def f_X11_onScreen (F : Nat) (p0 : Nat) (i1 : Int32) (M : GM) : Option Int32 := if i1 = 0 then (bndO (f_X11_screenX F p0 M) (fun w8 => some (f_X11_told w8))) else (if i1 = (1 : Int32) then (bndO (f_X11_screenY F p0 M) (fun w6 => some (f_X11_told w6))) else (if i1 = (2 : Int32) then (bndO (f_X11_depthAt F p0 M) (fun w4 => some w4.toInt32)) else (bndO (f_X11_weightOf F p0 M) (fun w2 => some w2.toInt32))))
set_option maxHeartbeats 4000000 in
set_option maxRecDepth 100000 in
theorem w_X11_onScreen {x : GX} (X : GC x cX11_onScreen 3 RX11 2) {p0 : Nat} {i1 : Int32} (h1 : gT p0 = 20) {F : Nat} {M : GM} {r9 : Int32} (hR : ∀ (v9 : Int32) (lv9 : List (Nat × Value)) (pc9 : Nat), r9 = v9 → decode cX11_onScreen pc9 = .ok (.ireturn, 1) → WG x M lv9 pc9 [.int v9]) (h : f_X11_onScreen F p0 i1 M = some r9) : WG x M [(0, .ref (gad (xz x) 122)), (1, .ref (gad (xz x) p0)), (2, .int i1)] 0 [] := by
  unfold f_X11_onScreen at h
  refine g_iload_n X (j := 2) dX11_onScreen_0 rfl rfl ?_
  refine g_if_ne X (tgt := 13) dX11_onScreen_1 (by decide) (fun hb => ?_) (fun hb => ?_)
  · have h := ite_f hb h
    refine g_iload_n X (j := 2) dX11_onScreen_13 rfl rfl ?_
    refine g_iconst X (v := 1) dX11_onScreen_14 (by decide) ?_
    refine g_icmp_ne X (tgt := 27) dX11_onScreen_15 (by decide) (fun hb => ?_) (fun hb => ?_)
    · have h := ite_f hb h
      refine g_iload_n X (j := 2) dX11_onScreen_27 rfl rfl ?_
      refine g_iconst X (v := 2) dX11_onScreen_28 (by decide) ?_
      refine g_icmp_ne X (tgt := 40) dX11_onScreen_29 (by decide) (fun hb => ?_) (fun hb => ?_)
      · have h := ite_f hb h
        refine g_aload_n X (j := 1) dX11_onScreen_40 rfl rfl ?_
        obtain ⟨w2, hc1, h⟩ := bndO_e h
        refine gc_X11_223 X (ct_X11_weightOf X.htr h1 hc1) (by decide) (Nat.le_of_ble_eq_true rfl) dX11_onScreen_41 ?_
        refine g_l2i X dX11_onScreen_44 ?_
        exact hR w2.toInt32 _ _ (Option.some.inj h).symm dX11_onScreen_45
      · have h := ite_t hb h
        refine g_aload_n X (j := 0) dX11_onScreen_32 rfl rfl ?_
        refine g_aload_n X (j := 1) dX11_onScreen_33 rfl rfl ?_
        obtain ⟨w4, hc3, h⟩ := bndO_e h
        refine gc_X11_220 X gT_c122 (ct_X11_depthAt X.htr h1 hc3) (by decide) (Nat.le_of_ble_eq_true rfl) dX11_onScreen_34 ?_
        refine g_goto X (tgt := 44) dX11_onScreen_37 (by decide) ?_
        refine g_l2i X dX11_onScreen_44 ?_
        exact hR w4.toInt32 _ _ (Option.some.inj h).symm dX11_onScreen_45
    · have h := ite_t hb h
      refine g_aload_n X (j := 0) dX11_onScreen_18 rfl rfl ?_
      refine g_aload_n X (j := 1) dX11_onScreen_19 rfl rfl ?_
      obtain ⟨w6, hc5, h⟩ := bndO_e h
      refine gc_X11_217 X gT_c122 (ct_X11_screenY X.htr h1 hc5) (by decide) (Nat.le_of_ble_eq_true rfl) dX11_onScreen_20 ?_
      refine gc_X11_318 X (ct_X11_told X.htr ) (by decide) (Nat.le_of_ble_eq_true rfl) dX11_onScreen_23 ?_
      exact hR (f_X11_told w6) _ _ (Option.some.inj h).symm dX11_onScreen_26
  · have h := ite_t hb h
    refine g_aload_n X (j := 0) dX11_onScreen_4 rfl rfl ?_
    refine g_aload_n X (j := 1) dX11_onScreen_5 rfl rfl ?_
    obtain ⟨w8, hc7, h⟩ := bndO_e h
    refine gc_X11_213 X gT_c122 (ct_X11_screenX X.htr h1 hc7) (by decide) (Nat.le_of_ble_eq_true rfl) dX11_onScreen_6 ?_
    refine gc_X11_318 X (ct_X11_told X.htr ) (by decide) (Nat.le_of_ble_eq_true rfl) dX11_onScreen_9 ?_
    exact hR (f_X11_told w8) _ _ (Option.some.inj h).symm dX11_onScreen_12
theorem ct_X11_onScreen {l : Launch} {z : GZ} (htr : l.stackTraces = false) {p0 : Nat} {i1 : Int32} (h1 : gT p0 = 20) {M : GM} {F : Nat} {v : Int32} (h : f_X11_onScreen F p0 i1 M = some v) : gMet l z yX11_onScreen cX11_onScreen 3 (some .int) 2 [.ref (gad z 122), .ref (gad z p0), .int i1] M (some (.int v)) M := gMet_ofI (by decide +kernel) (Nat.le_of_ble_eq_true rfl) htr rfl (fun x X ez el hR => by subst ez; subst el; exact w_X11_onScreen X h1 (fun v9 lv9 pc9 e9 d9 => by cases e9; exact hR lv9 pc9 d9) h)
theorem gc_X11_322 {x : GX} {cc : ByteArray} {nL d pc : Nat} {M : GM} {lv : List (Nat × Value)} {st : List Value} (X : GC x cc nL RX11 d) {i0 : Nat} {i1 : Int32} {M1 : GM} {r : Int32} (ht : gT 122 = 11) (hM : gMet (xl x) (xz x) yX11_onScreen cX11_onScreen 3 (some .int) 2 [.ref (gad (xz x) 122), .ref (gad (xz x) i0), .int i1] M (some (.int r)) M1) (hd : 3 ≤ d) (hsum : (st.map fun v => v.category).sum ≤ 8) (dec : decode cc pc = .ok (.invokevirtual 322, 3)) (go : WG x M1 lv (pc + 3) (.int r :: st)) : WG x M lv pc (.int i1 :: .ref (gad (xz x) i0) :: .ref (gad (xz x) 122) :: st) := g_callV X (n := 2) (As := [.ref (gad (xz x) i0), .int i1]) (rest := st) hM ht (by decide) (gE_11 ht) rfl q_1336 q_1338 q_28 q_63 q_1339 (by decide +kernel) rfl hd (by decide) rfl hsum dec go
theorem dX11_screenOf_0 : decode cX11_screenOf 0 = .ok (.aload_n 0, 1) := by decide +kernel
theorem dX11_screenOf_1 : decode cX11_screenOf 1 = .ok (.iconst 0, 1) := by decide +kernel
theorem dX11_screenOf_2 : decode cX11_screenOf 2 = .ok (.putfield 114, 3) := by decide +kernel
theorem dX11_screenOf_5 : decode cX11_screenOf 5 = .ok (.aload_n 0, 1) := by decide +kernel
theorem dX11_screenOf_6 : decode cX11_screenOf 6 = .ok (.iload_n 1, 1) := by decide +kernel
theorem dX11_screenOf_7 : decode cX11_screenOf 7 = .ok (.invokevirtual 150, 3) := by decide +kernel
theorem dX11_screenOf_10 : decode cX11_screenOf 10 = .ok (.ifCond .eq 27, 3) := by decide +kernel
theorem dX11_screenOf_13 : decode cX11_screenOf 13 = .ok (.iload_n 2, 1) := by decide +kernel
theorem dX11_screenOf_14 : decode cX11_screenOf 14 = .ok (.iconst 0, 1) := by decide +kernel
theorem dX11_screenOf_15 : decode cX11_screenOf 15 = .ok (.aload_n 0, 1) := by decide +kernel
theorem dX11_screenOf_16 : decode cX11_screenOf 16 = .ok (.iload_n 1, 1) := by decide +kernel
theorem dX11_screenOf_17 : decode cX11_screenOf 17 = .ok (.invokevirtual 315, 3) := by decide +kernel
theorem dX11_screenOf_20 : decode cX11_screenOf 20 = .ok (.iconst 1, 1) := by decide +kernel
theorem dX11_screenOf_21 : decode cX11_screenOf 21 = .ok (.isub, 1) := by decide +kernel
theorem dX11_screenOf_22 : decode cX11_screenOf 22 = .ok (.invokestatic 118, 3) := by decide +kernel
theorem dX11_screenOf_25 : decode cX11_screenOf 25 = .ok (.ifCond .eq 12, 3) := by decide +kernel
theorem dX11_screenOf_28 : decode cX11_screenOf 28 = .ok (.iload_n 3, 1) := by decide +kernel
theorem dX11_screenOf_29 : decode cX11_screenOf 29 = .ok (.iconst 0, 1) := by decide +kernel
theorem dX11_screenOf_30 : decode cX11_screenOf 30 = .ok (.iconst 3, 1) := by decide +kernel
theorem dX11_screenOf_31 : decode cX11_screenOf 31 = .ok (.invokestatic 118, 3) := by decide +kernel
theorem dX11_screenOf_34 : decode cX11_screenOf 34 = .ok (.ifCond .ne 9, 3) := by decide +kernel
theorem dX11_screenOf_37 : decode cX11_screenOf 37 = .ok (.aload_n 0, 1) := by decide +kernel
theorem dX11_screenOf_38 : decode cX11_screenOf 38 = .ok (.iconst 1, 1) := by decide +kernel
theorem dX11_screenOf_39 : decode cX11_screenOf 39 = .ok (.invokevirtual 139, 3) := by decide +kernel
theorem dX11_screenOf_42 : decode cX11_screenOf 42 = .ok (.ireturn, 1) := by decide +kernel
theorem dX11_screenOf_43 : decode cX11_screenOf 43 = .ok (.aload_n 0, 1) := by decide +kernel
theorem dX11_screenOf_44 : decode cX11_screenOf 44 = .ok (.aload_n 0, 1) := by decide +kernel
theorem dX11_screenOf_45 : decode cX11_screenOf 45 = .ok (.getfield 77, 3) := by decide +kernel
theorem dX11_screenOf_48 : decode cX11_screenOf 48 = .ok (.iload_n 2, 1) := by decide +kernel
theorem dX11_screenOf_49 : decode cX11_screenOf 49 = .ok (.aaload, 1) := by decide +kernel
theorem dX11_screenOf_50 : decode cX11_screenOf 50 = .ok (.iload_n 3, 1) := by decide +kernel
theorem dX11_screenOf_51 : decode cX11_screenOf 51 = .ok (.invokevirtual 322, 3) := by decide +kernel
theorem dX11_screenOf_54 : decode cX11_screenOf 54 = .ok (.ireturn, 1) := by decide +kernel
def bk_X11_screenOf_37 (F : Nat) (M : GM) : Option (Int32 × GM) := bndO (f_X11_no F (1 : Int32) M) (fun (v4, M5) => some (v4, M5))
set_option maxHeartbeats 4000000 in
set_option maxRecDepth 100000 in
theorem bw_X11_screenOf_37 {x : GX} (X : GC x cX11_screenOf 4 RX11 4)    {F : Nat} {M : GM} {r9 : (Int32 × GM)} (hR : ∀ (v9 : Int32) (M9 : GM) (lv9 : List (Nat × Value)) (pc9 : Nat), r9 = (v9, M9) → decode cX11_screenOf pc9 = .ok (.ireturn, 1) → WG x M9 lv9 pc9 [.int v9]) (h : bk_X11_screenOf_37 F M = some r9) : WG x M [(0, .ref (gad (xz x) 122))] 37 [] := by
  unfold bk_X11_screenOf_37 at h
  refine g_aload_n X (j := 0) dX11_screenOf_37 rfl rfl ?_
  refine g_iconst X (v := 1) dX11_screenOf_38 (by decide) ?_
  obtain ⟨⟨v4, M5⟩, hc3, h⟩ := bndO_e h
  refine gc_X11_139 X gT_c122 (ct_X11_no X.htr  hc3) (by decide) (Nat.le_of_ble_eq_true rfl) dX11_screenOf_39 ?_
  exact hR v4 M5 _ _ (Option.some.inj h).symm dX11_screenOf_42
def f_X11_screenOf (F : Nat) (i0 : Int32) (i1 : Int32) (i2 : Int32) (M : GM) : Option (Int32 × GM) := bnd (sI M 122 0 (0 : Int32)) (fun M1 => if (f_X11_isPane i0 M1) = 0 then (bk_X11_screenOf_37 F M1) else (bndO (f_X11_sidesOf F i0 M1) (fun (v7, M8) => if (f_X11_isIn i1 (0 : Int32) (v7 - (1 : Int32))) = 0 then (bk_X11_screenOf_37 F M8) else (if (f_X11_isIn i2 (0 : Int32) (3 : Int32)) = 0 then (bk_X11_screenOf_37 F M8) else (grd (gIn i1 (gN 144)) (bnd (gR 144 i1.toNatClampNeg) (fun o10 => bndO (f_X11_onScreen F o10 i2 M8) (fun v14 => some (v14, M8)))))))))
set_option maxHeartbeats 4000000 in
set_option maxRecDepth 100000 in
theorem w_X11_screenOf {x : GX} (X : GC x cX11_screenOf 4 RX11 4) {i0 : Int32} {i1 : Int32} {i2 : Int32}  {F : Nat} {M : GM} {r9 : (Int32 × GM)} (hR : ∀ (v9 : Int32) (M9 : GM) (lv9 : List (Nat × Value)) (pc9 : Nat), r9 = (v9, M9) → decode cX11_screenOf pc9 = .ok (.ireturn, 1) → WG x M9 lv9 pc9 [.int v9]) (h : f_X11_screenOf F i0 i1 i2 M = some r9) : WG x M [(0, .ref (gad (xz x) 122)), (1, .int i0), (2, .int i1), (3, .int i2)] 0 [] := by
  unfold f_X11_screenOf at h
  refine g_aload_n X (j := 0) dX11_screenOf_0 rfl rfl ?_
  refine g_iconst X (v := 0) dX11_screenOf_1 (by decide) ?_
  refine gp_X11_114 X gT_c122 dX11_screenOf_2 ?_
  refine g_mem (fun M1 e2 => ?_)
  have h := bnd_e e2 h
  refine g_aload_n X (j := 0) dX11_screenOf_5 rfl rfl ?_
  refine g_iload_n X (j := 1) dX11_screenOf_6 rfl rfl ?_
  refine gc_X11_150 X gT_c122 (ct_X11_isPane X.htr ) (by decide) (Nat.le_of_ble_eq_true rfl) dX11_screenOf_7 ?_
  refine g_if_eq X (tgt := 37) dX11_screenOf_10 (by decide) (fun hb => ?_) (fun hb => ?_)
  · have h := ite_t hb h
    refine g_lv [0] rfl ?_
    exact bw_X11_screenOf_37 X  hR h
  · have h := ite_f hb h
    refine g_iload_n X (j := 2) dX11_screenOf_13 rfl rfl ?_
    refine g_iconst X (v := 0) dX11_screenOf_14 (by decide) ?_
    refine g_aload_n X (j := 0) dX11_screenOf_15 rfl rfl ?_
    refine g_iload_n X (j := 1) dX11_screenOf_16 rfl rfl ?_
    obtain ⟨⟨v7, M8⟩, hc6, h⟩ := bndO_e h
    refine gc_X11_315 X gT_c122 (ct_X11_sidesOf X.htr  hc6) (by decide) (Nat.le_of_ble_eq_true rfl) dX11_screenOf_17 ?_
    refine g_iconst X (v := 1) dX11_screenOf_20 (by decide) ?_
    refine g_isub X dX11_screenOf_21 ?_
    refine gc_X11_118 X (ct_X11_isIn X.htr ) (by decide) (Nat.le_of_ble_eq_true rfl) dX11_screenOf_22 ?_
    refine g_if_eq X (tgt := 37) dX11_screenOf_25 (by decide) (fun hb => ?_) (fun hb => ?_)
    · have h := ite_t hb h
      refine g_lv [0] rfl ?_
      exact bw_X11_screenOf_37 X  hR h
    · have h := ite_f hb h
      refine g_iload_n X (j := 3) dX11_screenOf_28 rfl rfl ?_
      refine g_iconst X (v := 0) dX11_screenOf_29 (by decide) ?_
      refine g_iconst X (v := 3) dX11_screenOf_30 (by decide) ?_
      refine gc_X11_118 X (ct_X11_isIn X.htr ) (by decide) (Nat.le_of_ble_eq_true rfl) dX11_screenOf_31 ?_
      refine g_if_ne X (tgt := 43) dX11_screenOf_34 (by decide) (fun hb => ?_) (fun hb => ?_)
      · have h := ite_f hb h
        refine g_aload_n X (j := 0) dX11_screenOf_43 rfl rfl ?_
        refine g_aload_n X (j := 0) dX11_screenOf_44 rfl rfl ?_
        refine gf_X11_77 X gT_c122 dX11_screenOf_45 ?_
        refine g_iload_n X (j := 2) dX11_screenOf_48 rfl rfl ?_
        obtain ⟨hg9, h⟩ := grd_e h
        refine g_aald_28 X gT_c144 hg9 dX11_screenOf_49 ?_
        refine g_topr (fun o10 e11 => ?_)
        have h := bnd_e e11 h
        have k12 : gT o10 = 20 := by rw [e11]; exact gR_28 gT_c144 (gIn_lt hg9)
        refine g_iload_n X (j := 3) dX11_screenOf_50 rfl rfl ?_
        obtain ⟨v14, hc13, h⟩ := bndO_e h
        refine gc_X11_322 X gT_c122 (ct_X11_onScreen X.htr k12 hc13) (by decide) (Nat.le_of_ble_eq_true rfl) dX11_screenOf_51 ?_
        exact hR v14 M8 _ _ (Option.some.inj h).symm dX11_screenOf_54
      · have h := ite_t hb h
        refine g_lv [0] rfl ?_
        exact bw_X11_screenOf_37 X  hR h
theorem ct_X11_screenOf {l : Launch} {z : GZ} (htr : l.stackTraces = false) {i0 : Int32} {i1 : Int32} {i2 : Int32}  {M : GM} {F : Nat} {v : Int32} {M1 : GM} (h : f_X11_screenOf F i0 i1 i2 M = some (v, M1)) : gMet l z yX11_screenOf cX11_screenOf 4 (some .int) 4 [.ref (gad z 122), .int i0, .int i1, .int i2] M (some (.int v)) M1 := gMet_ofI (by decide +kernel) (Nat.le_of_ble_eq_true rfl) htr rfl (fun x X ez el hR => by subst ez; subst el; exact w_X11_screenOf X  (fun v9 M9 lv9 pc9 e9 d9 => by cases e9; exact hR lv9 pc9 d9) h)
theorem dX11_drawnPieces_0 : decode cX11_drawnPieces 0 = .ok (.aload_n 0, 1) := by decide +kernel
theorem dX11_drawnPieces_1 : decode cX11_drawnPieces 1 = .ok (.iload_n 1, 1) := by decide +kernel
theorem dX11_drawnPieces_2 : decode cX11_drawnPieces 2 = .ok (.invokevirtual 282, 3) := by decide +kernel
theorem dX11_drawnPieces_5 : decode cX11_drawnPieces 5 = .ok (.aload_n 0, 1) := by decide +kernel
theorem dX11_drawnPieces_6 : decode cX11_drawnPieces 6 = .ok (.iload_n 1, 1) := by decide +kernel
theorem dX11_drawnPieces_7 : decode cX11_drawnPieces 7 = .ok (.iconst 0, 1) := by decide +kernel
theorem dX11_drawnPieces_8 : decode cX11_drawnPieces 8 = .ok (.invokevirtual 286, 3) := by decide +kernel
theorem dX11_drawnPieces_11 : decode cX11_drawnPieces 11 = .ok (.ifCond .eq 7, 3) := by decide +kernel
theorem dX11_drawnPieces_14 : decode cX11_drawnPieces 14 = .ok (.iconst 1, 1) := by decide +kernel
theorem dX11_drawnPieces_15 : decode cX11_drawnPieces 15 = .ok (.goto 4, 3) := by decide +kernel
theorem dX11_drawnPieces_18 : decode cX11_drawnPieces 18 = .ok (.iconst 0, 1) := by decide +kernel
theorem dX11_drawnPieces_19 : decode cX11_drawnPieces 19 = .ok (.aload_n 0, 1) := by decide +kernel
theorem dX11_drawnPieces_20 : decode cX11_drawnPieces 20 = .ok (.iload_n 1, 1) := by decide +kernel
theorem dX11_drawnPieces_21 : decode cX11_drawnPieces 21 = .ok (.iconst 1, 1) := by decide +kernel
theorem dX11_drawnPieces_22 : decode cX11_drawnPieces 22 = .ok (.invokevirtual 286, 3) := by decide +kernel
theorem dX11_drawnPieces_25 : decode cX11_drawnPieces 25 = .ok (.ifCond .eq 7, 3) := by decide +kernel
theorem dX11_drawnPieces_28 : decode cX11_drawnPieces 28 = .ok (.iconst 1, 1) := by decide +kernel
theorem dX11_drawnPieces_29 : decode cX11_drawnPieces 29 = .ok (.goto 4, 3) := by decide +kernel
theorem dX11_drawnPieces_32 : decode cX11_drawnPieces 32 = .ok (.iconst 0, 1) := by decide +kernel
theorem dX11_drawnPieces_33 : decode cX11_drawnPieces 33 = .ok (.iadd, 1) := by decide +kernel
theorem dX11_drawnPieces_34 : decode cX11_drawnPieces 34 = .ok (.ireturn, 1) := by decide +kernel
def bk_X11_drawnPieces_19 (F : Nat) (a6 : Int32) (a7 : Int32) (M : GM) : Option (Int32 × GM) := bndO (f_X11_layPiece F a6 (1 : Int32) M) (fun (v9, M10) => if v9 = 0 then (some ((a7 + (0 : Int32)), M10)) else (some ((a7 + (1 : Int32)), M10)))
set_option maxHeartbeats 4000000 in
set_option maxRecDepth 100000 in
theorem bw_X11_drawnPieces_19 {x : GX} (X : GC x cX11_drawnPieces 2 RX11 4) {a6 : Int32} {a7 : Int32}   {F : Nat} {M : GM} {r9 : (Int32 × GM)} (hR : ∀ (v9 : Int32) (M9 : GM) (lv9 : List (Nat × Value)) (pc9 : Nat), r9 = (v9, M9) → decode cX11_drawnPieces pc9 = .ok (.ireturn, 1) → WG x M9 lv9 pc9 [.int v9]) (h : bk_X11_drawnPieces_19 F a6 a7 M = some r9) : WG x M [(0, .ref (gad (xz x) 122)), (1, .int a6)] 19 [.int a7] := by
  unfold bk_X11_drawnPieces_19 at h
  refine g_aload_n X (j := 0) dX11_drawnPieces_19 rfl rfl ?_
  refine g_iload_n X (j := 1) dX11_drawnPieces_20 rfl rfl ?_
  refine g_iconst X (v := 1) dX11_drawnPieces_21 (by decide) ?_
  obtain ⟨⟨v9, M10⟩, hc8, h⟩ := bndO_e h
  refine gc_X11_286 X gT_c122 (ct_X11_layPiece X.htr  hc8) (by decide) (Nat.le_of_ble_eq_true rfl) dX11_drawnPieces_22 ?_
  refine g_if_eq X (tgt := 32) dX11_drawnPieces_25 (by decide) (fun hb => ?_) (fun hb => ?_)
  · have h := ite_t hb h
    refine g_iconst X (v := 0) dX11_drawnPieces_32 (by decide) ?_
    refine g_iadd X dX11_drawnPieces_33 ?_
    exact hR (a7 + (0 : Int32)) M10 _ _ (Option.some.inj h).symm dX11_drawnPieces_34
  · have h := ite_f hb h
    refine g_iconst X (v := 1) dX11_drawnPieces_28 (by decide) ?_
    refine g_goto X (tgt := 33) dX11_drawnPieces_29 (by decide) ?_
    refine g_iadd X dX11_drawnPieces_33 ?_
    exact hR (a7 + (1 : Int32)) M10 _ _ (Option.some.inj h).symm dX11_drawnPieces_34
def f_X11_drawnPieces (F : Nat) (i0 : Int32) (M : GM) : Option (Int32 × GM) := bndO (f_X11_makePolygon F i0 M) (fun M2 => bndO (f_X11_layPiece F i0 (0 : Int32) M2) (fun (v4, M5) => if v4 = 0 then (bk_X11_drawnPieces_19 F i0 (0 : Int32) M5) else (bk_X11_drawnPieces_19 F i0 (1 : Int32) M5)))
set_option maxHeartbeats 4000000 in
set_option maxRecDepth 100000 in
theorem w_X11_drawnPieces {x : GX} (X : GC x cX11_drawnPieces 2 RX11 4) {i0 : Int32}  {F : Nat} {M : GM} {r9 : (Int32 × GM)} (hR : ∀ (v9 : Int32) (M9 : GM) (lv9 : List (Nat × Value)) (pc9 : Nat), r9 = (v9, M9) → decode cX11_drawnPieces pc9 = .ok (.ireturn, 1) → WG x M9 lv9 pc9 [.int v9]) (h : f_X11_drawnPieces F i0 M = some r9) : WG x M [(0, .ref (gad (xz x) 122)), (1, .int i0)] 0 [] := by
  unfold f_X11_drawnPieces at h
  refine g_aload_n X (j := 0) dX11_drawnPieces_0 rfl rfl ?_
  refine g_iload_n X (j := 1) dX11_drawnPieces_1 rfl rfl ?_
  obtain ⟨M2, hc1, h⟩ := bndO_e h
  refine gc_X11_282 X gT_c122 (ct_X11_makePolygon X.htr  hc1) (by decide) (Nat.le_of_ble_eq_true rfl) dX11_drawnPieces_2 ?_
  refine g_aload_n X (j := 0) dX11_drawnPieces_5 rfl rfl ?_
  refine g_iload_n X (j := 1) dX11_drawnPieces_6 rfl rfl ?_
  refine g_iconst X (v := 0) dX11_drawnPieces_7 (by decide) ?_
  obtain ⟨⟨v4, M5⟩, hc3, h⟩ := bndO_e h
  refine gc_X11_286 X gT_c122 (ct_X11_layPiece X.htr  hc3) (by decide) (Nat.le_of_ble_eq_true rfl) dX11_drawnPieces_8 ?_
  refine g_if_eq X (tgt := 18) dX11_drawnPieces_11 (by decide) (fun hb => ?_) (fun hb => ?_)
  · have h := ite_t hb h
    refine g_iconst X (v := 0) dX11_drawnPieces_18 (by decide) ?_
    refine g_lv [0, 1] rfl ?_
    exact bw_X11_drawnPieces_19 X  hR h
  · have h := ite_f hb h
    refine g_iconst X (v := 1) dX11_drawnPieces_14 (by decide) ?_
    refine g_goto X (tgt := 19) dX11_drawnPieces_15 (by decide) ?_
    refine g_lv [0, 1] rfl ?_
    exact bw_X11_drawnPieces_19 X  hR h
theorem ct_X11_drawnPieces {l : Launch} {z : GZ} (htr : l.stackTraces = false) {i0 : Int32}  {M : GM} {F : Nat} {v : Int32} {M1 : GM} (h : f_X11_drawnPieces F i0 M = some (v, M1)) : gMet l z yX11_drawnPieces cX11_drawnPieces 2 (some .int) 4 [.ref (gad z 122), .int i0] M (some (.int v)) M1 := gMet_ofI (by decide +kernel) (Nat.le_of_ble_eq_true rfl) htr rfl (fun x X ez el hR => by subst ez; subst el; exact w_X11_drawnPieces X  (fun v9 M9 lv9 pc9 e9 d9 => by cases e9; exact hR lv9 pc9 d9) h)
theorem gc_X11_326 {x : GX} {cc : ByteArray} {nL d pc : Nat} {M : GM} {lv : List (Nat × Value)} {st : List Value} (X : GC x cc nL RX11 d) {i0 : Int32} {M1 : GM} {r : Int32} (ht : gT 122 = 11) (hM : gMet (xl x) (xz x) yX11_drawnPieces cX11_drawnPieces 2 (some .int) 4 [.ref (gad (xz x) 122), .int i0] M (some (.int r)) M1) (hd : 5 ≤ d) (hsum : (st.map fun v => v.category).sum ≤ 8) (dec : decode cc pc = .ok (.invokevirtual 326, 3)) (go : WG x M1 lv (pc + 3) (.int r :: st)) : WG x M lv pc (.int i0 :: .ref (gad (xz x) 122) :: st) := g_callV X (n := 1) (As := [.int i0]) (rest := st) hM ht (by decide) (gE_11 ht) rfl q_1369 q_1371 q_32 q_63 q_1372 (by decide +kernel) rfl hd (by decide) rfl hsum dec go
theorem dX11_piecesOf_0 : decode cX11_piecesOf 0 = .ok (.aload_n 0, 1) := by decide +kernel
theorem dX11_piecesOf_1 : decode cX11_piecesOf 1 = .ok (.iconst 0, 1) := by decide +kernel
theorem dX11_piecesOf_2 : decode cX11_piecesOf 2 = .ok (.putfield 114, 3) := by decide +kernel
theorem dX11_piecesOf_5 : decode cX11_piecesOf 5 = .ok (.aload_n 0, 1) := by decide +kernel
theorem dX11_piecesOf_6 : decode cX11_piecesOf 6 = .ok (.iload_n 1, 1) := by decide +kernel
theorem dX11_piecesOf_7 : decode cX11_piecesOf 7 = .ok (.invokevirtual 150, 3) := by decide +kernel
theorem dX11_piecesOf_10 : decode cX11_piecesOf 10 = .ok (.ifCond .eq 11, 3) := by decide +kernel
theorem dX11_piecesOf_13 : decode cX11_piecesOf 13 = .ok (.aload_n 0, 1) := by decide +kernel
theorem dX11_piecesOf_14 : decode cX11_piecesOf 14 = .ok (.iload_n 1, 1) := by decide +kernel
theorem dX11_piecesOf_15 : decode cX11_piecesOf 15 = .ok (.invokevirtual 326, 3) := by decide +kernel
theorem dX11_piecesOf_18 : decode cX11_piecesOf 18 = .ok (.goto 8, 3) := by decide +kernel
theorem dX11_piecesOf_21 : decode cX11_piecesOf 21 = .ok (.aload_n 0, 1) := by decide +kernel
theorem dX11_piecesOf_22 : decode cX11_piecesOf 22 = .ok (.iconst 1, 1) := by decide +kernel
theorem dX11_piecesOf_23 : decode cX11_piecesOf 23 = .ok (.invokevirtual 139, 3) := by decide +kernel
theorem dX11_piecesOf_26 : decode cX11_piecesOf 26 = .ok (.ireturn, 1) := by decide +kernel
def f_X11_piecesOf (F : Nat) (i0 : Int32) (M : GM) : Option (Int32 × GM) := bnd (sI M 122 0 (0 : Int32)) (fun M1 => if (f_X11_isPane i0 M1) = 0 then (bndO (f_X11_no F (1 : Int32) M1) (fun (v4, M5) => some (v4, M5))) else (bndO (f_X11_drawnPieces F i0 M1) (fun (v7, M8) => some (v7, M8))))
set_option maxHeartbeats 4000000 in
set_option maxRecDepth 100000 in
theorem w_X11_piecesOf {x : GX} (X : GC x cX11_piecesOf 2 RX11 5) {i0 : Int32}  {F : Nat} {M : GM} {r9 : (Int32 × GM)} (hR : ∀ (v9 : Int32) (M9 : GM) (lv9 : List (Nat × Value)) (pc9 : Nat), r9 = (v9, M9) → decode cX11_piecesOf pc9 = .ok (.ireturn, 1) → WG x M9 lv9 pc9 [.int v9]) (h : f_X11_piecesOf F i0 M = some r9) : WG x M [(0, .ref (gad (xz x) 122)), (1, .int i0)] 0 [] := by
  unfold f_X11_piecesOf at h
  refine g_aload_n X (j := 0) dX11_piecesOf_0 rfl rfl ?_
  refine g_iconst X (v := 0) dX11_piecesOf_1 (by decide) ?_
  refine gp_X11_114 X gT_c122 dX11_piecesOf_2 ?_
  refine g_mem (fun M1 e2 => ?_)
  have h := bnd_e e2 h
  refine g_aload_n X (j := 0) dX11_piecesOf_5 rfl rfl ?_
  refine g_iload_n X (j := 1) dX11_piecesOf_6 rfl rfl ?_
  refine gc_X11_150 X gT_c122 (ct_X11_isPane X.htr ) (by decide) (Nat.le_of_ble_eq_true rfl) dX11_piecesOf_7 ?_
  refine g_if_eq X (tgt := 21) dX11_piecesOf_10 (by decide) (fun hb => ?_) (fun hb => ?_)
  · have h := ite_t hb h
    refine g_aload_n X (j := 0) dX11_piecesOf_21 rfl rfl ?_
    refine g_iconst X (v := 1) dX11_piecesOf_22 (by decide) ?_
    obtain ⟨⟨v4, M5⟩, hc3, h⟩ := bndO_e h
    refine gc_X11_139 X gT_c122 (ct_X11_no X.htr  hc3) (by decide) (Nat.le_of_ble_eq_true rfl) dX11_piecesOf_23 ?_
    exact hR v4 M5 _ _ (Option.some.inj h).symm dX11_piecesOf_26
  · have h := ite_f hb h
    refine g_aload_n X (j := 0) dX11_piecesOf_13 rfl rfl ?_
    refine g_iload_n X (j := 1) dX11_piecesOf_14 rfl rfl ?_
    obtain ⟨⟨v7, M8⟩, hc6, h⟩ := bndO_e h
    refine gc_X11_326 X gT_c122 (ct_X11_drawnPieces X.htr  hc6) (by decide) (Nat.le_of_ble_eq_true rfl) dX11_piecesOf_15 ?_
    refine g_goto X (tgt := 26) dX11_piecesOf_18 (by decide) ?_
    exact hR v7 M8 _ _ (Option.some.inj h).symm dX11_piecesOf_26
theorem ct_X11_piecesOf {l : Launch} {z : GZ} (htr : l.stackTraces = false) {i0 : Int32}  {M : GM} {F : Nat} {v : Int32} {M1 : GM} (h : f_X11_piecesOf F i0 M = some (v, M1)) : gMet l z yX11_piecesOf cX11_piecesOf 2 (some .int) 5 [.ref (gad z 122), .int i0] M (some (.int v)) M1 := gMet_ofI (by decide +kernel) (Nat.le_of_ble_eq_true rfl) htr rfl (fun x X ez el hR => by subst ez; subst el; exact w_X11_piecesOf X  (fun v9 M9 lv9 pc9 e9 d9 => by cases e9; exact hR lv9 pc9 d9) h)
theorem dX11_pointsIn_0 : decode cX11_pointsIn 0 = .ok (.aload_n 0, 1) := by decide +kernel
theorem dX11_pointsIn_1 : decode cX11_pointsIn 1 = .ok (.iload_n 1, 1) := by decide +kernel
theorem dX11_pointsIn_2 : decode cX11_pointsIn 2 = .ok (.invokevirtual 282, 3) := by decide +kernel
theorem dX11_pointsIn_5 : decode cX11_pointsIn 5 = .ok (.iconst 0, 1) := by decide +kernel
theorem dX11_pointsIn_6 : decode cX11_pointsIn 6 = .ok (.istore_n 2, 1) := by decide +kernel
theorem dX11_pointsIn_7 : decode cX11_pointsIn 7 = .ok (.iload_n 2, 1) := by decide +kernel
theorem dX11_pointsIn_8 : decode cX11_pointsIn 8 = .ok (.sipush 960, 3) := by decide +kernel
theorem dX11_pointsIn_11 : decode cX11_pointsIn 11 = .ok (.if_icmp .ge 16, 3) := by decide +kernel
theorem dX11_pointsIn_14 : decode cX11_pointsIn 14 = .ok (.aload_n 0, 1) := by decide +kernel
theorem dX11_pointsIn_15 : decode cX11_pointsIn 15 = .ok (.getfield 102, 3) := by decide +kernel
theorem dX11_pointsIn_18 : decode cX11_pointsIn 18 = .ok (.iload_n 2, 1) := by decide +kernel
theorem dX11_pointsIn_19 : decode cX11_pointsIn 19 = .ok (.iconst 0, 1) := by decide +kernel
theorem dX11_pointsIn_20 : decode cX11_pointsIn 20 = .ok (.bastore, 1) := by decide +kernel
theorem dX11_pointsIn_21 : decode cX11_pointsIn 21 = .ok (.iinc 2 1, 3) := by decide +kernel
theorem dX11_pointsIn_24 : decode cX11_pointsIn 24 = .ok (.goto (-17), 3) := by decide +kernel
theorem dX11_pointsIn_27 : decode cX11_pointsIn 27 = .ok (.iconst 0, 1) := by decide +kernel
theorem dX11_pointsIn_28 : decode cX11_pointsIn 28 = .ok (.istore_n 2, 1) := by decide +kernel
theorem dX11_pointsIn_29 : decode cX11_pointsIn 29 = .ok (.iconst 0, 1) := by decide +kernel
theorem dX11_pointsIn_30 : decode cX11_pointsIn 30 = .ok (.istore_n 3, 1) := by decide +kernel
theorem dX11_pointsIn_31 : decode cX11_pointsIn 31 = .ok (.iload_n 3, 1) := by decide +kernel
theorem dX11_pointsIn_32 : decode cX11_pointsIn 32 = .ok (.iconst 2, 1) := by decide +kernel
theorem dX11_pointsIn_33 : decode cX11_pointsIn 33 = .ok (.if_icmp .ge 79, 3) := by decide +kernel
theorem dX11_pointsIn_36 : decode cX11_pointsIn 36 = .ok (.aload_n 0, 1) := by decide +kernel
theorem dX11_pointsIn_37 : decode cX11_pointsIn 37 = .ok (.iload_n 1, 1) := by decide +kernel
theorem dX11_pointsIn_38 : decode cX11_pointsIn 38 = .ok (.iload_n 3, 1) := by decide +kernel
theorem dX11_pointsIn_39 : decode cX11_pointsIn 39 = .ok (.invokevirtual 286, 3) := by decide +kernel
theorem dX11_pointsIn_42 : decode cX11_pointsIn 42 = .ok (.ifCond .ne 6, 3) := by decide +kernel
theorem dX11_pointsIn_45 : decode cX11_pointsIn 45 = .ok (.goto 61, 3) := by decide +kernel
theorem dX11_pointsIn_48 : decode cX11_pointsIn 48 = .ok (.iconst 0, 1) := by decide +kernel
theorem dX11_pointsIn_49 : decode cX11_pointsIn 49 = .ok (.istore 4, 2) := by decide +kernel
theorem dX11_pointsIn_51 : decode cX11_pointsIn 51 = .ok (.iload 4, 2) := by decide +kernel
theorem dX11_pointsIn_53 : decode cX11_pointsIn 53 = .ok (.sipush 960, 3) := by decide +kernel
theorem dX11_pointsIn_56 : decode cX11_pointsIn 56 = .ok (.if_icmp .ge 50, 3) := by decide +kernel
theorem dX11_pointsIn_59 : decode cX11_pointsIn 59 = .ok (.aload_n 0, 1) := by decide +kernel
theorem dX11_pointsIn_60 : decode cX11_pointsIn 60 = .ok (.getfield 102, 3) := by decide +kernel
theorem dX11_pointsIn_63 : decode cX11_pointsIn 63 = .ok (.iload 4, 2) := by decide +kernel
theorem dX11_pointsIn_65 : decode cX11_pointsIn 65 = .ok (.baload, 1) := by decide +kernel
theorem dX11_pointsIn_66 : decode cX11_pointsIn 66 = .ok (.ifCond .ne 34, 3) := by decide +kernel
theorem dX11_pointsIn_69 : decode cX11_pointsIn 69 = .ok (.aload_n 0, 1) := by decide +kernel
theorem dX11_pointsIn_70 : decode cX11_pointsIn 70 = .ok (.iload 4, 2) := by decide +kernel
theorem dX11_pointsIn_72 : decode cX11_pointsIn 72 = .ok (.bipush 40, 2) := by decide +kernel
theorem dX11_pointsIn_74 : decode cX11_pointsIn 74 = .ok (.irem, 1) := by decide +kernel
theorem dX11_pointsIn_75 : decode cX11_pointsIn 75 = .ok (.iload 4, 2) := by decide +kernel
theorem dX11_pointsIn_77 : decode cX11_pointsIn 77 = .ok (.bipush 40, 2) := by decide +kernel
theorem dX11_pointsIn_79 : decode cX11_pointsIn 79 = .ok (.idiv, 1) := by decide +kernel
theorem dX11_pointsIn_80 : decode cX11_pointsIn 80 = .ok (.invokevirtual 308, 3) := by decide +kernel
theorem dX11_pointsIn_83 : decode cX11_pointsIn 83 = .ok (.ifCond .ne 6, 3) := by decide +kernel
theorem dX11_pointsIn_86 : decode cX11_pointsIn 86 = .ok (.goto 14, 3) := by decide +kernel
theorem dX11_pointsIn_89 : decode cX11_pointsIn 89 = .ok (.aload_n 0, 1) := by decide +kernel
theorem dX11_pointsIn_90 : decode cX11_pointsIn 90 = .ok (.getfield 102, 3) := by decide +kernel
theorem dX11_pointsIn_93 : decode cX11_pointsIn 93 = .ok (.iload 4, 2) := by decide +kernel
theorem dX11_pointsIn_95 : decode cX11_pointsIn 95 = .ok (.iconst 1, 1) := by decide +kernel
theorem dX11_pointsIn_96 : decode cX11_pointsIn 96 = .ok (.bastore, 1) := by decide +kernel
theorem dX11_pointsIn_97 : decode cX11_pointsIn 97 = .ok (.iinc 2 1, 3) := by decide +kernel
theorem dX11_pointsIn_100 : decode cX11_pointsIn 100 = .ok (.iinc 4 1, 3) := by decide +kernel
theorem dX11_pointsIn_103 : decode cX11_pointsIn 103 = .ok (.goto (-52), 3) := by decide +kernel
theorem dX11_pointsIn_106 : decode cX11_pointsIn 106 = .ok (.iinc 3 1, 3) := by decide +kernel
theorem dX11_pointsIn_109 : decode cX11_pointsIn 109 = .ok (.goto (-78), 3) := by decide +kernel
theorem dX11_pointsIn_112 : decode cX11_pointsIn 112 = .ok (.iload_n 2, 1) := by decide +kernel
theorem dX11_pointsIn_113 : decode cX11_pointsIn 113 = .ok (.ireturn, 1) := by decide +kernel
def st_X11_pointsIn_7 (F : Nat) (a5 : Int32) (rec : Int32 → GM → Option GM) (a6 : Int32) (M : GM) : Option GM := if (960 : Int32) ≤ a6 then (some M) else (grd (gIn a6 (gN 159)) (bnd (sI M 159 a6.toNatClampNeg (0 : Int32)) (fun M8 => bnd (a6 + (1 : Int32)) (fun v10 => rec v10 M8))))
def lp_X11_pointsIn_7 (F : Nat) (a5 : Int32) : Nat → Int32 → GM → Option GM
  | 0 => fun _ _ => none
  | f + 1 => fun a6 M => st_X11_pointsIn_7 F a5 (lp_X11_pointsIn_7 F a5 f) a6 M
set_option maxHeartbeats 4000000 in
set_option maxRecDepth 100000 in
theorem lw_X11_pointsIn_7 {x : GX} (X : GC x cX11_pointsIn 5 RX11 4) {a5 : Int32}  {F : Nat} {r9 : GM} (hE : ∀  (M9 : GM), r9 = M9 → WG x M9 [(0, .ref (gad (xz x) 122)), (1, .int a5)] 27 []) : ∀ (f : Nat) (a6 : Int32) (M : GM), lp_X11_pointsIn_7 F a5 f a6 M = some r9 → WG x M [(0, .ref (gad (xz x) 122)), (1, .int a5), (2, .int a6)] 7 [] := by
  intro f
  induction f with
  | zero => intro a6 M h; cases h
  | succ f ih =>
    intro a6 M h
    have hrec := ih
    have h : st_X11_pointsIn_7 F a5 (lp_X11_pointsIn_7 F a5 f) a6 M = some r9 := h
    generalize lp_X11_pointsIn_7 F a5 f = rec at h hrec
    unfold st_X11_pointsIn_7 at h
    refine g_iload_n X (j := 2) dX11_pointsIn_7 rfl rfl ?_
    refine g_sipush X (v := 960) dX11_pointsIn_8 (by decide) ?_
    refine g_icmp_ge X (tgt := 27) dX11_pointsIn_11 (by decide) (fun hb => ?_) (fun hb => ?_)
    · have h := ite_t hb h
      refine g_lv [0, 1] rfl ?_
      exact hE M (Option.some.inj h).symm
    · have h := ite_f hb h
      refine g_aload_n X (j := 0) dX11_pointsIn_14 rfl rfl ?_
      refine gf_X11_102 X gT_c122 dX11_pointsIn_15 ?_
      refine g_iload_n X (j := 2) dX11_pointsIn_18 rfl rfl ?_
      refine g_iconst X (v := 0) dX11_pointsIn_19 (by decide) ?_
      obtain ⟨hg7, h⟩ := grd_e h
      refine g_zast X gT_c159 hg7 (Or.inl rfl) dX11_pointsIn_20 ?_
      refine g_mem (fun M8 e9 => ?_)
      have h := bnd_e e9 h
      refine g_iinc X (j := 2) (w := a6 + (1 : Int32)) (lv' := [(0, .ref (gad (xz x) 122)), (1, .int a5)]) dX11_pointsIn_21 rfl (by rw [ii_1]) (by decide) (fun _ => rfl) (fun v10 e11 => ?_)
      have h := bnd_e e11 h
      refine g_goto X (tgt := 7) dX11_pointsIn_24 (by decide) ?_
      refine g_lv [1, 2, 0] rfl ?_
      exact hrec v10 M8 h
def st_X11_pointsIn_51 (F : Nat) (a26 : Int32) (a28 : Int32) (rec : Int32 → Int32 → GM → Option (Int32 × GM)) (a27 : Int32) (a29 : Int32) (M : GM) : Option (Int32 × GM) := if (960 : Int32) ≤ a29 then (some (a27, M)) else (grd (gIn a29 (gN 159)) (if (gI M 159 a29.toNatClampNeg) = 0 then (bndO (f_X11_isInPiece F (a29 - a29 / (40 : Int32) * (40 : Int32)) (a29 / (40 : Int32)) M) (fun (v34, M35) => if v34 = 0 then (bnd (a29 + (1 : Int32)) (fun v43 => rec a27 v43 M35)) else (grd (gIn a29 (gN 159)) (bnd (sI M35 159 a29.toNatClampNeg (1 : Int32)) (fun M37 => bnd (a27 + (1 : Int32)) (fun v39 => bnd (a29 + (1 : Int32)) (fun v41 => rec v39 v41 M37))))))) else (bnd (a29 + (1 : Int32)) (fun v31 => rec a27 v31 M))))
def lp_X11_pointsIn_51 (F : Nat) (a26 : Int32) (a28 : Int32) : Nat → Int32 → Int32 → GM → Option (Int32 × GM)
  | 0 => fun _ _ _ => none
  | f + 1 => fun a27 a29 M => st_X11_pointsIn_51 F a26 a28 (lp_X11_pointsIn_51 F a26 a28 f) a27 a29 M
set_option maxHeartbeats 4000000 in
set_option maxRecDepth 100000 in
theorem lw_X11_pointsIn_51 {x : GX} (X : GC x cX11_pointsIn 5 RX11 4) {a26 : Int32} {a28 : Int32}  {F : Nat} {r9 : (Int32 × GM)} (hE : ∀ (x2_9 : Int32) (M9 : GM), r9 = (x2_9, M9) → WG x M9 [(0, .ref (gad (xz x) 122)), (1, .int a26), (2, .int x2_9), (3, .int a28)] 106 []) : ∀ (f : Nat) (a27 : Int32) (a29 : Int32) (M : GM), lp_X11_pointsIn_51 F a26 a28 f a27 a29 M = some r9 → WG x M [(0, .ref (gad (xz x) 122)), (1, .int a26), (2, .int a27), (3, .int a28), (4, .int a29)] 51 [] := by
  intro f
  induction f with
  | zero => intro a27 a29 M h; cases h
  | succ f ih =>
    intro a27 a29 M h
    have hrec := ih
    have h : st_X11_pointsIn_51 F a26 a28 (lp_X11_pointsIn_51 F a26 a28 f) a27 a29 M = some r9 := h
    generalize lp_X11_pointsIn_51 F a26 a28 f = rec at h hrec
    unfold st_X11_pointsIn_51 at h
    refine g_iload X (j := 4) dX11_pointsIn_51 rfl ?_
    refine g_sipush X (v := 960) dX11_pointsIn_53 (by decide) ?_
    refine g_icmp_ge X (tgt := 106) dX11_pointsIn_56 (by decide) (fun hb => ?_) (fun hb => ?_)
    · have h := ite_t hb h
      refine g_lv [0, 1, 2, 3] rfl ?_
      exact hE a27 M (Option.some.inj h).symm
    · have h := ite_f hb h
      refine g_aload_n X (j := 0) dX11_pointsIn_59 rfl rfl ?_
      refine gf_X11_102 X gT_c122 dX11_pointsIn_60 ?_
      refine g_iload X (j := 4) dX11_pointsIn_63 rfl ?_
      obtain ⟨hg30, h⟩ := grd_e h
      refine g_zald X gT_c159 hg30 dX11_pointsIn_65 ?_
      refine g_if_ne X (tgt := 100) dX11_pointsIn_66 (by decide) (fun hb => ?_) (fun hb => ?_)
      · have h := ite_f hb h
        refine g_iinc X (j := 4) (w := a29 + (1 : Int32)) (lv' := [(0, .ref (gad (xz x) 122)), (1, .int a26), (2, .int a27), (3, .int a28)]) dX11_pointsIn_100 rfl (by rw [ii_1]) (by decide) (fun _ => rfl) (fun v31 e32 => ?_)
        have h := bnd_e e32 h
        refine g_goto X (tgt := 51) dX11_pointsIn_103 (by decide) ?_
        refine g_lv [1, 2, 3, 4, 0] rfl ?_
        exact hrec a27 v31 M h
      · have h := ite_t hb h
        refine g_aload_n X (j := 0) dX11_pointsIn_69 rfl rfl ?_
        refine g_iload X (j := 4) dX11_pointsIn_70 rfl ?_
        refine g_bipush X (v := 40) dX11_pointsIn_72 (by decide) ?_
        refine g_irem X dX11_pointsIn_74 (by decide) ?_
        refine g_iload X (j := 4) dX11_pointsIn_75 rfl ?_
        refine g_bipush X (v := 40) dX11_pointsIn_77 (by decide) ?_
        refine g_idiv X dX11_pointsIn_79 (by decide) ?_
        obtain ⟨⟨v34, M35⟩, hc33, h⟩ := bndO_e h
        refine gc_X11_308 X gT_c122 (ct_X11_isInPiece X.htr  hc33) (by decide) (Nat.le_of_ble_eq_true rfl) dX11_pointsIn_80 ?_
        refine g_if_ne X (tgt := 89) dX11_pointsIn_83 (by decide) (fun hb => ?_) (fun hb => ?_)
        · have h := ite_f hb h
          refine g_aload_n X (j := 0) dX11_pointsIn_89 rfl rfl ?_
          refine gf_X11_102 X gT_c122 dX11_pointsIn_90 ?_
          refine g_iload X (j := 4) dX11_pointsIn_93 rfl ?_
          refine g_iconst X (v := 1) dX11_pointsIn_95 (by decide) ?_
          obtain ⟨hg36, h⟩ := grd_e h
          refine g_zast X gT_c159 hg36 (Or.inr rfl) dX11_pointsIn_96 ?_
          refine g_mem (fun M37 e38 => ?_)
          have h := bnd_e e38 h
          refine g_iinc X (j := 2) (w := a27 + (1 : Int32)) (lv' := [(0, .ref (gad (xz x) 122)), (1, .int a26), (3, .int a28), (4, .int a29)]) dX11_pointsIn_97 rfl (by rw [ii_1]) (by decide) (fun _ => rfl) (fun v39 e40 => ?_)
          have h := bnd_e e40 h
          refine g_iinc X (j := 4) (w := a29 + (1 : Int32)) (lv' := [(2, .int v39), (0, .ref (gad (xz x) 122)), (1, .int a26), (3, .int a28)]) dX11_pointsIn_100 rfl (by rw [ii_1]) (by decide) (fun _ => rfl) (fun v41 e42 => ?_)
          have h := bnd_e e42 h
          refine g_goto X (tgt := 51) dX11_pointsIn_103 (by decide) ?_
          refine g_lv [2, 3, 1, 4, 0] rfl ?_
          exact hrec v39 v41 M37 h
        · have h := ite_t hb h
          refine g_goto X (tgt := 100) dX11_pointsIn_86 (by decide) ?_
          refine g_iinc X (j := 4) (w := a29 + (1 : Int32)) (lv' := [(0, .ref (gad (xz x) 122)), (1, .int a26), (2, .int a27), (3, .int a28)]) dX11_pointsIn_100 rfl (by rw [ii_1]) (by decide) (fun _ => rfl) (fun v43 e44 => ?_)
          have h := bnd_e e44 h
          refine g_goto X (tgt := 51) dX11_pointsIn_103 (by decide) ?_
          refine g_lv [1, 2, 3, 4, 0] rfl ?_
          exact hrec a27 v43 M35 h
def st_X11_pointsIn_31 (F : Nat) (a18 : Int32) (rec : Int32 → Int32 → GM → Option (Int32 × GM)) (a19 : Int32) (a20 : Int32) (M : GM) : Option (Int32 × GM) := if (2 : Int32) ≤ a20 then (some (a19, M)) else (bndO (f_X11_layPiece F a18 a20 M) (fun (v22, M23) => if v22 = 0 then (bnd (a20 + (1 : Int32)) (fun v50 => rec a19 v50 M23)) else (bnd (0 : Int32) (fun v24 => bndO (lp_X11_pointsIn_51 F a18 a20 F a19 v24 M23) (fun (v45, M46) => bnd (a20 + (1 : Int32)) (fun v48 => rec v45 v48 M46))))))
def lp_X11_pointsIn_31 (F : Nat) (a18 : Int32) : Nat → Int32 → Int32 → GM → Option (Int32 × GM)
  | 0 => fun _ _ _ => none
  | f + 1 => fun a19 a20 M => st_X11_pointsIn_31 F a18 (lp_X11_pointsIn_31 F a18 f) a19 a20 M
set_option maxHeartbeats 4000000 in
set_option maxRecDepth 100000 in
theorem lw_X11_pointsIn_31 {x : GX} (X : GC x cX11_pointsIn 5 RX11 4) {a18 : Int32}  {F : Nat} {r9 : (Int32 × GM)} (hE : ∀ (x2_9 : Int32) (M9 : GM), r9 = (x2_9, M9) → WG x M9 [(2, .int x2_9)] 112 []) : ∀ (f : Nat) (a19 : Int32) (a20 : Int32) (M : GM), lp_X11_pointsIn_31 F a18 f a19 a20 M = some r9 → WG x M [(0, .ref (gad (xz x) 122)), (1, .int a18), (2, .int a19), (3, .int a20)] 31 [] := by
  intro f
  induction f with
  | zero => intro a19 a20 M h; cases h
  | succ f ih =>
    intro a19 a20 M h
    have hrec := ih
    have h : st_X11_pointsIn_31 F a18 (lp_X11_pointsIn_31 F a18 f) a19 a20 M = some r9 := h
    generalize lp_X11_pointsIn_31 F a18 f = rec at h hrec
    unfold st_X11_pointsIn_31 at h
    refine g_iload_n X (j := 3) dX11_pointsIn_31 rfl rfl ?_
    refine g_iconst X (v := 2) dX11_pointsIn_32 (by decide) ?_
    refine g_icmp_ge X (tgt := 112) dX11_pointsIn_33 (by decide) (fun hb => ?_) (fun hb => ?_)
    · have h := ite_t hb h
      refine g_lv [2] rfl ?_
      exact hE a19 M (Option.some.inj h).symm
    · have h := ite_f hb h
      refine g_aload_n X (j := 0) dX11_pointsIn_36 rfl rfl ?_
      refine g_iload_n X (j := 1) dX11_pointsIn_37 rfl rfl ?_
      refine g_iload_n X (j := 3) dX11_pointsIn_38 rfl rfl ?_
      obtain ⟨⟨v22, M23⟩, hc21, h⟩ := bndO_e h
      refine gc_X11_286 X gT_c122 (ct_X11_layPiece X.htr  hc21) (by decide) (Nat.le_of_ble_eq_true rfl) dX11_pointsIn_39 ?_
      refine g_if_ne X (tgt := 48) dX11_pointsIn_42 (by decide) (fun hb => ?_) (fun hb => ?_)
      · have h := ite_f hb h
        refine g_iconst X (v := 0) dX11_pointsIn_48 (by decide) ?_
        refine g_topi (fun v24 e25 => ?_)
        have h := bnd_e e25 h
        refine g_istore X (lv' := [(4, .int v24), (0, .ref (gad (xz x) 122)), (1, .int a18), (2, .int a19), (3, .int a20)]) dX11_pointsIn_49 (by decide) rfl ?_
        refine g_lv [1, 2, 3, 4, 0] rfl ?_
        obtain ⟨⟨v45, M46⟩, hl47, h⟩ := bndO_e h
        refine lw_X11_pointsIn_51 X  (fun v45_ M46_ e9 => ?_) F a19 v24 M23 hl47
        cases e9
        refine g_iinc X (j := 3) (w := a20 + (1 : Int32)) (lv' := [(0, .ref (gad (xz x) 122)), (1, .int a18), (2, .int v45)]) dX11_pointsIn_106 rfl (by rw [ii_1]) (by decide) (fun _ => rfl) (fun v48 e49 => ?_)
        have h := bnd_e e49 h
        refine g_goto X (tgt := 31) dX11_pointsIn_109 (by decide) ?_
        refine g_lv [1, 2, 3, 0] rfl ?_
        exact hrec v45 v48 M46 h
      · have h := ite_t hb h
        refine g_goto X (tgt := 106) dX11_pointsIn_45 (by decide) ?_
        refine g_iinc X (j := 3) (w := a20 + (1 : Int32)) (lv' := [(0, .ref (gad (xz x) 122)), (1, .int a18), (2, .int a19)]) dX11_pointsIn_106 rfl (by rw [ii_1]) (by decide) (fun _ => rfl) (fun v50 e51 => ?_)
        have h := bnd_e e51 h
        refine g_goto X (tgt := 31) dX11_pointsIn_109 (by decide) ?_
        refine g_lv [1, 2, 3, 0] rfl ?_
        exact hrec a19 v50 M23 h
def f_X11_pointsIn (F : Nat) (i0 : Int32) (M : GM) : Option (Int32 × GM) := bndO (f_X11_makePolygon F i0 M) (fun M2 => bnd (0 : Int32) (fun v3 => bndO (lp_X11_pointsIn_7 F i0 F v3 M2) (fun M12 => bnd (0 : Int32) (fun v14 => bnd (0 : Int32) (fun v16 => bndO (lp_X11_pointsIn_31 F i0 F v14 v16 M12) (fun (v52, M53) => some (v52, M53)))))))
set_option maxHeartbeats 4000000 in
set_option maxRecDepth 100000 in
theorem w_X11_pointsIn {x : GX} (X : GC x cX11_pointsIn 5 RX11 4) {i0 : Int32}  {F : Nat} {M : GM} {r9 : (Int32 × GM)} (hR : ∀ (v9 : Int32) (M9 : GM) (lv9 : List (Nat × Value)) (pc9 : Nat), r9 = (v9, M9) → decode cX11_pointsIn pc9 = .ok (.ireturn, 1) → WG x M9 lv9 pc9 [.int v9]) (h : f_X11_pointsIn F i0 M = some r9) : WG x M [(0, .ref (gad (xz x) 122)), (1, .int i0)] 0 [] := by
  unfold f_X11_pointsIn at h
  refine g_aload_n X (j := 0) dX11_pointsIn_0 rfl rfl ?_
  refine g_iload_n X (j := 1) dX11_pointsIn_1 rfl rfl ?_
  obtain ⟨M2, hc1, h⟩ := bndO_e h
  refine gc_X11_282 X gT_c122 (ct_X11_makePolygon X.htr  hc1) (by decide) (Nat.le_of_ble_eq_true rfl) dX11_pointsIn_2 ?_
  refine g_iconst X (v := 0) dX11_pointsIn_5 (by decide) ?_
  refine g_topi (fun v3 e4 => ?_)
  have h := bnd_e e4 h
  refine g_istore_n X (lv' := [(2, .int v3), (0, .ref (gad (xz x) 122)), (1, .int i0)]) dX11_pointsIn_6 rfl (by decide) rfl ?_
  refine g_lv [1, 2, 0] rfl ?_
  obtain ⟨M12, hl13, h⟩ := bndO_e h
  refine lw_X11_pointsIn_7 X  (fun M12_ e9 => ?_) F v3 M2 hl13
  cases e9
  refine g_iconst X (v := 0) dX11_pointsIn_27 (by decide) ?_
  refine g_topi (fun v14 e15 => ?_)
  have h := bnd_e e15 h
  refine g_istore_n X (lv' := [(2, .int v14), (0, .ref (gad (xz x) 122)), (1, .int i0)]) dX11_pointsIn_28 rfl (by decide) rfl ?_
  refine g_iconst X (v := 0) dX11_pointsIn_29 (by decide) ?_
  refine g_topi (fun v16 e17 => ?_)
  have h := bnd_e e17 h
  refine g_istore_n X (lv' := [(3, .int v16), (2, .int v14), (0, .ref (gad (xz x) 122)), (1, .int i0)]) dX11_pointsIn_30 rfl (by decide) rfl ?_
  refine g_lv [2, 3, 1, 0] rfl ?_
  obtain ⟨⟨v52, M53⟩, hl54, h⟩ := bndO_e h
  refine lw_X11_pointsIn_31 X  (fun v52_ M53_ e9 => ?_) F v14 v16 M12 hl54
  cases e9
  refine g_iload_n X (j := 0) dX11_pointsIn_112 rfl rfl ?_
  exact hR v52 M53 _ _ (Option.some.inj h).symm dX11_pointsIn_113
theorem ct_X11_pointsIn {l : Launch} {z : GZ} (htr : l.stackTraces = false) {i0 : Int32}  {M : GM} {F : Nat} {v : Int32} {M1 : GM} (h : f_X11_pointsIn F i0 M = some (v, M1)) : gMet l z yX11_pointsIn cX11_pointsIn 5 (some .int) 4 [.ref (gad z 122), .int i0] M (some (.int v)) M1 := gMet_ofI (by decide +kernel) (Nat.le_of_ble_eq_true rfl) htr rfl (fun x X ez el hR => by subst ez; subst el; exact w_X11_pointsIn X  (fun v9 M9 lv9 pc9 e9 d9 => by cases e9; exact hR lv9 pc9 d9) h)
theorem gc_X11_329 {x : GX} {cc : ByteArray} {nL d pc : Nat} {M : GM} {lv : List (Nat × Value)} {st : List Value} (X : GC x cc nL RX11 d) {i0 : Int32} {M1 : GM} {r : Int32} (ht : gT 122 = 11) (hM : gMet (xl x) (xz x) yX11_pointsIn cX11_pointsIn 5 (some .int) 4 [.ref (gad (xz x) 122), .int i0] M (some (.int r)) M1) (hd : 5 ≤ d) (hsum : (st.map fun v => v.category).sum ≤ 8) (dec : decode cc pc = .ok (.invokevirtual 329, 3)) (go : WG x M1 lv (pc + 3) (.int r :: st)) : WG x M lv pc (.int i0 :: .ref (gad (xz x) 122) :: st) := g_callV X (n := 1) (As := [.int i0]) (rest := st) hM ht (by decide) (gE_11 ht) rfl q_1392 q_1394 q_36 q_63 q_1395 (by decide +kernel) rfl hd (by decide) rfl hsum dec go
theorem dX11_pointsOf_0 : decode cX11_pointsOf 0 = .ok (.aload_n 0, 1) := by decide +kernel
theorem dX11_pointsOf_1 : decode cX11_pointsOf 1 = .ok (.iconst 0, 1) := by decide +kernel
theorem dX11_pointsOf_2 : decode cX11_pointsOf 2 = .ok (.putfield 114, 3) := by decide +kernel
theorem dX11_pointsOf_5 : decode cX11_pointsOf 5 = .ok (.aload_n 0, 1) := by decide +kernel
theorem dX11_pointsOf_6 : decode cX11_pointsOf 6 = .ok (.iload_n 1, 1) := by decide +kernel
theorem dX11_pointsOf_7 : decode cX11_pointsOf 7 = .ok (.invokevirtual 150, 3) := by decide +kernel
theorem dX11_pointsOf_10 : decode cX11_pointsOf 10 = .ok (.ifCond .eq 11, 3) := by decide +kernel
theorem dX11_pointsOf_13 : decode cX11_pointsOf 13 = .ok (.aload_n 0, 1) := by decide +kernel
theorem dX11_pointsOf_14 : decode cX11_pointsOf 14 = .ok (.iload_n 1, 1) := by decide +kernel
theorem dX11_pointsOf_15 : decode cX11_pointsOf 15 = .ok (.invokevirtual 329, 3) := by decide +kernel
theorem dX11_pointsOf_18 : decode cX11_pointsOf 18 = .ok (.goto 8, 3) := by decide +kernel
theorem dX11_pointsOf_21 : decode cX11_pointsOf 21 = .ok (.aload_n 0, 1) := by decide +kernel
theorem dX11_pointsOf_22 : decode cX11_pointsOf 22 = .ok (.iconst 1, 1) := by decide +kernel
theorem dX11_pointsOf_23 : decode cX11_pointsOf 23 = .ok (.invokevirtual 139, 3) := by decide +kernel
theorem dX11_pointsOf_26 : decode cX11_pointsOf 26 = .ok (.ireturn, 1) := by decide +kernel
def f_X11_pointsOf (F : Nat) (i0 : Int32) (M : GM) : Option (Int32 × GM) := bnd (sI M 122 0 (0 : Int32)) (fun M1 => if (f_X11_isPane i0 M1) = 0 then (bndO (f_X11_no F (1 : Int32) M1) (fun (v4, M5) => some (v4, M5))) else (bndO (f_X11_pointsIn F i0 M1) (fun (v7, M8) => some (v7, M8))))
set_option maxHeartbeats 4000000 in
set_option maxRecDepth 100000 in
theorem w_X11_pointsOf {x : GX} (X : GC x cX11_pointsOf 2 RX11 5) {i0 : Int32}  {F : Nat} {M : GM} {r9 : (Int32 × GM)} (hR : ∀ (v9 : Int32) (M9 : GM) (lv9 : List (Nat × Value)) (pc9 : Nat), r9 = (v9, M9) → decode cX11_pointsOf pc9 = .ok (.ireturn, 1) → WG x M9 lv9 pc9 [.int v9]) (h : f_X11_pointsOf F i0 M = some r9) : WG x M [(0, .ref (gad (xz x) 122)), (1, .int i0)] 0 [] := by
  unfold f_X11_pointsOf at h
  refine g_aload_n X (j := 0) dX11_pointsOf_0 rfl rfl ?_
  refine g_iconst X (v := 0) dX11_pointsOf_1 (by decide) ?_
  refine gp_X11_114 X gT_c122 dX11_pointsOf_2 ?_
  refine g_mem (fun M1 e2 => ?_)
  have h := bnd_e e2 h
  refine g_aload_n X (j := 0) dX11_pointsOf_5 rfl rfl ?_
  refine g_iload_n X (j := 1) dX11_pointsOf_6 rfl rfl ?_
  refine gc_X11_150 X gT_c122 (ct_X11_isPane X.htr ) (by decide) (Nat.le_of_ble_eq_true rfl) dX11_pointsOf_7 ?_
  refine g_if_eq X (tgt := 21) dX11_pointsOf_10 (by decide) (fun hb => ?_) (fun hb => ?_)
  · have h := ite_t hb h
    refine g_aload_n X (j := 0) dX11_pointsOf_21 rfl rfl ?_
    refine g_iconst X (v := 1) dX11_pointsOf_22 (by decide) ?_
    obtain ⟨⟨v4, M5⟩, hc3, h⟩ := bndO_e h
    refine gc_X11_139 X gT_c122 (ct_X11_no X.htr  hc3) (by decide) (Nat.le_of_ble_eq_true rfl) dX11_pointsOf_23 ?_
    exact hR v4 M5 _ _ (Option.some.inj h).symm dX11_pointsOf_26
  · have h := ite_f hb h
    refine g_aload_n X (j := 0) dX11_pointsOf_13 rfl rfl ?_
    refine g_iload_n X (j := 1) dX11_pointsOf_14 rfl rfl ?_
    obtain ⟨⟨v7, M8⟩, hc6, h⟩ := bndO_e h
    refine gc_X11_329 X gT_c122 (ct_X11_pointsIn X.htr  hc6) (by decide) (Nat.le_of_ble_eq_true rfl) dX11_pointsOf_15 ?_
    refine g_goto X (tgt := 26) dX11_pointsOf_18 (by decide) ?_
    exact hR v7 M8 _ _ (Option.some.inj h).symm dX11_pointsOf_26
theorem ct_X11_pointsOf {l : Launch} {z : GZ} (htr : l.stackTraces = false) {i0 : Int32}  {M : GM} {F : Nat} {v : Int32} {M1 : GM} (h : f_X11_pointsOf F i0 M = some (v, M1)) : gMet l z yX11_pointsOf cX11_pointsOf 2 (some .int) 5 [.ref (gad z 122), .int i0] M (some (.int v)) M1 := gMet_ofI (by decide +kernel) (Nat.le_of_ble_eq_true rfl) htr rfl (fun x X ez el hR => by subst ez; subst el; exact w_X11_pointsOf X  (fun v9 M9 lv9 pc9 e9 d9 => by cases e9; exact hR lv9 pc9 d9) h)
theorem gc_X11_332 {x : GX} {cc : ByteArray} {nL d pc : Nat} {M : GM} {lv : List (Nat × Value)} {st : List Value} (X : GC x cc nL RX11 d) {i0 : Int32} {i1 : Int32} {M1 : GM} {r : Int32} (hM : gMet (xl x) (xz x) yX11_isPoint cX11_isPoint 2 (some .boolean) 1 [.int i0, .int i1] M (some (.int r)) M1) (hd : 2 ≤ d) (hsum : (st.map fun v => v.category).sum ≤ 8) (dec : decode cc pc = .ok (.invokestatic 332, 3)) (go : WG x M1 lv (pc + 3) (.int r :: st)) : WG x M lv pc (.int i1 :: .int i0 :: st) := g_callS X (n := 2) (As := [.int i0, .int i1]) (rest := st) hM q_1409 q_1410 q_63 q_1411 (by decide +kernel) rfl hd (by decide) rfl hsum dec go
theorem gc_X11_335 {x : GX} {cc : ByteArray} {nL d pc : Nat} {M : GM} {lv : List (Nat × Value)} {st : List Value} (X : GC x cc nL RX11 d) {i0 : Int32} {i1 : Int32} {i2 : Int32} {M1 : GM} {r : Int32} (ht : gT 122 = 11) (hM : gMet (xl x) (xz x) yX11_pieceAt cX11_pieceAt 5 (some .int) 4 [.ref (gad (xz x) 122), .int i0, .int i1, .int i2] M (some (.int r)) M1) (hd : 5 ≤ d) (hsum : (st.map fun v => v.category).sum ≤ 8) (dec : decode cc pc = .ok (.invokevirtual 335, 3)) (go : WG x M1 lv (pc + 3) (.int r :: st)) : WG x M lv pc (.int i2 :: .int i1 :: .int i0 :: .ref (gad (xz x) 122) :: st) := g_callV X (n := 3) (As := [.int i0, .int i1, .int i2]) (rest := st) hM ht (by decide) (gE_11 ht) rfl q_1412 q_1414 q_39 q_63 q_1415 (by decide +kernel) rfl hd (by decide) rfl hsum dec go
theorem dX11_liesIn_0 : decode cX11_liesIn 0 = .ok (.aload_n 0, 1) := by decide +kernel
theorem dX11_liesIn_1 : decode cX11_liesIn 1 = .ok (.iconst 0, 1) := by decide +kernel
theorem dX11_liesIn_2 : decode cX11_liesIn 2 = .ok (.putfield 114, 3) := by decide +kernel
theorem dX11_liesIn_5 : decode cX11_liesIn 5 = .ok (.aload_n 0, 1) := by decide +kernel
theorem dX11_liesIn_6 : decode cX11_liesIn 6 = .ok (.iload_n 1, 1) := by decide +kernel
theorem dX11_liesIn_7 : decode cX11_liesIn 7 = .ok (.invokevirtual 150, 3) := by decide +kernel
theorem dX11_liesIn_10 : decode cX11_liesIn 10 = .ok (.ifCond .eq 30, 3) := by decide +kernel
theorem dX11_liesIn_13 : decode cX11_liesIn 13 = .ok (.iload_n 2, 1) := by decide +kernel
theorem dX11_liesIn_14 : decode cX11_liesIn 14 = .ok (.iload_n 3, 1) := by decide +kernel
theorem dX11_liesIn_15 : decode cX11_liesIn 15 = .ok (.invokestatic 332, 3) := by decide +kernel
theorem dX11_liesIn_18 : decode cX11_liesIn 18 = .ok (.ifCond .eq 22, 3) := by decide +kernel
theorem dX11_liesIn_21 : decode cX11_liesIn 21 = .ok (.aload_n 0, 1) := by decide +kernel
theorem dX11_liesIn_22 : decode cX11_liesIn 22 = .ok (.iload_n 1, 1) := by decide +kernel
theorem dX11_liesIn_23 : decode cX11_liesIn 23 = .ok (.iload_n 2, 1) := by decide +kernel
theorem dX11_liesIn_24 : decode cX11_liesIn 24 = .ok (.iload_n 3, 1) := by decide +kernel
theorem dX11_liesIn_25 : decode cX11_liesIn 25 = .ok (.invokevirtual 335, 3) := by decide +kernel
theorem dX11_liesIn_28 : decode cX11_liesIn 28 = .ok (.iconst (-1), 1) := by decide +kernel
theorem dX11_liesIn_29 : decode cX11_liesIn 29 = .ok (.if_icmp .eq 7, 3) := by decide +kernel
theorem dX11_liesIn_32 : decode cX11_liesIn 32 = .ok (.iconst 1, 1) := by decide +kernel
theorem dX11_liesIn_33 : decode cX11_liesIn 33 = .ok (.goto 12, 3) := by decide +kernel
theorem dX11_liesIn_36 : decode cX11_liesIn 36 = .ok (.iconst 0, 1) := by decide +kernel
theorem dX11_liesIn_37 : decode cX11_liesIn 37 = .ok (.goto 8, 3) := by decide +kernel
theorem dX11_liesIn_40 : decode cX11_liesIn 40 = .ok (.aload_n 0, 1) := by decide +kernel
theorem dX11_liesIn_41 : decode cX11_liesIn 41 = .ok (.iconst 1, 1) := by decide +kernel
theorem dX11_liesIn_42 : decode cX11_liesIn 42 = .ok (.invokevirtual 153, 3) := by decide +kernel
theorem dX11_liesIn_45 : decode cX11_liesIn 45 = .ok (.ireturn, 1) := by decide +kernel
def bk_X11_liesIn_40 (F : Nat) (M : GM) : Option (Int32 × GM) := bndO (f_X11_isNot F (1 : Int32) M) (fun (v4, M5) => grd (gTf v4) (some (v4, M5)))
set_option maxHeartbeats 4000000 in
set_option maxRecDepth 100000 in
theorem bw_X11_liesIn_40 {x : GX} (X : GC x cX11_liesIn 4 RX11 5)    {F : Nat} {M : GM} {r9 : (Int32 × GM)} (hR : ∀ (v9 : Int32) (M9 : GM) (lv9 : List (Nat × Value)) (pc9 : Nat), r9 = (v9, M9) → (v9 = 0 ∨ v9 = 1) → decode cX11_liesIn pc9 = .ok (.ireturn, 1) → WG x M9 lv9 pc9 [.int v9]) (h : bk_X11_liesIn_40 F M = some r9) : WG x M [(0, .ref (gad (xz x) 122))] 40 [] := by
  unfold bk_X11_liesIn_40 at h
  refine g_aload_n X (j := 0) dX11_liesIn_40 rfl rfl ?_
  refine g_iconst X (v := 1) dX11_liesIn_41 (by decide) ?_
  obtain ⟨⟨v4, M5⟩, hc3, h⟩ := bndO_e h
  refine gc_X11_153 X gT_c122 (ct_X11_isNot X.htr  hc3) (by decide) (Nat.le_of_ble_eq_true rfl) dX11_liesIn_42 ?_
  obtain ⟨hg6, h⟩ := grd_e h
  exact hR v4 M5 _ _ (Option.some.inj h).symm (gTf_of hg6) dX11_liesIn_45
def f_X11_liesIn (F : Nat) (i0 : Int32) (i1 : Int32) (i2 : Int32) (M : GM) : Option (Int32 × GM) := bnd (sI M 122 0 (0 : Int32)) (fun M1 => if (f_X11_isPane i0 M1) = 0 then (bk_X11_liesIn_40 F M1) else (if (f_X11_isPoint i1 i2) = 0 then (bk_X11_liesIn_40 F M1) else (bndO (f_X11_pieceAt F i0 i1 i2 M1) (fun (v8, M9) => if v8 = ((-1) : Int32) then (some ((0 : Int32), M9)) else (some ((1 : Int32), M9))))))
set_option maxHeartbeats 4000000 in
set_option maxRecDepth 100000 in
theorem w_X11_liesIn {x : GX} (X : GC x cX11_liesIn 4 RX11 5) {i0 : Int32} {i1 : Int32} {i2 : Int32}  {F : Nat} {M : GM} {r9 : (Int32 × GM)} (hR : ∀ (v9 : Int32) (M9 : GM) (lv9 : List (Nat × Value)) (pc9 : Nat), r9 = (v9, M9) → (v9 = 0 ∨ v9 = 1) → decode cX11_liesIn pc9 = .ok (.ireturn, 1) → WG x M9 lv9 pc9 [.int v9]) (h : f_X11_liesIn F i0 i1 i2 M = some r9) : WG x M [(0, .ref (gad (xz x) 122)), (1, .int i0), (2, .int i1), (3, .int i2)] 0 [] := by
  unfold f_X11_liesIn at h
  refine g_aload_n X (j := 0) dX11_liesIn_0 rfl rfl ?_
  refine g_iconst X (v := 0) dX11_liesIn_1 (by decide) ?_
  refine gp_X11_114 X gT_c122 dX11_liesIn_2 ?_
  refine g_mem (fun M1 e2 => ?_)
  have h := bnd_e e2 h
  refine g_aload_n X (j := 0) dX11_liesIn_5 rfl rfl ?_
  refine g_iload_n X (j := 1) dX11_liesIn_6 rfl rfl ?_
  refine gc_X11_150 X gT_c122 (ct_X11_isPane X.htr ) (by decide) (Nat.le_of_ble_eq_true rfl) dX11_liesIn_7 ?_
  refine g_if_eq X (tgt := 40) dX11_liesIn_10 (by decide) (fun hb => ?_) (fun hb => ?_)
  · have h := ite_t hb h
    refine g_lv [0] rfl ?_
    exact bw_X11_liesIn_40 X  hR h
  · have h := ite_f hb h
    refine g_iload_n X (j := 2) dX11_liesIn_13 rfl rfl ?_
    refine g_iload_n X (j := 3) dX11_liesIn_14 rfl rfl ?_
    refine gc_X11_332 X (ct_X11_isPoint X.htr ) (by decide) (Nat.le_of_ble_eq_true rfl) dX11_liesIn_15 ?_
    refine g_if_eq X (tgt := 40) dX11_liesIn_18 (by decide) (fun hb => ?_) (fun hb => ?_)
    · have h := ite_t hb h
      refine g_lv [0] rfl ?_
      exact bw_X11_liesIn_40 X  hR h
    · have h := ite_f hb h
      refine g_aload_n X (j := 0) dX11_liesIn_21 rfl rfl ?_
      refine g_iload_n X (j := 1) dX11_liesIn_22 rfl rfl ?_
      refine g_iload_n X (j := 2) dX11_liesIn_23 rfl rfl ?_
      refine g_iload_n X (j := 3) dX11_liesIn_24 rfl rfl ?_
      obtain ⟨⟨v8, M9⟩, hc7, h⟩ := bndO_e h
      refine gc_X11_335 X gT_c122 (ct_X11_pieceAt X.htr  hc7) (by decide) (Nat.le_of_ble_eq_true rfl) dX11_liesIn_25 ?_
      refine g_iconst X (v := (-1)) dX11_liesIn_28 (by decide) ?_
      refine g_icmp_eq X (tgt := 36) dX11_liesIn_29 (by decide) (fun hb => ?_) (fun hb => ?_)
      · have h := ite_t hb h
        refine g_iconst X (v := 0) dX11_liesIn_36 (by decide) ?_
        refine g_goto X (tgt := 45) dX11_liesIn_37 (by decide) ?_
        exact hR (0 : Int32) M9 _ _ (Option.some.inj h).symm (Or.inl rfl) dX11_liesIn_45
      · have h := ite_f hb h
        refine g_iconst X (v := 1) dX11_liesIn_32 (by decide) ?_
        refine g_goto X (tgt := 45) dX11_liesIn_33 (by decide) ?_
        exact hR (1 : Int32) M9 _ _ (Option.some.inj h).symm (Or.inr rfl) dX11_liesIn_45
theorem ct_X11_liesIn {l : Launch} {z : GZ} (htr : l.stackTraces = false) {i0 : Int32} {i1 : Int32} {i2 : Int32}  {M : GM} {F : Nat} {v : Int32} {M1 : GM} (h : f_X11_liesIn F i0 i1 i2 M = some (v, M1)) : gMet l z yX11_liesIn cX11_liesIn 4 (some .boolean) 5 [.ref (gad z 122), .int i0, .int i1, .int i2] M (some (.int v)) M1 := gMet_ofZ (by decide +kernel) (Nat.le_of_ble_eq_true rfl) htr (fun x X ez el hR => by subst ez; subst el; exact w_X11_liesIn X  (fun v9 M9 lv9 pc9 e9 z9 d9 => by cases e9; exact hR lv9 pc9 z9 d9) h)
theorem dX11_depthOf_0 : decode cX11_depthOf 0 = .ok (.aload_n 0, 1) := by decide +kernel
theorem dX11_depthOf_1 : decode cX11_depthOf 1 = .ok (.iconst 0, 1) := by decide +kernel
theorem dX11_depthOf_2 : decode cX11_depthOf 2 = .ok (.putfield 114, 3) := by decide +kernel
theorem dX11_depthOf_5 : decode cX11_depthOf 5 = .ok (.aload_n 0, 1) := by decide +kernel
theorem dX11_depthOf_6 : decode cX11_depthOf 6 = .ok (.iload_n 1, 1) := by decide +kernel
theorem dX11_depthOf_7 : decode cX11_depthOf 7 = .ok (.invokevirtual 150, 3) := by decide +kernel
theorem dX11_depthOf_10 : decode cX11_depthOf 10 = .ok (.ifCond .eq 11, 3) := by decide +kernel
theorem dX11_depthOf_13 : decode cX11_depthOf 13 = .ok (.iload_n 2, 1) := by decide +kernel
theorem dX11_depthOf_14 : decode cX11_depthOf 14 = .ok (.iload_n 3, 1) := by decide +kernel
theorem dX11_depthOf_15 : decode cX11_depthOf 15 = .ok (.invokestatic 332, 3) := by decide +kernel
theorem dX11_depthOf_18 : decode cX11_depthOf 18 = .ok (.ifCond .ne 9, 3) := by decide +kernel
theorem dX11_depthOf_21 : decode cX11_depthOf 21 = .ok (.aload_n 0, 1) := by decide +kernel
theorem dX11_depthOf_22 : decode cX11_depthOf 22 = .ok (.iconst 1, 1) := by decide +kernel
theorem dX11_depthOf_23 : decode cX11_depthOf 23 = .ok (.invokevirtual 139, 3) := by decide +kernel
theorem dX11_depthOf_26 : decode cX11_depthOf 26 = .ok (.ireturn, 1) := by decide +kernel
theorem dX11_depthOf_27 : decode cX11_depthOf 27 = .ok (.aload_n 0, 1) := by decide +kernel
theorem dX11_depthOf_28 : decode cX11_depthOf 28 = .ok (.iload_n 1, 1) := by decide +kernel
theorem dX11_depthOf_29 : decode cX11_depthOf 29 = .ok (.iload_n 2, 1) := by decide +kernel
theorem dX11_depthOf_30 : decode cX11_depthOf 30 = .ok (.iload_n 3, 1) := by decide +kernel
theorem dX11_depthOf_31 : decode cX11_depthOf 31 = .ok (.invokevirtual 335, 3) := by decide +kernel
theorem dX11_depthOf_34 : decode cX11_depthOf 34 = .ok (.iconst (-1), 1) := by decide +kernel
theorem dX11_depthOf_35 : decode cX11_depthOf 35 = .ok (.if_icmp .ne 7, 3) := by decide +kernel
theorem dX11_depthOf_38 : decode cX11_depthOf 38 = .ok (.iconst (-1), 1) := by decide +kernel
theorem dX11_depthOf_39 : decode cX11_depthOf 39 = .ok (.goto 7, 3) := by decide +kernel
theorem dX11_depthOf_42 : decode cX11_depthOf 42 = .ok (.aload_n 0, 1) := by decide +kernel
theorem dX11_depthOf_43 : decode cX11_depthOf 43 = .ok (.invokevirtual 269, 3) := by decide +kernel
theorem dX11_depthOf_46 : decode cX11_depthOf 46 = .ok (.ireturn, 1) := by decide +kernel
def bk_X11_depthOf_21 (F : Nat) (M : GM) : Option (Int32 × GM) := bndO (f_X11_no F (1 : Int32) M) (fun (v4, M5) => some (v4, M5))
set_option maxHeartbeats 4000000 in
set_option maxRecDepth 100000 in
theorem bw_X11_depthOf_21 {x : GX} (X : GC x cX11_depthOf 4 RX11 5)    {F : Nat} {M : GM} {r9 : (Int32 × GM)} (hR : ∀ (v9 : Int32) (M9 : GM) (lv9 : List (Nat × Value)) (pc9 : Nat), r9 = (v9, M9) → decode cX11_depthOf pc9 = .ok (.ireturn, 1) → WG x M9 lv9 pc9 [.int v9]) (h : bk_X11_depthOf_21 F M = some r9) : WG x M [(0, .ref (gad (xz x) 122))] 21 [] := by
  unfold bk_X11_depthOf_21 at h
  refine g_aload_n X (j := 0) dX11_depthOf_21 rfl rfl ?_
  refine g_iconst X (v := 1) dX11_depthOf_22 (by decide) ?_
  obtain ⟨⟨v4, M5⟩, hc3, h⟩ := bndO_e h
  refine gc_X11_139 X gT_c122 (ct_X11_no X.htr  hc3) (by decide) (Nat.le_of_ble_eq_true rfl) dX11_depthOf_23 ?_
  exact hR v4 M5 _ _ (Option.some.inj h).symm dX11_depthOf_26
def f_X11_depthOf (F : Nat) (i0 : Int32) (i1 : Int32) (i2 : Int32) (M : GM) : Option (Int32 × GM) := bnd (sI M 122 0 (0 : Int32)) (fun M1 => if (f_X11_isPane i0 M1) = 0 then (bk_X11_depthOf_21 F M1) else (if (f_X11_isPoint i1 i2) = 0 then (bk_X11_depthOf_21 F M1) else (bndO (f_X11_pieceAt F i0 i1 i2 M1) (fun (v7, M8) => if v7 = ((-1) : Int32) then (some (((-1) : Int32), M8)) else (bndO (f_X11_depthHere F M8) (fun v10 => some (v10, M8)))))))
set_option maxHeartbeats 4000000 in
set_option maxRecDepth 100000 in
theorem w_X11_depthOf {x : GX} (X : GC x cX11_depthOf 4 RX11 5) {i0 : Int32} {i1 : Int32} {i2 : Int32}  {F : Nat} {M : GM} {r9 : (Int32 × GM)} (hR : ∀ (v9 : Int32) (M9 : GM) (lv9 : List (Nat × Value)) (pc9 : Nat), r9 = (v9, M9) → decode cX11_depthOf pc9 = .ok (.ireturn, 1) → WG x M9 lv9 pc9 [.int v9]) (h : f_X11_depthOf F i0 i1 i2 M = some r9) : WG x M [(0, .ref (gad (xz x) 122)), (1, .int i0), (2, .int i1), (3, .int i2)] 0 [] := by
  unfold f_X11_depthOf at h
  refine g_aload_n X (j := 0) dX11_depthOf_0 rfl rfl ?_
  refine g_iconst X (v := 0) dX11_depthOf_1 (by decide) ?_
  refine gp_X11_114 X gT_c122 dX11_depthOf_2 ?_
  refine g_mem (fun M1 e2 => ?_)
  have h := bnd_e e2 h
  refine g_aload_n X (j := 0) dX11_depthOf_5 rfl rfl ?_
  refine g_iload_n X (j := 1) dX11_depthOf_6 rfl rfl ?_
  refine gc_X11_150 X gT_c122 (ct_X11_isPane X.htr ) (by decide) (Nat.le_of_ble_eq_true rfl) dX11_depthOf_7 ?_
  refine g_if_eq X (tgt := 21) dX11_depthOf_10 (by decide) (fun hb => ?_) (fun hb => ?_)
  · have h := ite_t hb h
    refine g_lv [0] rfl ?_
    exact bw_X11_depthOf_21 X  hR h
  · have h := ite_f hb h
    refine g_iload_n X (j := 2) dX11_depthOf_13 rfl rfl ?_
    refine g_iload_n X (j := 3) dX11_depthOf_14 rfl rfl ?_
    refine gc_X11_332 X (ct_X11_isPoint X.htr ) (by decide) (Nat.le_of_ble_eq_true rfl) dX11_depthOf_15 ?_
    refine g_if_ne X (tgt := 27) dX11_depthOf_18 (by decide) (fun hb => ?_) (fun hb => ?_)
    · have h := ite_f hb h
      refine g_aload_n X (j := 0) dX11_depthOf_27 rfl rfl ?_
      refine g_iload_n X (j := 1) dX11_depthOf_28 rfl rfl ?_
      refine g_iload_n X (j := 2) dX11_depthOf_29 rfl rfl ?_
      refine g_iload_n X (j := 3) dX11_depthOf_30 rfl rfl ?_
      obtain ⟨⟨v7, M8⟩, hc6, h⟩ := bndO_e h
      refine gc_X11_335 X gT_c122 (ct_X11_pieceAt X.htr  hc6) (by decide) (Nat.le_of_ble_eq_true rfl) dX11_depthOf_31 ?_
      refine g_iconst X (v := (-1)) dX11_depthOf_34 (by decide) ?_
      refine g_icmp_ne X (tgt := 42) dX11_depthOf_35 (by decide) (fun hb => ?_) (fun hb => ?_)
      · have h := ite_f hb h
        refine g_aload_n X (j := 0) dX11_depthOf_42 rfl rfl ?_
        obtain ⟨v10, hc9, h⟩ := bndO_e h
        refine gc_X11_269 X gT_c122 (ct_X11_depthHere X.htr  hc9) (by decide) (Nat.le_of_ble_eq_true rfl) dX11_depthOf_43 ?_
        exact hR v10 M8 _ _ (Option.some.inj h).symm dX11_depthOf_46
      · have h := ite_t hb h
        refine g_iconst X (v := (-1)) dX11_depthOf_38 (by decide) ?_
        refine g_goto X (tgt := 46) dX11_depthOf_39 (by decide) ?_
        exact hR ((-1) : Int32) M8 _ _ (Option.some.inj h).symm dX11_depthOf_46
    · have h := ite_t hb h
      refine g_lv [0] rfl ?_
      exact bw_X11_depthOf_21 X  hR h
theorem ct_X11_depthOf {l : Launch} {z : GZ} (htr : l.stackTraces = false) {i0 : Int32} {i1 : Int32} {i2 : Int32}  {M : GM} {F : Nat} {v : Int32} {M1 : GM} (h : f_X11_depthOf F i0 i1 i2 M = some (v, M1)) : gMet l z yX11_depthOf cX11_depthOf 4 (some .int) 5 [.ref (gad z 122), .int i0, .int i1, .int i2] M (some (.int v)) M1 := gMet_ofI (by decide +kernel) (Nat.le_of_ble_eq_true rfl) htr rfl (fun x X ez el hR => by subst ez; subst el; exact w_X11_depthOf X  (fun v9 M9 lv9 pc9 e9 d9 => by cases e9; exact hR lv9 pc9 d9) h)
theorem dX11_colourOf_0 : decode cX11_colourOf 0 = .ok (.aload_n 0, 1) := by decide +kernel
theorem dX11_colourOf_1 : decode cX11_colourOf 1 = .ok (.iconst 0, 1) := by decide +kernel
theorem dX11_colourOf_2 : decode cX11_colourOf 2 = .ok (.putfield 114, 3) := by decide +kernel
theorem dX11_colourOf_5 : decode cX11_colourOf 5 = .ok (.aload_n 0, 1) := by decide +kernel
theorem dX11_colourOf_6 : decode cX11_colourOf 6 = .ok (.iload_n 1, 1) := by decide +kernel
theorem dX11_colourOf_7 : decode cX11_colourOf 7 = .ok (.invokevirtual 150, 3) := by decide +kernel
theorem dX11_colourOf_10 : decode cX11_colourOf 10 = .ok (.ifCond .eq 11, 3) := by decide +kernel
theorem dX11_colourOf_13 : decode cX11_colourOf 13 = .ok (.iload_n 2, 1) := by decide +kernel
theorem dX11_colourOf_14 : decode cX11_colourOf 14 = .ok (.iload_n 3, 1) := by decide +kernel
theorem dX11_colourOf_15 : decode cX11_colourOf 15 = .ok (.invokestatic 332, 3) := by decide +kernel
theorem dX11_colourOf_18 : decode cX11_colourOf 18 = .ok (.ifCond .ne 9, 3) := by decide +kernel
theorem dX11_colourOf_21 : decode cX11_colourOf 21 = .ok (.aload_n 0, 1) := by decide +kernel
theorem dX11_colourOf_22 : decode cX11_colourOf 22 = .ok (.iconst 1, 1) := by decide +kernel
theorem dX11_colourOf_23 : decode cX11_colourOf 23 = .ok (.invokevirtual 139, 3) := by decide +kernel
theorem dX11_colourOf_26 : decode cX11_colourOf 26 = .ok (.ireturn, 1) := by decide +kernel
theorem dX11_colourOf_27 : decode cX11_colourOf 27 = .ok (.aload_n 0, 1) := by decide +kernel
theorem dX11_colourOf_28 : decode cX11_colourOf 28 = .ok (.iload_n 1, 1) := by decide +kernel
theorem dX11_colourOf_29 : decode cX11_colourOf 29 = .ok (.iload_n 2, 1) := by decide +kernel
theorem dX11_colourOf_30 : decode cX11_colourOf 30 = .ok (.iload_n 3, 1) := by decide +kernel
theorem dX11_colourOf_31 : decode cX11_colourOf 31 = .ok (.invokevirtual 335, 3) := by decide +kernel
theorem dX11_colourOf_34 : decode cX11_colourOf 34 = .ok (.iconst (-1), 1) := by decide +kernel
theorem dX11_colourOf_35 : decode cX11_colourOf 35 = .ok (.if_icmp .ne 7, 3) := by decide +kernel
theorem dX11_colourOf_38 : decode cX11_colourOf 38 = .ok (.iconst (-1), 1) := by decide +kernel
theorem dX11_colourOf_39 : decode cX11_colourOf 39 = .ok (.goto 8, 3) := by decide +kernel
theorem dX11_colourOf_42 : decode cX11_colourOf 42 = .ok (.aload_n 0, 1) := by decide +kernel
theorem dX11_colourOf_43 : decode cX11_colourOf 43 = .ok (.iload_n 1, 1) := by decide +kernel
theorem dX11_colourOf_44 : decode cX11_colourOf 44 = .ok (.invokevirtual 272, 3) := by decide +kernel
theorem dX11_colourOf_47 : decode cX11_colourOf 47 = .ok (.ireturn, 1) := by decide +kernel
def bk_X11_colourOf_21 (F : Nat) (M : GM) : Option (Int32 × GM) := bndO (f_X11_no F (1 : Int32) M) (fun (v4, M5) => some (v4, M5))
set_option maxHeartbeats 4000000 in
set_option maxRecDepth 100000 in
theorem bw_X11_colourOf_21 {x : GX} (X : GC x cX11_colourOf 4 RX11 5)    {F : Nat} {M : GM} {r9 : (Int32 × GM)} (hR : ∀ (v9 : Int32) (M9 : GM) (lv9 : List (Nat × Value)) (pc9 : Nat), r9 = (v9, M9) → decode cX11_colourOf pc9 = .ok (.ireturn, 1) → WG x M9 lv9 pc9 [.int v9]) (h : bk_X11_colourOf_21 F M = some r9) : WG x M [(0, .ref (gad (xz x) 122))] 21 [] := by
  unfold bk_X11_colourOf_21 at h
  refine g_aload_n X (j := 0) dX11_colourOf_21 rfl rfl ?_
  refine g_iconst X (v := 1) dX11_colourOf_22 (by decide) ?_
  obtain ⟨⟨v4, M5⟩, hc3, h⟩ := bndO_e h
  refine gc_X11_139 X gT_c122 (ct_X11_no X.htr  hc3) (by decide) (Nat.le_of_ble_eq_true rfl) dX11_colourOf_23 ?_
  exact hR v4 M5 _ _ (Option.some.inj h).symm dX11_colourOf_26
def f_X11_colourOf (F : Nat) (i0 : Int32) (i1 : Int32) (i2 : Int32) (M : GM) : Option (Int32 × GM) := bnd (sI M 122 0 (0 : Int32)) (fun M1 => if (f_X11_isPane i0 M1) = 0 then (bk_X11_colourOf_21 F M1) else (if (f_X11_isPoint i1 i2) = 0 then (bk_X11_colourOf_21 F M1) else (bndO (f_X11_pieceAt F i0 i1 i2 M1) (fun (v7, M8) => if v7 = ((-1) : Int32) then (some (((-1) : Int32), M8)) else (bndO (f_X11_colourHere F i0 M8) (fun v10 => some (v10, M8)))))))
set_option maxHeartbeats 4000000 in
set_option maxRecDepth 100000 in
theorem w_X11_colourOf {x : GX} (X : GC x cX11_colourOf 4 RX11 5) {i0 : Int32} {i1 : Int32} {i2 : Int32}  {F : Nat} {M : GM} {r9 : (Int32 × GM)} (hR : ∀ (v9 : Int32) (M9 : GM) (lv9 : List (Nat × Value)) (pc9 : Nat), r9 = (v9, M9) → decode cX11_colourOf pc9 = .ok (.ireturn, 1) → WG x M9 lv9 pc9 [.int v9]) (h : f_X11_colourOf F i0 i1 i2 M = some r9) : WG x M [(0, .ref (gad (xz x) 122)), (1, .int i0), (2, .int i1), (3, .int i2)] 0 [] := by
  unfold f_X11_colourOf at h
  refine g_aload_n X (j := 0) dX11_colourOf_0 rfl rfl ?_
  refine g_iconst X (v := 0) dX11_colourOf_1 (by decide) ?_
  refine gp_X11_114 X gT_c122 dX11_colourOf_2 ?_
  refine g_mem (fun M1 e2 => ?_)
  have h := bnd_e e2 h
  refine g_aload_n X (j := 0) dX11_colourOf_5 rfl rfl ?_
  refine g_iload_n X (j := 1) dX11_colourOf_6 rfl rfl ?_
  refine gc_X11_150 X gT_c122 (ct_X11_isPane X.htr ) (by decide) (Nat.le_of_ble_eq_true rfl) dX11_colourOf_7 ?_
  refine g_if_eq X (tgt := 21) dX11_colourOf_10 (by decide) (fun hb => ?_) (fun hb => ?_)
  · have h := ite_t hb h
    refine g_lv [0] rfl ?_
    exact bw_X11_colourOf_21 X  hR h
  · have h := ite_f hb h
    refine g_iload_n X (j := 2) dX11_colourOf_13 rfl rfl ?_
    refine g_iload_n X (j := 3) dX11_colourOf_14 rfl rfl ?_
    refine gc_X11_332 X (ct_X11_isPoint X.htr ) (by decide) (Nat.le_of_ble_eq_true rfl) dX11_colourOf_15 ?_
    refine g_if_ne X (tgt := 27) dX11_colourOf_18 (by decide) (fun hb => ?_) (fun hb => ?_)
    · have h := ite_f hb h
      refine g_aload_n X (j := 0) dX11_colourOf_27 rfl rfl ?_
      refine g_iload_n X (j := 1) dX11_colourOf_28 rfl rfl ?_
      refine g_iload_n X (j := 2) dX11_colourOf_29 rfl rfl ?_
      refine g_iload_n X (j := 3) dX11_colourOf_30 rfl rfl ?_
      obtain ⟨⟨v7, M8⟩, hc6, h⟩ := bndO_e h
      refine gc_X11_335 X gT_c122 (ct_X11_pieceAt X.htr  hc6) (by decide) (Nat.le_of_ble_eq_true rfl) dX11_colourOf_31 ?_
      refine g_iconst X (v := (-1)) dX11_colourOf_34 (by decide) ?_
      refine g_icmp_ne X (tgt := 42) dX11_colourOf_35 (by decide) (fun hb => ?_) (fun hb => ?_)
      · have h := ite_f hb h
        refine g_aload_n X (j := 0) dX11_colourOf_42 rfl rfl ?_
        refine g_iload_n X (j := 1) dX11_colourOf_43 rfl rfl ?_
        obtain ⟨v10, hc9, h⟩ := bndO_e h
        refine gc_X11_272 X gT_c122 (ct_X11_colourHere X.htr  hc9) (by decide) (Nat.le_of_ble_eq_true rfl) dX11_colourOf_44 ?_
        exact hR v10 M8 _ _ (Option.some.inj h).symm dX11_colourOf_47
      · have h := ite_t hb h
        refine g_iconst X (v := (-1)) dX11_colourOf_38 (by decide) ?_
        refine g_goto X (tgt := 47) dX11_colourOf_39 (by decide) ?_
        exact hR ((-1) : Int32) M8 _ _ (Option.some.inj h).symm dX11_colourOf_47
    · have h := ite_t hb h
      refine g_lv [0] rfl ?_
      exact bw_X11_colourOf_21 X  hR h
theorem ct_X11_colourOf {l : Launch} {z : GZ} (htr : l.stackTraces = false) {i0 : Int32} {i1 : Int32} {i2 : Int32}  {M : GM} {F : Nat} {v : Int32} {M1 : GM} (h : f_X11_colourOf F i0 i1 i2 M = some (v, M1)) : gMet l z yX11_colourOf cX11_colourOf 4 (some .int) 5 [.ref (gad z 122), .int i0, .int i1, .int i2] M (some (.int v)) M1 := gMet_ofI (by decide +kernel) (Nat.le_of_ble_eq_true rfl) htr rfl (fun x X ez el hR => by subst ez; subst el; exact w_X11_colourOf X  (fun v9 M9 lv9 pc9 e9 d9 => by cases e9; exact hR lv9 pc9 d9) h)
theorem dX11_tileOf_0 : decode cX11_tileOf 0 = .ok (.iload_n 0, 1) := by decide +kernel
theorem dX11_tileOf_1 : decode cX11_tileOf 1 = .ok (.bipush 40, 2) := by decide +kernel
theorem dX11_tileOf_3 : decode cX11_tileOf 3 = .ok (.idiv, 1) := by decide +kernel
theorem dX11_tileOf_4 : decode cX11_tileOf 4 = .ok (.bipush 8, 2) := by decide +kernel
theorem dX11_tileOf_6 : decode cX11_tileOf 6 = .ok (.idiv, 1) := by decide +kernel
theorem dX11_tileOf_7 : decode cX11_tileOf 7 = .ok (.iconst 5, 1) := by decide +kernel
theorem dX11_tileOf_8 : decode cX11_tileOf 8 = .ok (.imul, 1) := by decide +kernel
theorem dX11_tileOf_9 : decode cX11_tileOf 9 = .ok (.iload_n 0, 1) := by decide +kernel
theorem dX11_tileOf_10 : decode cX11_tileOf 10 = .ok (.bipush 40, 2) := by decide +kernel
theorem dX11_tileOf_12 : decode cX11_tileOf 12 = .ok (.irem, 1) := by decide +kernel
theorem dX11_tileOf_13 : decode cX11_tileOf 13 = .ok (.bipush 8, 2) := by decide +kernel
theorem dX11_tileOf_15 : decode cX11_tileOf 15 = .ok (.idiv, 1) := by decide +kernel
theorem dX11_tileOf_16 : decode cX11_tileOf 16 = .ok (.iadd, 1) := by decide +kernel
theorem dX11_tileOf_17 : decode cX11_tileOf 17 = .ok (.ireturn, 1) := by decide +kernel
def f_X11_tileOf (i0 : Int32) : Int32 := ((((i0 / (40 : Int32)) / (8 : Int32)) * (5 : Int32)) + ((i0 - i0 / (40 : Int32) * (40 : Int32)) / (8 : Int32)))
set_option maxHeartbeats 4000000 in
set_option maxRecDepth 100000 in
theorem w_X11_tileOf {x : GX} (X : GC x cX11_tileOf 1 RX11 0) {i0 : Int32}  {M : GM} {r9 : Int32} (hR : ∀ (v9 : Int32) (lv9 : List (Nat × Value)) (pc9 : Nat), r9 = v9 → decode cX11_tileOf pc9 = .ok (.ireturn, 1) → WG x M lv9 pc9 [.int v9]) (h : f_X11_tileOf i0 = r9) : WG x M [(0, .int i0)] 0 [] := by
  unfold f_X11_tileOf at h
  refine g_iload_n X (j := 0) dX11_tileOf_0 rfl rfl ?_
  refine g_bipush X (v := 40) dX11_tileOf_1 (by decide) ?_
  refine g_idiv X dX11_tileOf_3 (by decide) ?_
  refine g_bipush X (v := 8) dX11_tileOf_4 (by decide) ?_
  refine g_idiv X dX11_tileOf_6 (by decide) ?_
  refine g_iconst X (v := 5) dX11_tileOf_7 (by decide) ?_
  refine g_imul X dX11_tileOf_8 ?_
  refine g_iload_n X (j := 0) dX11_tileOf_9 rfl rfl ?_
  refine g_bipush X (v := 40) dX11_tileOf_10 (by decide) ?_
  refine g_irem X dX11_tileOf_12 (by decide) ?_
  refine g_bipush X (v := 8) dX11_tileOf_13 (by decide) ?_
  refine g_idiv X dX11_tileOf_15 (by decide) ?_
  refine g_iadd X dX11_tileOf_16 ?_
  exact hR ((((i0 / (40 : Int32)) / (8 : Int32)) * (5 : Int32)) + ((i0 - i0 / (40 : Int32) * (40 : Int32)) / (8 : Int32))) _ _ h.symm dX11_tileOf_17
theorem ct_X11_tileOf {l : Launch} {z : GZ} (htr : l.stackTraces = false) {i0 : Int32}  {M : GM} : gMet l z yX11_tileOf cX11_tileOf 1 (some .int) 0 [.int i0] M (some (.int (f_X11_tileOf i0))) M := gMet_ofI (by decide +kernel) (Nat.le_of_ble_eq_true rfl) htr rfl (fun x X ez el hR => by subst ez; subst el; exact w_X11_tileOf X  (fun v9 lv9 pc9 e9 d9 => by cases e9; exact hR lv9 pc9 d9) rfl)
theorem gc_X11_338 {x : GX} {cc : ByteArray} {nL d pc : Nat} {M : GM} {lv : List (Nat × Value)} {st : List Value} (X : GC x cc nL RX11 d) {i0 : Int32} {M1 : GM} (ht : gT 122 = 11) (hM : gMet (xl x) (xz x) yX11_draw cX11_draw 4 none 4 [.ref (gad (xz x) 122), .int i0] M (none) M1) (hd : 5 ≤ d) (hsum : (st.map fun v => v.category).sum ≤ 8) (dec : decode cc pc = .ok (.invokevirtual 338, 3)) (go : WG x M1 lv (pc + 3) (st)) : WG x M lv pc (.int i0 :: .ref (gad (xz x) 122) :: st) := g_callV X (n := 1) (As := [.int i0]) (rest := st) hM ht (by decide) (gE_11 ht) rfl q_1452 q_1454 q_46 q_63 q_1455 (by decide +kernel) rfl hd (by decide) rfl hsum dec go
theorem gc_X11_341 {x : GX} {cc : ByteArray} {nL d pc : Nat} {M : GM} {lv : List (Nat × Value)} {st : List Value} (X : GC x cc nL RX11 d) {i0 : Int32} {M1 : GM} {r : Int32} (hM : gMet (xl x) (xz x) yX11_tileOf cX11_tileOf 1 (some .int) 0 [.int i0] M (some (.int r)) M1) (hd : 1 ≤ d) (hsum : (st.map fun v => v.category).sum ≤ 8) (dec : decode cc pc = .ok (.invokestatic 341, 3)) (go : WG x M1 lv (pc + 3) (.int r :: st)) : WG x M lv pc (.int i0 :: st) := g_callS X (n := 1) (As := [.int i0]) (rest := st) hM q_1476 q_1477 q_63 q_1478 (by decide +kernel) rfl hd (by decide) rfl hsum dec go
theorem dX11_look_0 : decode cX11_look 0 = .ok (.aload_n 0, 1) := by decide +kernel
theorem dX11_look_1 : decode cX11_look 1 = .ok (.iconst (-1), 1) := by decide +kernel
theorem dX11_look_2 : decode cX11_look 2 = .ok (.invokevirtual 338, 3) := by decide +kernel
theorem dX11_look_5 : decode cX11_look 5 = .ok (.iconst 0, 1) := by decide +kernel
theorem dX11_look_6 : decode cX11_look 6 = .ok (.istore_n 1, 1) := by decide +kernel
theorem dX11_look_7 : decode cX11_look 7 = .ok (.iload_n 1, 1) := by decide +kernel
theorem dX11_look_8 : decode cX11_look 8 = .ok (.bipush 15, 2) := by decide +kernel
theorem dX11_look_10 : decode cX11_look 10 = .ok (.if_icmp .ge 16, 3) := by decide +kernel
theorem dX11_look_13 : decode cX11_look 13 = .ok (.aload_n 0, 1) := by decide +kernel
theorem dX11_look_14 : decode cX11_look 14 = .ok (.getfield 105, 3) := by decide +kernel
theorem dX11_look_17 : decode cX11_look 17 = .ok (.iload_n 1, 1) := by decide +kernel
theorem dX11_look_18 : decode cX11_look 18 = .ok (.iconst 0, 1) := by decide +kernel
theorem dX11_look_19 : decode cX11_look 19 = .ok (.bastore, 1) := by decide +kernel
theorem dX11_look_20 : decode cX11_look 20 = .ok (.iinc 1 1, 3) := by decide +kernel
theorem dX11_look_23 : decode cX11_look 23 = .ok (.goto (-16), 3) := by decide +kernel
theorem dX11_look_26 : decode cX11_look 26 = .ok (.iconst 0, 1) := by decide +kernel
theorem dX11_look_27 : decode cX11_look 27 = .ok (.istore_n 1, 1) := by decide +kernel
theorem dX11_look_28 : decode cX11_look 28 = .ok (.iload_n 1, 1) := by decide +kernel
theorem dX11_look_29 : decode cX11_look 29 = .ok (.sipush 960, 3) := by decide +kernel
theorem dX11_look_32 : decode cX11_look 32 = .ok (.if_icmp .ge 71, 3) := by decide +kernel
theorem dX11_look_35 : decode cX11_look 35 = .ok (.aload_n 0, 1) := by decide +kernel
theorem dX11_look_36 : decode cX11_look 36 = .ok (.getfield 105, 3) := by decide +kernel
theorem dX11_look_39 : decode cX11_look 39 = .ok (.iload_n 1, 1) := by decide +kernel
theorem dX11_look_40 : decode cX11_look 40 = .ok (.invokestatic 341, 3) := by decide +kernel
theorem dX11_look_43 : decode cX11_look 43 = .ok (.dup2, 1) := by decide +kernel
theorem dX11_look_44 : decode cX11_look 44 = .ok (.baload, 1) := by decide +kernel
theorem dX11_look_45 : decode cX11_look 45 = .ok (.aload_n 0, 1) := by decide +kernel
theorem dX11_look_46 : decode cX11_look 46 = .ok (.getfield 65, 3) := by decide +kernel
theorem dX11_look_49 : decode cX11_look 49 = .ok (.iload_n 1, 1) := by decide +kernel
theorem dX11_look_50 : decode cX11_look 50 = .ok (.iaload, 1) := by decide +kernel
theorem dX11_look_51 : decode cX11_look 51 = .ok (.aload_n 0, 1) := by decide +kernel
theorem dX11_look_52 : decode cX11_look 52 = .ok (.getfield 56, 3) := by decide +kernel
theorem dX11_look_55 : decode cX11_look 55 = .ok (.iload_n 1, 1) := by decide +kernel
theorem dX11_look_56 : decode cX11_look 56 = .ok (.iaload, 1) := by decide +kernel
theorem dX11_look_57 : decode cX11_look 57 = .ok (.if_icmp .ne 33, 3) := by decide +kernel
theorem dX11_look_60 : decode cX11_look 60 = .ok (.aload_n 0, 1) := by decide +kernel
theorem dX11_look_61 : decode cX11_look 61 = .ok (.getfield 68, 3) := by decide +kernel
theorem dX11_look_64 : decode cX11_look 64 = .ok (.iload_n 1, 1) := by decide +kernel
theorem dX11_look_65 : decode cX11_look 65 = .ok (.iaload, 1) := by decide +kernel
theorem dX11_look_66 : decode cX11_look 66 = .ok (.aload_n 0, 1) := by decide +kernel
theorem dX11_look_67 : decode cX11_look 67 = .ok (.getfield 59, 3) := by decide +kernel
theorem dX11_look_70 : decode cX11_look 70 = .ok (.iload_n 1, 1) := by decide +kernel
theorem dX11_look_71 : decode cX11_look 71 = .ok (.iaload, 1) := by decide +kernel
theorem dX11_look_72 : decode cX11_look 72 = .ok (.if_icmp .ne 18, 3) := by decide +kernel
theorem dX11_look_75 : decode cX11_look 75 = .ok (.aload_n 0, 1) := by decide +kernel
theorem dX11_look_76 : decode cX11_look 76 = .ok (.getfield 71, 3) := by decide +kernel
theorem dX11_look_79 : decode cX11_look 79 = .ok (.iload_n 1, 1) := by decide +kernel
theorem dX11_look_80 : decode cX11_look 80 = .ok (.iaload, 1) := by decide +kernel
theorem dX11_look_81 : decode cX11_look 81 = .ok (.aload_n 0, 1) := by decide +kernel
theorem dX11_look_82 : decode cX11_look 82 = .ok (.getfield 62, 3) := by decide +kernel
theorem dX11_look_85 : decode cX11_look 85 = .ok (.iload_n 1, 1) := by decide +kernel
theorem dX11_look_86 : decode cX11_look 86 = .ok (.iaload, 1) := by decide +kernel
theorem dX11_look_87 : decode cX11_look 87 = .ok (.if_icmp .eq 7, 3) := by decide +kernel
theorem dX11_look_90 : decode cX11_look 90 = .ok (.iconst 1, 1) := by decide +kernel
theorem dX11_look_91 : decode cX11_look 91 = .ok (.goto 4, 3) := by decide +kernel
theorem dX11_look_94 : decode cX11_look 94 = .ok (.iconst 0, 1) := by decide +kernel
theorem dX11_look_95 : decode cX11_look 95 = .ok (.ior, 1) := by decide +kernel
theorem dX11_look_96 : decode cX11_look 96 = .ok (.bastore, 1) := by decide +kernel
theorem dX11_look_97 : decode cX11_look 97 = .ok (.iinc 1 1, 3) := by decide +kernel
theorem dX11_look_100 : decode cX11_look 100 = .ok (.goto (-72), 3) := by decide +kernel
theorem dX11_look_103 : decode cX11_look 103 = .ok (.iconst 0, 1) := by decide +kernel
theorem dX11_look_104 : decode cX11_look 104 = .ok (.istore_n 1, 1) := by decide +kernel
theorem dX11_look_105 : decode cX11_look 105 = .ok (.aload_n 0, 1) := by decide +kernel
theorem dX11_look_106 : decode cX11_look 106 = .ok (.getfield 105, 3) := by decide +kernel
theorem dX11_look_109 : decode cX11_look 109 = .ok (.astore_n 2, 1) := by decide +kernel
theorem dX11_look_110 : decode cX11_look 110 = .ok (.aload_n 2, 1) := by decide +kernel
theorem dX11_look_111 : decode cX11_look 111 = .ok (.arraylength, 1) := by decide +kernel
theorem dX11_look_112 : decode cX11_look 112 = .ok (.istore_n 3, 1) := by decide +kernel
theorem dX11_look_113 : decode cX11_look 113 = .ok (.iconst 0, 1) := by decide +kernel
theorem dX11_look_114 : decode cX11_look 114 = .ok (.istore 4, 2) := by decide +kernel
theorem dX11_look_116 : decode cX11_look 116 = .ok (.iload 4, 2) := by decide +kernel
theorem dX11_look_118 : decode cX11_look 118 = .ok (.iload_n 3, 1) := by decide +kernel
theorem dX11_look_119 : decode cX11_look 119 = .ok (.if_icmp .ge 28, 3) := by decide +kernel
theorem dX11_look_122 : decode cX11_look 122 = .ok (.aload_n 2, 1) := by decide +kernel
theorem dX11_look_123 : decode cX11_look 123 = .ok (.iload 4, 2) := by decide +kernel
theorem dX11_look_125 : decode cX11_look 125 = .ok (.baload, 1) := by decide +kernel
theorem dX11_look_126 : decode cX11_look 126 = .ok (.istore 5, 2) := by decide +kernel
theorem dX11_look_128 : decode cX11_look 128 = .ok (.iload_n 1, 1) := by decide +kernel
theorem dX11_look_129 : decode cX11_look 129 = .ok (.iload 5, 2) := by decide +kernel
theorem dX11_look_131 : decode cX11_look 131 = .ok (.ifCond .eq 7, 3) := by decide +kernel
theorem dX11_look_134 : decode cX11_look 134 = .ok (.iconst 1, 1) := by decide +kernel
theorem dX11_look_135 : decode cX11_look 135 = .ok (.goto 4, 3) := by decide +kernel
theorem dX11_look_138 : decode cX11_look 138 = .ok (.iconst 0, 1) := by decide +kernel
theorem dX11_look_139 : decode cX11_look 139 = .ok (.iadd, 1) := by decide +kernel
theorem dX11_look_140 : decode cX11_look 140 = .ok (.istore_n 1, 1) := by decide +kernel
theorem dX11_look_141 : decode cX11_look 141 = .ok (.iinc 4 1, 3) := by decide +kernel
theorem dX11_look_144 : decode cX11_look 144 = .ok (.goto (-28), 3) := by decide +kernel
theorem dX11_look_147 : decode cX11_look 147 = .ok (.iload_n 1, 1) := by decide +kernel
theorem dX11_look_148 : decode cX11_look 148 = .ok (.ireturn, 1) := by decide +kernel
def st_X11_look_7 (F : Nat)  (rec : Int32 → GM → Option GM) (a5 : Int32) (M : GM) : Option GM := if (15 : Int32) ≤ a5 then (some M) else (grd (gIn a5 (gN 160)) (bnd (sI M 160 a5.toNatClampNeg (0 : Int32)) (fun M7 => bnd (a5 + (1 : Int32)) (fun v9 => rec v9 M7))))
def lp_X11_look_7 (F : Nat)  : Nat → Int32 → GM → Option GM
  | 0 => fun _ _ => none
  | f + 1 => fun a5 M => st_X11_look_7 F  (lp_X11_look_7 F  f) a5 M
set_option maxHeartbeats 4000000 in
set_option maxRecDepth 100000 in
theorem lw_X11_look_7 {x : GX} (X : GC x cX11_look 6 RX11 5)   {F : Nat} {r9 : GM} (hE : ∀  (M9 : GM), r9 = M9 → WG x M9 [(0, .ref (gad (xz x) 122))] 26 []) : ∀ (f : Nat) (a5 : Int32) (M : GM), lp_X11_look_7 F  f a5 M = some r9 → WG x M [(0, .ref (gad (xz x) 122)), (1, .int a5)] 7 [] := by
  intro f
  induction f with
  | zero => intro a5 M h; cases h
  | succ f ih =>
    intro a5 M h
    have hrec := ih
    have h : st_X11_look_7 F  (lp_X11_look_7 F  f) a5 M = some r9 := h
    generalize lp_X11_look_7 F  f = rec at h hrec
    unfold st_X11_look_7 at h
    refine g_iload_n X (j := 1) dX11_look_7 rfl rfl ?_
    refine g_bipush X (v := 15) dX11_look_8 (by decide) ?_
    refine g_icmp_ge X (tgt := 26) dX11_look_10 (by decide) (fun hb => ?_) (fun hb => ?_)
    · have h := ite_t hb h
      refine g_lv [0] rfl ?_
      exact hE M (Option.some.inj h).symm
    · have h := ite_f hb h
      refine g_aload_n X (j := 0) dX11_look_13 rfl rfl ?_
      refine gf_X11_105 X gT_c122 dX11_look_14 ?_
      refine g_iload_n X (j := 1) dX11_look_17 rfl rfl ?_
      refine g_iconst X (v := 0) dX11_look_18 (by decide) ?_
      obtain ⟨hg6, h⟩ := grd_e h
      refine g_zast X gT_c160 hg6 (Or.inl rfl) dX11_look_19 ?_
      refine g_mem (fun M7 e8 => ?_)
      have h := bnd_e e8 h
      refine g_iinc X (j := 1) (w := a5 + (1 : Int32)) (lv' := [(0, .ref (gad (xz x) 122))]) dX11_look_20 rfl (by rw [ii_1]) (by decide) (fun _ => rfl) (fun v9 e10 => ?_)
      have h := bnd_e e10 h
      refine g_goto X (tgt := 7) dX11_look_23 (by decide) ?_
      refine g_lv [1, 0] rfl ?_
      exact hrec v9 M7 h
def st_X11_look_28 (F : Nat)  (rec : Int32 → GM → Option GM) (a15 : Int32) (M : GM) : Option GM := if (960 : Int32) ≤ a15 then (some M) else (grd (gIn (f_X11_tileOf a15) (gN 160)) (grd (gIn a15 (gN 141)) (grd (gIn a15 (gN 138)) (if (gI M 141 a15.toNatClampNeg) = (gI M 138 a15.toNatClampNeg) then (grd (gIn a15 (gN 142)) (grd (gIn a15 (gN 139)) (if (gI M 142 a15.toNatClampNeg) = (gI M 139 a15.toNatClampNeg) then (grd (gIn a15 (gN 143)) (grd (gIn a15 (gN 140)) (if (gI M 143 a15.toNatClampNeg) = (gI M 140 a15.toNatClampNeg) then (grd (gIn (f_X11_tileOf a15) (gN 160)) (grd (gTf ((gI M 160 ((f_X11_tileOf a15).toNatClampNeg)) ||| (0 : Int32))) (bnd (sI M 160 ((f_X11_tileOf a15).toNatClampNeg) ((gI M 160 ((f_X11_tileOf a15).toNatClampNeg)) ||| (0 : Int32))) (fun M37 => bnd (a15 + (1 : Int32)) (fun v39 => rec v39 M37))))) else (grd (gIn (f_X11_tileOf a15) (gN 160)) (grd (gTf ((gI M 160 ((f_X11_tileOf a15).toNatClampNeg)) ||| (1 : Int32))) (bnd (sI M 160 ((f_X11_tileOf a15).toNatClampNeg) ((gI M 160 ((f_X11_tileOf a15).toNatClampNeg)) ||| (1 : Int32))) (fun M43 => bnd (a15 + (1 : Int32)) (fun v45 => rec v45 M43)))))))) else (grd (gIn (f_X11_tileOf a15) (gN 160)) (grd (gTf ((gI M 160 ((f_X11_tileOf a15).toNatClampNeg)) ||| (1 : Int32))) (bnd (sI M 160 ((f_X11_tileOf a15).toNatClampNeg) ((gI M 160 ((f_X11_tileOf a15).toNatClampNeg)) ||| (1 : Int32))) (fun M29 => bnd (a15 + (1 : Int32)) (fun v31 => rec v31 M29)))))))) else (grd (gIn (f_X11_tileOf a15) (gN 160)) (grd (gTf ((gI M 160 ((f_X11_tileOf a15).toNatClampNeg)) ||| (1 : Int32))) (bnd (sI M 160 ((f_X11_tileOf a15).toNatClampNeg) ((gI M 160 ((f_X11_tileOf a15).toNatClampNeg)) ||| (1 : Int32))) (fun M21 => bnd (a15 + (1 : Int32)) (fun v23 => rec v23 M21)))))))))
def lp_X11_look_28 (F : Nat)  : Nat → Int32 → GM → Option GM
  | 0 => fun _ _ => none
  | f + 1 => fun a15 M => st_X11_look_28 F  (lp_X11_look_28 F  f) a15 M
set_option maxHeartbeats 4000000 in
set_option maxRecDepth 100000 in
theorem lw_X11_look_28 {x : GX} (X : GC x cX11_look 6 RX11 5)   {F : Nat} {r9 : GM} (hE : ∀  (M9 : GM), r9 = M9 → WG x M9 [(0, .ref (gad (xz x) 122))] 103 []) : ∀ (f : Nat) (a15 : Int32) (M : GM), lp_X11_look_28 F  f a15 M = some r9 → WG x M [(0, .ref (gad (xz x) 122)), (1, .int a15)] 28 [] := by
  intro f
  induction f with
  | zero => intro a15 M h; cases h
  | succ f ih =>
    intro a15 M h
    have hrec := ih
    have h : st_X11_look_28 F  (lp_X11_look_28 F  f) a15 M = some r9 := h
    generalize lp_X11_look_28 F  f = rec at h hrec
    unfold st_X11_look_28 at h
    refine g_iload_n X (j := 1) dX11_look_28 rfl rfl ?_
    refine g_sipush X (v := 960) dX11_look_29 (by decide) ?_
    refine g_icmp_ge X (tgt := 103) dX11_look_32 (by decide) (fun hb => ?_) (fun hb => ?_)
    · have h := ite_t hb h
      refine g_lv [0] rfl ?_
      exact hE M (Option.some.inj h).symm
    · have h := ite_f hb h
      refine g_aload_n X (j := 0) dX11_look_35 rfl rfl ?_
      refine gf_X11_105 X gT_c122 dX11_look_36 ?_
      refine g_iload_n X (j := 1) dX11_look_39 rfl rfl ?_
      refine gc_X11_341 X (ct_X11_tileOf X.htr ) (by decide) (Nat.le_of_ble_eq_true rfl) dX11_look_40 ?_
      refine g_dup2 X dX11_look_43 rfl rfl ?_
      obtain ⟨hg16, h⟩ := grd_e h
      refine g_zald X gT_c160 hg16 dX11_look_44 ?_
      refine g_aload_n X (j := 0) dX11_look_45 rfl rfl ?_
      refine gf_X11_65 X gT_c122 dX11_look_46 ?_
      refine g_iload_n X (j := 1) dX11_look_49 rfl rfl ?_
      obtain ⟨hg17, h⟩ := grd_e h
      refine g_iald X gT_c141 hg17 dX11_look_50 ?_
      refine g_aload_n X (j := 0) dX11_look_51 rfl rfl ?_
      refine gf_X11_56 X gT_c122 dX11_look_52 ?_
      refine g_iload_n X (j := 1) dX11_look_55 rfl rfl ?_
      obtain ⟨hg18, h⟩ := grd_e h
      refine g_iald X gT_c138 hg18 dX11_look_56 ?_
      refine g_icmp_ne X (tgt := 90) dX11_look_57 (by decide) (fun hb => ?_) (fun hb => ?_)
      · have h := ite_f hb h
        refine g_iconst X (v := 1) dX11_look_90 (by decide) ?_
        refine g_goto X (tgt := 95) dX11_look_91 (by decide) ?_
        refine g_ior X dX11_look_95 ?_
        obtain ⟨hg19, h⟩ := grd_e h
        obtain ⟨hg20, h⟩ := grd_e h
        refine g_zast X gT_c160 hg19 (gTf_of hg20) dX11_look_96 ?_
        refine g_mem (fun M21 e22 => ?_)
        have h := bnd_e e22 h
        refine g_iinc X (j := 1) (w := a15 + (1 : Int32)) (lv' := [(0, .ref (gad (xz x) 122))]) dX11_look_97 rfl (by rw [ii_1]) (by decide) (fun _ => rfl) (fun v23 e24 => ?_)
        have h := bnd_e e24 h
        refine g_goto X (tgt := 28) dX11_look_100 (by decide) ?_
        refine g_lv [1, 0] rfl ?_
        exact hrec v23 M21 h
      · have h := ite_t hb h
        refine g_aload_n X (j := 0) dX11_look_60 rfl rfl ?_
        refine gf_X11_68 X gT_c122 dX11_look_61 ?_
        refine g_iload_n X (j := 1) dX11_look_64 rfl rfl ?_
        obtain ⟨hg25, h⟩ := grd_e h
        refine g_iald X gT_c142 hg25 dX11_look_65 ?_
        refine g_aload_n X (j := 0) dX11_look_66 rfl rfl ?_
        refine gf_X11_59 X gT_c122 dX11_look_67 ?_
        refine g_iload_n X (j := 1) dX11_look_70 rfl rfl ?_
        obtain ⟨hg26, h⟩ := grd_e h
        refine g_iald X gT_c139 hg26 dX11_look_71 ?_
        refine g_icmp_ne X (tgt := 90) dX11_look_72 (by decide) (fun hb => ?_) (fun hb => ?_)
        · have h := ite_f hb h
          refine g_iconst X (v := 1) dX11_look_90 (by decide) ?_
          refine g_goto X (tgt := 95) dX11_look_91 (by decide) ?_
          refine g_ior X dX11_look_95 ?_
          obtain ⟨hg27, h⟩ := grd_e h
          obtain ⟨hg28, h⟩ := grd_e h
          refine g_zast X gT_c160 hg27 (gTf_of hg28) dX11_look_96 ?_
          refine g_mem (fun M29 e30 => ?_)
          have h := bnd_e e30 h
          refine g_iinc X (j := 1) (w := a15 + (1 : Int32)) (lv' := [(0, .ref (gad (xz x) 122))]) dX11_look_97 rfl (by rw [ii_1]) (by decide) (fun _ => rfl) (fun v31 e32 => ?_)
          have h := bnd_e e32 h
          refine g_goto X (tgt := 28) dX11_look_100 (by decide) ?_
          refine g_lv [1, 0] rfl ?_
          exact hrec v31 M29 h
        · have h := ite_t hb h
          refine g_aload_n X (j := 0) dX11_look_75 rfl rfl ?_
          refine gf_X11_71 X gT_c122 dX11_look_76 ?_
          refine g_iload_n X (j := 1) dX11_look_79 rfl rfl ?_
          obtain ⟨hg33, h⟩ := grd_e h
          refine g_iald X gT_c143 hg33 dX11_look_80 ?_
          refine g_aload_n X (j := 0) dX11_look_81 rfl rfl ?_
          refine gf_X11_62 X gT_c122 dX11_look_82 ?_
          refine g_iload_n X (j := 1) dX11_look_85 rfl rfl ?_
          obtain ⟨hg34, h⟩ := grd_e h
          refine g_iald X gT_c140 hg34 dX11_look_86 ?_
          refine g_icmp_eq X (tgt := 94) dX11_look_87 (by decide) (fun hb => ?_) (fun hb => ?_)
          · have h := ite_t hb h
            refine g_iconst X (v := 0) dX11_look_94 (by decide) ?_
            refine g_ior X dX11_look_95 ?_
            obtain ⟨hg35, h⟩ := grd_e h
            obtain ⟨hg36, h⟩ := grd_e h
            refine g_zast X gT_c160 hg35 (gTf_of hg36) dX11_look_96 ?_
            refine g_mem (fun M37 e38 => ?_)
            have h := bnd_e e38 h
            refine g_iinc X (j := 1) (w := a15 + (1 : Int32)) (lv' := [(0, .ref (gad (xz x) 122))]) dX11_look_97 rfl (by rw [ii_1]) (by decide) (fun _ => rfl) (fun v39 e40 => ?_)
            have h := bnd_e e40 h
            refine g_goto X (tgt := 28) dX11_look_100 (by decide) ?_
            refine g_lv [1, 0] rfl ?_
            exact hrec v39 M37 h
          · have h := ite_f hb h
            refine g_iconst X (v := 1) dX11_look_90 (by decide) ?_
            refine g_goto X (tgt := 95) dX11_look_91 (by decide) ?_
            refine g_ior X dX11_look_95 ?_
            obtain ⟨hg41, h⟩ := grd_e h
            obtain ⟨hg42, h⟩ := grd_e h
            refine g_zast X gT_c160 hg41 (gTf_of hg42) dX11_look_96 ?_
            refine g_mem (fun M43 e44 => ?_)
            have h := bnd_e e44 h
            refine g_iinc X (j := 1) (w := a15 + (1 : Int32)) (lv' := [(0, .ref (gad (xz x) 122))]) dX11_look_97 rfl (by rw [ii_1]) (by decide) (fun _ => rfl) (fun v45 e46 => ?_)
            have h := bnd_e e46 h
            refine g_goto X (tgt := 28) dX11_look_100 (by decide) ?_
            refine g_lv [1, 0] rfl ?_
            exact hrec v45 M43 h
def st_X11_look_116 (F : Nat) (a56 : Int32) (rec : Int32 → Int32 → GM → Option (Int32 × GM)) (a55 : Int32) (a57 : Int32) (M : GM) : Option (Int32 × GM) := if a56 ≤ a57 then (some (a55, M)) else (grd (gIn a57 (gN 160)) (bnd (gI M 160 a57.toNatClampNeg) (fun v59 => if v59 = 0 then (bnd (a55 + (0 : Int32)) (fun v61 => bnd (a57 + (1 : Int32)) (fun v63 => rec v61 v63 M))) else (bnd (a55 + (1 : Int32)) (fun v65 => bnd (a57 + (1 : Int32)) (fun v67 => rec v65 v67 M))))))
def lp_X11_look_116 (F : Nat) (a56 : Int32) : Nat → Int32 → Int32 → GM → Option (Int32 × GM)
  | 0 => fun _ _ _ => none
  | f + 1 => fun a55 a57 M => st_X11_look_116 F a56 (lp_X11_look_116 F a56 f) a55 a57 M
set_option maxHeartbeats 4000000 in
set_option maxRecDepth 100000 in
theorem lw_X11_look_116 {x : GX} (X : GC x cX11_look 6 RX11 5) {a56 : Int32}  {F : Nat} {r9 : (Int32 × GM)} (hE : ∀ (x1_9 : Int32) (M9 : GM), r9 = (x1_9, M9) → WG x M9 [(1, .int x1_9)] 147 []) : ∀ (f : Nat) (a55 : Int32) (a57 : Int32) (M : GM), lp_X11_look_116 F a56 f a55 a57 M = some r9 → WG x M [(1, .int a55), (2, .ref (gad (xz x) 160)), (3, .int a56), (4, .int a57)] 116 [] := by
  intro f
  induction f with
  | zero => intro a55 a57 M h; cases h
  | succ f ih =>
    intro a55 a57 M h
    have hrec := ih
    have h : st_X11_look_116 F a56 (lp_X11_look_116 F a56 f) a55 a57 M = some r9 := h
    generalize lp_X11_look_116 F a56 f = rec at h hrec
    unfold st_X11_look_116 at h
    refine g_iload X (j := 3) dX11_look_116 rfl ?_
    refine g_iload_n X (j := 2) dX11_look_118 rfl rfl ?_
    refine g_icmp_ge X (tgt := 147) dX11_look_119 (by decide) (fun hb => ?_) (fun hb => ?_)
    · have h := ite_t hb h
      refine g_lv [0] rfl ?_
      exact hE a55 M (Option.some.inj h).symm
    · have h := ite_f hb h
      refine g_aload_n X (j := 1) dX11_look_122 rfl rfl ?_
      refine g_iload X (j := 3) dX11_look_123 rfl ?_
      obtain ⟨hg58, h⟩ := grd_e h
      refine g_zald X gT_c160 hg58 dX11_look_125 ?_
      refine g_topi (fun v59 e60 => ?_)
      have h := bnd_e e60 h
      refine g_istore X (lv' := [(5, .int v59), (1, .int a55), (2, .ref (gad (xz x) 160)), (3, .int a56), (4, .int a57)]) dX11_look_126 (by decide) rfl ?_
      refine g_iload_n X (j := 1) dX11_look_128 rfl rfl ?_
      refine g_iload X (j := 0) dX11_look_129 rfl ?_
      refine g_if_eq X (tgt := 138) dX11_look_131 (by decide) (fun hb => ?_) (fun hb => ?_)
      · have h := ite_t hb h
        refine g_iconst X (v := 0) dX11_look_138 (by decide) ?_
        refine g_iadd X dX11_look_139 ?_
        refine g_topi (fun v61 e62 => ?_)
        have h := bnd_e e62 h
        refine g_istore_n X (lv' := [(1, .int v61), (5, .int v59), (2, .ref (gad (xz x) 160)), (3, .int a56), (4, .int a57)]) dX11_look_140 rfl (by decide) rfl ?_
        refine g_iinc X (j := 4) (w := a57 + (1 : Int32)) (lv' := [(1, .int v61), (5, .int v59), (2, .ref (gad (xz x) 160)), (3, .int a56)]) dX11_look_141 rfl (by rw [ii_1]) (by decide) (fun _ => rfl) (fun v63 e64 => ?_)
        have h := bnd_e e64 h
        refine g_goto X (tgt := 116) dX11_look_144 (by decide) ?_
        refine g_lv [1, 3, 4, 0] rfl ?_
        exact hrec v61 v63 M h
      · have h := ite_f hb h
        refine g_iconst X (v := 1) dX11_look_134 (by decide) ?_
        refine g_goto X (tgt := 139) dX11_look_135 (by decide) ?_
        refine g_iadd X dX11_look_139 ?_
        refine g_topi (fun v65 e66 => ?_)
        have h := bnd_e e66 h
        refine g_istore_n X (lv' := [(1, .int v65), (5, .int v59), (2, .ref (gad (xz x) 160)), (3, .int a56), (4, .int a57)]) dX11_look_140 rfl (by decide) rfl ?_
        refine g_iinc X (j := 4) (w := a57 + (1 : Int32)) (lv' := [(1, .int v65), (5, .int v59), (2, .ref (gad (xz x) 160)), (3, .int a56)]) dX11_look_141 rfl (by rw [ii_1]) (by decide) (fun _ => rfl) (fun v67 e68 => ?_)
        have h := bnd_e e68 h
        refine g_goto X (tgt := 116) dX11_look_144 (by decide) ?_
        refine g_lv [1, 3, 4, 0] rfl ?_
        exact hrec v65 v67 M h
def f_X11_look (F : Nat) (M : GM) : Option (Int32 × GM) := bndO (f_X11_draw F ((-1) : Int32) M) (fun M2 => bnd (0 : Int32) (fun v3 => bndO (lp_X11_look_7 F  F v3 M2) (fun M11 => bnd (0 : Int32) (fun v13 => bndO (lp_X11_look_28 F  F v13 M11) (fun M47 => bnd (0 : Int32) (fun v49 => bnd (15 : Int32) (fun v51 => bnd (0 : Int32) (fun v53 => bndO (lp_X11_look_116 F v51 F v49 v53 M47) (fun (v69, M70) => some (v69, M70))))))))))
set_option maxHeartbeats 4000000 in
set_option maxRecDepth 100000 in
theorem w_X11_look {x : GX} (X : GC x cX11_look 6 RX11 5)   {F : Nat} {M : GM} {r9 : (Int32 × GM)} (hR : ∀ (v9 : Int32) (M9 : GM) (lv9 : List (Nat × Value)) (pc9 : Nat), r9 = (v9, M9) → decode cX11_look pc9 = .ok (.ireturn, 1) → WG x M9 lv9 pc9 [.int v9]) (h : f_X11_look F M = some r9) : WG x M [(0, .ref (gad (xz x) 122))] 0 [] := by
  unfold f_X11_look at h
  refine g_aload_n X (j := 0) dX11_look_0 rfl rfl ?_
  refine g_iconst X (v := (-1)) dX11_look_1 (by decide) ?_
  obtain ⟨M2, hc1, h⟩ := bndO_e h
  refine gc_X11_338 X gT_c122 (ct_X11_draw X.htr  hc1) (by decide) (Nat.le_of_ble_eq_true rfl) dX11_look_2 ?_
  refine g_iconst X (v := 0) dX11_look_5 (by decide) ?_
  refine g_topi (fun v3 e4 => ?_)
  have h := bnd_e e4 h
  refine g_istore_n X (lv' := [(1, .int v3), (0, .ref (gad (xz x) 122))]) dX11_look_6 rfl (by decide) rfl ?_
  refine g_lv [1, 0] rfl ?_
  obtain ⟨M11, hl12, h⟩ := bndO_e h
  refine lw_X11_look_7 X  (fun M11_ e9 => ?_) F v3 M2 hl12
  cases e9
  refine g_iconst X (v := 0) dX11_look_26 (by decide) ?_
  refine g_topi (fun v13 e14 => ?_)
  have h := bnd_e e14 h
  refine g_istore_n X (lv' := [(1, .int v13), (0, .ref (gad (xz x) 122))]) dX11_look_27 rfl (by decide) rfl ?_
  refine g_lv [1, 0] rfl ?_
  obtain ⟨M47, hl48, h⟩ := bndO_e h
  refine lw_X11_look_28 X  (fun M47_ e9 => ?_) F v13 M11 hl48
  cases e9
  refine g_iconst X (v := 0) dX11_look_103 (by decide) ?_
  refine g_topi (fun v49 e50 => ?_)
  have h := bnd_e e50 h
  refine g_istore_n X (lv' := [(1, .int v49), (0, .ref (gad (xz x) 122))]) dX11_look_104 rfl (by decide) rfl ?_
  refine g_aload_n X (j := 1) dX11_look_105 rfl rfl ?_
  refine gf_X11_105 X gT_c122 dX11_look_106 ?_
  refine g_astore_n X (lv' := [(2, .ref (gad (xz x) 160)), (1, .int v49), (0, .ref (gad (xz x) 122))]) dX11_look_109 rfl (by decide) rfl ?_
  refine g_aload_n X (j := 0) dX11_look_110 rfl rfl ?_
  refine g_alen_22 X gT_c160 dX11_look_111 ?_
  rw [show Int32.ofNat (gN 160) = 15 by decide +kernel]
  refine g_topi (fun v51 e52 => ?_)
  have h := bnd_e e52 h
  refine g_istore_n X (lv' := [(3, .int v51), (2, .ref (gad (xz x) 160)), (1, .int v49), (0, .ref (gad (xz x) 122))]) dX11_look_112 rfl (by decide) rfl ?_
  refine g_iconst X (v := 0) dX11_look_113 (by decide) ?_
  refine g_topi (fun v53 e54 => ?_)
  have h := bnd_e e54 h
  refine g_istore X (lv' := [(4, .int v53), (3, .int v51), (2, .ref (gad (xz x) 160)), (1, .int v49), (0, .ref (gad (xz x) 122))]) dX11_look_114 (by decide) rfl ?_
  refine g_lv [3, 2, 1, 0] rfl ?_
  obtain ⟨⟨v69, M70⟩, hl71, h⟩ := bndO_e h
  refine lw_X11_look_116 X  (fun v69_ M70_ e9 => ?_) F v49 v53 M47 hl71
  cases e9
  refine g_iload_n X (j := 0) dX11_look_147 rfl rfl ?_
  exact hR v69 M70 _ _ (Option.some.inj h).symm dX11_look_148
theorem ct_X11_look {l : Launch} {z : GZ} (htr : l.stackTraces = false)   {M : GM} {F : Nat} {v : Int32} {M1 : GM} (h : f_X11_look F M = some (v, M1)) : gMet l z yX11_look cX11_look 6 (some .int) 5 [.ref (gad z 122)] M (some (.int v)) M1 := gMet_ofI (by decide +kernel) (Nat.le_of_ble_eq_true rfl) htr rfl (fun x X ez el hR => by subst ez; subst el; exact w_X11_look X  (fun v9 M9 lv9 pc9 e9 d9 => by cases e9; exact hR lv9 pc9 d9) h)
