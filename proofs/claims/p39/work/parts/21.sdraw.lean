/-! 21.sdraw: methods of the law -/
theorem dL_below_0 : decode cL_below 0 = .ok (.iload_n 0, 1) := by decide +kernel
theorem dL_below_1 : decode cL_below 1 = .ok (.ldc 7, 2) := by decide +kernel
theorem dL_below_3 : decode cL_below 3 = .ok (.iand, 1) := by decide +kernel
theorem dL_below_4 : decode cL_below 4 = .ok (.iload_n 1, 1) := by decide +kernel
theorem dL_below_5 : decode cL_below 5 = .ok (.irem, 1) := by decide +kernel
theorem dL_below_6 : decode cL_below 6 = .ok (.ireturn, 1) := by decide +kernel
def f_L_below (F : Nat) (i0 : Int32) (i1 : Int32) (M : GM) : Option Int32 := grd (decide (¬ i1 = 0)) (some ((i0 &&& (2147483647 : Int32)) - (i0 &&& (2147483647 : Int32)) / i1 * i1))
set_option maxHeartbeats 4000000 in
set_option maxRecDepth 100000 in
theorem w_L_below {x : GX} (X : GC x cL_below 2 RL 0) {i0 : Int32} {i1 : Int32}  {F : Nat} {M : GM} {r9 : Int32} (hR : ∀ (v9 : Int32) (lv9 : List (Nat × Value)) (pc9 : Nat), r9 = v9 → decode cL_below pc9 = .ok (.ireturn, 1) → WG x M lv9 pc9 [.int v9]) (h : f_L_below F i0 i1 M = some r9) : WG x M [(0, .int i0), (1, .int i1)] 0 [] := by
  unfold f_L_below at h
  refine g_iload_n X (j := 0) dL_below_0 rfl rfl ?_
  refine g_ldc X q_886 dL_below_1 ?_
  refine g_iand X dL_below_3 ?_
  refine g_iload_n X (j := 1) dL_below_4 rfl rfl ?_
  obtain ⟨hg1, h⟩ := grd_e h
  refine g_irem X dL_below_5 (of_decide_eq_true hg1) ?_
  exact hR ((i0 &&& (2147483647 : Int32)) - (i0 &&& (2147483647 : Int32)) / i1 * i1) _ _ (Option.some.inj h).symm dL_below_6
theorem ct_L_below {l : Launch} {z : GZ} (htr : l.stackTraces = false) {i0 : Int32} {i1 : Int32}  {M : GM} {F : Nat} {v : Int32} (h : f_L_below F i0 i1 M = some v) : gMet l z yL_below cL_below 2 (some .int) 0 [.int i0, .int i1] M (some (.int v)) M := gMet_ofI (by decide +kernel) (Nat.le_of_ble_eq_true rfl) htr rfl (fun x X ez el hR => by subst ez; subst el; exact w_L_below X  (fun v9 lv9 pc9 e9 d9 => by cases e9; exact hR lv9 pc9 d9) h)
theorem dL_cell_0 : decode cL_cell 0 = .ok (.iload_n 1, 1) := by decide +kernel
theorem dL_cell_1 : decode cL_cell 1 = .ok (.aload_n 0, 1) := by decide +kernel
theorem dL_cell_2 : decode cL_cell 2 = .ok (.arraylength, 1) := by decide +kernel
theorem dL_cell_3 : decode cL_cell 3 = .ok (.if_icmp .ge 9, 3) := by decide +kernel
theorem dL_cell_6 : decode cL_cell 6 = .ok (.aload_n 0, 1) := by decide +kernel
theorem dL_cell_7 : decode cL_cell 7 = .ok (.iload_n 1, 1) := by decide +kernel
theorem dL_cell_8 : decode cL_cell 8 = .ok (.iaload, 1) := by decide +kernel
theorem dL_cell_9 : decode cL_cell 9 = .ok (.goto 9, 3) := by decide +kernel
theorem dL_cell_12 : decode cL_cell 12 = .ok (.ldc 8, 2) := by decide +kernel
theorem dL_cell_14 : decode cL_cell 14 = .ok (.iload_n 1, 1) := by decide +kernel
theorem dL_cell_15 : decode cL_cell 15 = .ok (.iconst 3, 1) := by decide +kernel
theorem dL_cell_16 : decode cL_cell 16 = .ok (.iadd, 1) := by decide +kernel
theorem dL_cell_17 : decode cL_cell 17 = .ok (.imul, 1) := by decide +kernel
theorem dL_cell_18 : decode cL_cell 18 = .ok (.ireturn, 1) := by decide +kernel
def f_L_cell (F : Nat) (L9 : Nat) (xs9 : Nat → Int32) (i1 : Int32) (M : GM) : Option Int32 := if (Int32.ofNat L9) ≤ i1 then (some ((790386105 : Int32) * (i1 + (3 : Int32)))) else (grd (gIn i1 L9) (some (xs9 i1.toNatClampNeg)))
set_option maxHeartbeats 4000000 in
set_option maxRecDepth 100000 in
theorem w_L_cell {x : GX} (X : GC x cL_cell 2 RL 0) {i1 : Int32}  {F : Nat} {L9 : Nat} {xs9 : Nat → Int32} {M : GM} {r9 : Int32} (hsc : gsl (xz x) = L9 ∧ gsx (xz x) = xs9) (hR : ∀ (v9 : Int32) (lv9 : List (Nat × Value)) (pc9 : Nat), r9 = v9 → decode cL_cell pc9 = .ok (.ireturn, 1) → WG x M lv9 pc9 [.int v9]) (h : f_L_cell F L9 xs9 i1 M = some r9) : WG x M [(0, .ref (gsa (xz x))), (1, .int i1)] 0 [] := by
  unfold f_L_cell at h
  refine g_iload_n X (j := 1) dL_cell_0 rfl rfl ?_
  refine g_aload_n X (j := 0) dL_cell_1 rfl rfl ?_
  refine g_slen X hsc dL_cell_2 ?_
  refine g_icmp_ge X (tgt := 12) dL_cell_3 (by decide) (fun hb => ?_) (fun hb => ?_)
  · have h := ite_t hb h
    refine g_ldc X q_882 dL_cell_12 ?_
    refine g_iload_n X (j := 1) dL_cell_14 rfl rfl ?_
    refine g_iconst X (v := 3) dL_cell_15 (by decide) ?_
    refine g_iadd X dL_cell_16 ?_
    refine g_imul X dL_cell_17 ?_
    exact hR ((790386105 : Int32) * (i1 + (3 : Int32))) _ _ (Option.some.inj h).symm dL_cell_18
  · have h := ite_f hb h
    refine g_aload_n X (j := 0) dL_cell_6 rfl rfl ?_
    refine g_iload_n X (j := 1) dL_cell_7 rfl rfl ?_
    obtain ⟨hg1, h⟩ := grd_e h
    refine g_sld X hsc hg1 dL_cell_8 ?_
    refine g_goto X (tgt := 18) dL_cell_9 (by decide) ?_
    exact hR (xs9 i1.toNatClampNeg) _ _ (Option.some.inj h).symm dL_cell_18
theorem ct_L_cell {l : Launch} {z : GZ} (htr : l.stackTraces = false) {L9 : Nat} {xs9 : Nat → Int32} (hsc : gsl z = L9 ∧ gsx z = xs9) {i1 : Int32}  {M : GM} {F : Nat} {v : Int32} (h : f_L_cell F L9 xs9 i1 M = some v) : gMet l z yL_cell cL_cell 2 (some .int) 0 [.ref (gsa z), .int i1] M (some (.int v)) M := gMet_ofI (by decide +kernel) (Nat.le_of_ble_eq_true rfl) htr rfl (fun x X ez el hR => by subst ez; subst el; exact w_L_cell X  hsc (fun v9 lv9 pc9 e9 d9 => by cases e9; exact hR lv9 pc9 d9) h)
theorem gc_X11_54 {x : GX} {cc : ByteArray} {nL d pc : Nat} {M : GM} {lv : List (Nat × Value)} {st : List Value} (X : GC x cc nL RX11 d) {i1 : Int32} {M1 : GM} {r : Int32} (hM : gMet (xl x) (xz x) yL_cell cL_cell 2 (some .int) 0 [.ref (gsa (xz x)), .int i1] M (some (.int r)) M1) (hd : 1 ≤ d) (hsum : (st.map fun v => v.category).sum ≤ 8) (dec : decode cc pc = .ok (.invokestatic 54, 3)) (go : WG x M1 lv (pc + 3) (.int r :: st)) : WG x M lv pc (.int i1 :: .ref (gsa (xz x)) :: st) := g_callSN X (n := 2) (As := [.ref (gsa (xz x)), .int i1]) (rest := st) (host := RL) hM (fun h => h.2.2.2.2.2.2.1) q_880 q_15 q_881 (by decide +kernel) rfl hd (by decide) rfl hsum dec go
theorem gc_X11_60 {x : GX} {cc : ByteArray} {nL d pc : Nat} {M : GM} {lv : List (Nat × Value)} {st : List Value} (X : GC x cc nL RX11 d) {i0 : Int32} {i1 : Int32} {M1 : GM} {r : Int32} (hM : gMet (xl x) (xz x) yL_below cL_below 2 (some .int) 0 [.int i0, .int i1] M (some (.int r)) M1) (hd : 1 ≤ d) (hsum : (st.map fun v => v.category).sum ≤ 8) (dec : decode cc pc = .ok (.invokestatic 60, 3)) (go : WG x M1 lv (pc + 3) (.int r :: st)) : WG x M lv pc (.int i1 :: .int i0 :: st) := g_callSN X (n := 2) (As := [.int i0, .int i1]) (rest := st) (host := RL) hM (fun h => h.2.2.2.2.2.2.2) q_884 q_15 q_885 (by decide +kernel) rfl hd (by decide) rfl hsum dec go
theorem dX11_draw_0 : decode cX11_draw 0 = .ok (.aload_n 0, 1) := by decide +kernel
theorem dX11_draw_1 : decode cX11_draw 1 = .ok (.getfield 48, 3) := by decide +kernel
theorem dX11_draw_4 : decode cX11_draw 4 = .ok (.aload_n 0, 1) := by decide +kernel
theorem dX11_draw_5 : decode cX11_draw 5 = .ok (.getfield 51, 3) := by decide +kernel
theorem dX11_draw_8 : decode cX11_draw 8 = .ok (.bipush 24, 2) := by decide +kernel
theorem dX11_draw_10 : decode cX11_draw 10 = .ok (.irem, 1) := by decide +kernel
theorem dX11_draw_11 : decode cX11_draw 11 = .ok (.invokestatic 54, 3) := by decide +kernel
theorem dX11_draw_14 : decode cX11_draw 14 = .ok (.aload_n 0, 1) := by decide +kernel
theorem dX11_draw_15 : decode cX11_draw 15 = .ok (.getfield 51, 3) := by decide +kernel
theorem dX11_draw_18 : decode cX11_draw 18 = .ok (.bipush 24, 2) := by decide +kernel
theorem dX11_draw_20 : decode cX11_draw 20 = .ok (.idiv, 1) := by decide +kernel
theorem dX11_draw_21 : decode cX11_draw 21 = .ok (.bipush 8, 2) := by decide +kernel
theorem dX11_draw_23 : decode cX11_draw 23 = .ok (.irem, 1) := by decide +kernel
theorem dX11_draw_24 : decode cX11_draw 24 = .ok (.ishr, 1) := by decide +kernel
theorem dX11_draw_25 : decode cX11_draw 25 = .ok (.bipush 43, 2) := by decide +kernel
theorem dX11_draw_27 : decode cX11_draw 27 = .ok (.aload_n 0, 1) := by decide +kernel
theorem dX11_draw_28 : decode cX11_draw 28 = .ok (.getfield 51, 3) := by decide +kernel
theorem dX11_draw_31 : decode cX11_draw 31 = .ok (.imul, 1) := by decide +kernel
theorem dX11_draw_32 : decode cX11_draw 32 = .ok (.iadd, 1) := by decide +kernel
theorem dX11_draw_33 : decode cX11_draw 33 = .ok (.iload_n 1, 1) := by decide +kernel
theorem dX11_draw_34 : decode cX11_draw 34 = .ok (.invokestatic 60, 3) := by decide +kernel
theorem dX11_draw_37 : decode cX11_draw 37 = .ok (.istore_n 2, 1) := by decide +kernel
theorem dX11_draw_38 : decode cX11_draw 38 = .ok (.aload_n 0, 1) := by decide +kernel
theorem dX11_draw_39 : decode cX11_draw 39 = .ok (.dup, 1) := by decide +kernel
theorem dX11_draw_40 : decode cX11_draw 40 = .ok (.getfield 51, 3) := by decide +kernel
theorem dX11_draw_43 : decode cX11_draw 43 = .ok (.iconst 1, 1) := by decide +kernel
theorem dX11_draw_44 : decode cX11_draw 44 = .ok (.iadd, 1) := by decide +kernel
theorem dX11_draw_45 : decode cX11_draw 45 = .ok (.putfield 51, 3) := by decide +kernel
theorem dX11_draw_48 : decode cX11_draw 48 = .ok (.iload_n 2, 1) := by decide +kernel
theorem dX11_draw_49 : decode cX11_draw 49 = .ok (.ireturn, 1) := by decide +kernel
def f_X11_draw (F : Nat) (L9 : Nat) (xs9 : Nat → Int32) (i0 : Int32) (M : GM) : Option (Int32 × GM) := bndO (f_L_cell F L9 xs9 ((gI M 122 2) - (gI M 122 2) / (24 : Int32) * (24 : Int32)) M) (fun v2 => bndO (f_L_below F ((v2 >>> ((((gI M 122 2) / (24 : Int32)) - ((gI M 122 2) / (24 : Int32)) / (8 : Int32) * (8 : Int32)) &&& 31)) + ((43 : Int32) * (gI M 122 2))) i0 M) (fun v4 => bnd v4 (fun v5 => bnd (sI M 122 2 ((gI M 122 2) + (1 : Int32))) (fun M7 => some (v5, M7)))))
set_option maxHeartbeats 4000000 in
set_option maxRecDepth 100000 in
theorem w_X11_draw {x : GX} (X : GC x cX11_draw 3 RX11 1) {i0 : Int32}  {F : Nat} {L9 : Nat} {xs9 : Nat → Int32} {M : GM} {r9 : (Int32 × GM)} (hsc : gsl (xz x) = L9 ∧ gsx (xz x) = xs9) (hR : ∀ (v9 : Int32) (M9 : GM) (lv9 : List (Nat × Value)) (pc9 : Nat), r9 = (v9, M9) → decode cX11_draw pc9 = .ok (.ireturn, 1) → WG x M9 lv9 pc9 [.int v9]) (h : f_X11_draw F L9 xs9 i0 M = some r9) : WG x M [(0, .ref (gad (xz x) 122)), (1, .int i0)] 0 [] := by
  unfold f_X11_draw at h
  refine g_aload_n X (j := 0) dX11_draw_0 rfl rfl ?_
  refine gf_X11_48 X gT_c122 dX11_draw_1 ?_
  refine g_aload_n X (j := 0) dX11_draw_4 rfl rfl ?_
  refine gf_X11_51 X gT_c122 dX11_draw_5 ?_
  refine g_bipush X (v := 24) dX11_draw_8 (by decide) ?_
  refine g_irem X dX11_draw_10 (by decide) ?_
  obtain ⟨v2, hc1, h⟩ := bndO_e h
  refine gc_X11_54 X (ct_L_cell X.htr hsc hc1) (by decide) (Nat.le_of_ble_eq_true rfl) dX11_draw_11 ?_
  refine g_aload_n X (j := 0) dX11_draw_14 rfl rfl ?_
  refine gf_X11_51 X gT_c122 dX11_draw_15 ?_
  refine g_bipush X (v := 24) dX11_draw_18 (by decide) ?_
  refine g_idiv X dX11_draw_20 (by decide) ?_
  refine g_bipush X (v := 8) dX11_draw_21 (by decide) ?_
  refine g_irem X dX11_draw_23 (by decide) ?_
  refine g_ishr X dX11_draw_24 ?_
  refine g_bipush X (v := 43) dX11_draw_25 (by decide) ?_
  refine g_aload_n X (j := 0) dX11_draw_27 rfl rfl ?_
  refine gf_X11_51 X gT_c122 dX11_draw_28 ?_
  refine g_imul X dX11_draw_31 ?_
  refine g_iadd X dX11_draw_32 ?_
  refine g_iload_n X (j := 1) dX11_draw_33 rfl rfl ?_
  obtain ⟨v4, hc3, h⟩ := bndO_e h
  refine gc_X11_60 X (ct_L_below X.htr  hc3) (by decide) (Nat.le_of_ble_eq_true rfl) dX11_draw_34 ?_
  refine g_topi (fun v5 e6 => ?_)
  have h := bnd_e e6 h
  refine g_istore_n X (lv' := [(2, .int v5), (0, .ref (gad (xz x) 122)), (1, .int i0)]) dX11_draw_37 rfl (by decide) rfl ?_
  refine g_aload_n X (j := 1) dX11_draw_38 rfl rfl ?_
  refine g_dup X dX11_draw_39 rfl ?_
  refine gf_X11_51 X gT_c122 dX11_draw_40 ?_
  refine g_iconst X (v := 1) dX11_draw_43 (by decide) ?_
  refine g_iadd X dX11_draw_44 ?_
  refine gp_X11_51 X gT_c122 dX11_draw_45 ?_
  refine g_mem (fun M7 e8 => ?_)
  have h := bnd_e e8 h
  refine g_iload_n X (j := 0) dX11_draw_48 rfl rfl ?_
  exact hR v5 M7 _ _ (Option.some.inj h).symm dX11_draw_49
theorem ct_X11_draw {l : Launch} {z : GZ} (htr : l.stackTraces = false) {L9 : Nat} {xs9 : Nat → Int32} (hsc : gsl z = L9 ∧ gsx z = xs9) {i0 : Int32}  {M : GM} {F : Nat} {v : Int32} {M1 : GM} (h : f_X11_draw F L9 xs9 i0 M = some (v, M1)) : gMet l z yX11_draw cX11_draw 3 (some .int) 1 [.ref (gad z 122), .int i0] M (some (.int v)) M1 := gMet_ofI (by decide +kernel) (Nat.le_of_ble_eq_true rfl) htr rfl (fun x X ez el hR => by subst ez; subst el; exact w_X11_draw X  hsc (fun v9 M9 lv9 pc9 e9 d9 => by cases e9; exact hR lv9 pc9 d9) h)
theorem gc_X11_64 {x : GX} {cc : ByteArray} {nL d pc : Nat} {M : GM} {lv : List (Nat × Value)} {st : List Value} (X : GC x cc nL RX11 d) {i0 : Int32} {M1 : GM} {r : Int32} (ht : gT 122 = 11) (hM : gMet (xl x) (xz x) yX11_draw cX11_draw 3 (some .int) 1 [.ref (gad (xz x) 122), .int i0] M (some (.int r)) M1) (hd : 2 ≤ d) (hsum : (st.map fun v => v.category).sum ≤ 8) (dec : decode cc pc = .ok (.invokevirtual 64, 3)) (go : WG x M1 lv (pc + 3) (.int r :: st)) : WG x M lv pc (.int i0 :: .ref (gad (xz x) 122) :: st) := g_callV X (n := 1) (As := [.int i0]) (rest := st) hM ht (by decide) (gE_11 ht) rfl q_899 q_876 q_877 q_16 q_878 (by decide +kernel) rfl hd (by decide) rfl hsum dec go
theorem dX11_between_0 : decode cX11_between 0 = .ok (.iload_n 1, 1) := by decide +kernel
theorem dX11_between_1 : decode cX11_between 1 = .ok (.aload_n 0, 1) := by decide +kernel
theorem dX11_between_2 : decode cX11_between 2 = .ok (.iload_n 2, 1) := by decide +kernel
theorem dX11_between_3 : decode cX11_between 3 = .ok (.iload_n 1, 1) := by decide +kernel
theorem dX11_between_4 : decode cX11_between 4 = .ok (.isub, 1) := by decide +kernel
theorem dX11_between_5 : decode cX11_between 5 = .ok (.iconst 1, 1) := by decide +kernel
theorem dX11_between_6 : decode cX11_between 6 = .ok (.iadd, 1) := by decide +kernel
theorem dX11_between_7 : decode cX11_between 7 = .ok (.invokevirtual 64, 3) := by decide +kernel
theorem dX11_between_10 : decode cX11_between 10 = .ok (.iadd, 1) := by decide +kernel
theorem dX11_between_11 : decode cX11_between 11 = .ok (.ireturn, 1) := by decide +kernel
def f_X11_between (F : Nat) (L9 : Nat) (xs9 : Nat → Int32) (i0 : Int32) (i1 : Int32) (M : GM) : Option (Int32 × GM) := bndO (f_X11_draw F L9 xs9 ((i1 - i0) + (1 : Int32)) M) (fun (v2, M3) => some ((i0 + v2), M3))
set_option maxHeartbeats 4000000 in
set_option maxRecDepth 100000 in
theorem w_X11_between {x : GX} (X : GC x cX11_between 3 RX11 2) {i0 : Int32} {i1 : Int32}  {F : Nat} {L9 : Nat} {xs9 : Nat → Int32} {M : GM} {r9 : (Int32 × GM)} (hsc : gsl (xz x) = L9 ∧ gsx (xz x) = xs9) (hR : ∀ (v9 : Int32) (M9 : GM) (lv9 : List (Nat × Value)) (pc9 : Nat), r9 = (v9, M9) → decode cX11_between pc9 = .ok (.ireturn, 1) → WG x M9 lv9 pc9 [.int v9]) (h : f_X11_between F L9 xs9 i0 i1 M = some r9) : WG x M [(0, .ref (gad (xz x) 122)), (1, .int i0), (2, .int i1)] 0 [] := by
  unfold f_X11_between at h
  refine g_iload_n X (j := 1) dX11_between_0 rfl rfl ?_
  refine g_aload_n X (j := 0) dX11_between_1 rfl rfl ?_
  refine g_iload_n X (j := 2) dX11_between_2 rfl rfl ?_
  refine g_iload_n X (j := 1) dX11_between_3 rfl rfl ?_
  refine g_isub X dX11_between_4 ?_
  refine g_iconst X (v := 1) dX11_between_5 (by decide) ?_
  refine g_iadd X dX11_between_6 ?_
  obtain ⟨⟨v2, M3⟩, hc1, h⟩ := bndO_e h
  refine gc_X11_64 X gT_c122 (ct_X11_draw X.htr hsc hc1) (by decide) (Nat.le_of_ble_eq_true rfl) dX11_between_7 ?_
  refine g_iadd X dX11_between_10 ?_
  exact hR (i0 + v2) M3 _ _ (Option.some.inj h).symm dX11_between_11
theorem ct_X11_between {l : Launch} {z : GZ} (htr : l.stackTraces = false) {L9 : Nat} {xs9 : Nat → Int32} (hsc : gsl z = L9 ∧ gsx z = xs9) {i0 : Int32} {i1 : Int32}  {M : GM} {F : Nat} {v : Int32} {M1 : GM} (h : f_X11_between F L9 xs9 i0 i1 M = some (v, M1)) : gMet l z yX11_between cX11_between 3 (some .int) 2 [.ref (gad z 122), .int i0, .int i1] M (some (.int v)) M1 := gMet_ofI (by decide +kernel) (Nat.le_of_ble_eq_true rfl) htr rfl (fun x X ez el hR => by subst ez; subst el; exact w_X11_between X  hsc (fun v9 M9 lv9 pc9 e9 d9 => by cases e9; exact hR lv9 pc9 d9) h)
theorem dX11_colour_0 : decode cX11_colour 0 = .ok (.aload_n 0, 1) := by decide +kernel
theorem dX11_colour_1 : decode cX11_colour 1 = .ok (.sipush 256, 3) := by decide +kernel
theorem dX11_colour_4 : decode cX11_colour 4 = .ok (.invokevirtual 64, 3) := by decide +kernel
theorem dX11_colour_7 : decode cX11_colour 7 = .ok (.bipush 16, 2) := by decide +kernel
theorem dX11_colour_9 : decode cX11_colour 9 = .ok (.ishl, 1) := by decide +kernel
theorem dX11_colour_10 : decode cX11_colour 10 = .ok (.aload_n 0, 1) := by decide +kernel
theorem dX11_colour_11 : decode cX11_colour 11 = .ok (.sipush 256, 3) := by decide +kernel
theorem dX11_colour_14 : decode cX11_colour 14 = .ok (.invokevirtual 64, 3) := by decide +kernel
theorem dX11_colour_17 : decode cX11_colour 17 = .ok (.bipush 8, 2) := by decide +kernel
theorem dX11_colour_19 : decode cX11_colour 19 = .ok (.ishl, 1) := by decide +kernel
theorem dX11_colour_20 : decode cX11_colour 20 = .ok (.ior, 1) := by decide +kernel
theorem dX11_colour_21 : decode cX11_colour 21 = .ok (.aload_n 0, 1) := by decide +kernel
theorem dX11_colour_22 : decode cX11_colour 22 = .ok (.sipush 256, 3) := by decide +kernel
theorem dX11_colour_25 : decode cX11_colour 25 = .ok (.invokevirtual 64, 3) := by decide +kernel
theorem dX11_colour_28 : decode cX11_colour 28 = .ok (.ior, 1) := by decide +kernel
theorem dX11_colour_29 : decode cX11_colour 29 = .ok (.ireturn, 1) := by decide +kernel
def f_X11_colour (F : Nat) (L9 : Nat) (xs9 : Nat → Int32) (M : GM) : Option (Int32 × GM) := bndO (f_X11_draw F L9 xs9 (256 : Int32) M) (fun (v2, M3) => bndO (f_X11_draw F L9 xs9 (256 : Int32) M3) (fun (v5, M6) => bndO (f_X11_draw F L9 xs9 (256 : Int32) M6) (fun (v8, M9) => some ((((v2 <<< ((16 : Int32) &&& 31)) ||| (v5 <<< ((8 : Int32) &&& 31))) ||| v8), M9))))
set_option maxHeartbeats 4000000 in
set_option maxRecDepth 100000 in
theorem w_X11_colour {x : GX} (X : GC x cX11_colour 1 RX11 2)   {F : Nat} {L9 : Nat} {xs9 : Nat → Int32} {M : GM} {r9 : (Int32 × GM)} (hsc : gsl (xz x) = L9 ∧ gsx (xz x) = xs9) (hR : ∀ (v9 : Int32) (M9 : GM) (lv9 : List (Nat × Value)) (pc9 : Nat), r9 = (v9, M9) → decode cX11_colour pc9 = .ok (.ireturn, 1) → WG x M9 lv9 pc9 [.int v9]) (h : f_X11_colour F L9 xs9 M = some r9) : WG x M [(0, .ref (gad (xz x) 122))] 0 [] := by
  unfold f_X11_colour at h
  refine g_aload_n X (j := 0) dX11_colour_0 rfl rfl ?_
  refine g_sipush X (v := 256) dX11_colour_1 (by decide) ?_
  obtain ⟨⟨v2, M3⟩, hc1, h⟩ := bndO_e h
  refine gc_X11_64 X gT_c122 (ct_X11_draw X.htr hsc hc1) (by decide) (Nat.le_of_ble_eq_true rfl) dX11_colour_4 ?_
  refine g_bipush X (v := 16) dX11_colour_7 (by decide) ?_
  refine g_ishl X dX11_colour_9 ?_
  refine g_aload_n X (j := 0) dX11_colour_10 rfl rfl ?_
  refine g_sipush X (v := 256) dX11_colour_11 (by decide) ?_
  obtain ⟨⟨v5, M6⟩, hc4, h⟩ := bndO_e h
  refine gc_X11_64 X gT_c122 (ct_X11_draw X.htr hsc hc4) (by decide) (Nat.le_of_ble_eq_true rfl) dX11_colour_14 ?_
  refine g_bipush X (v := 8) dX11_colour_17 (by decide) ?_
  refine g_ishl X dX11_colour_19 ?_
  refine g_ior X dX11_colour_20 ?_
  refine g_aload_n X (j := 0) dX11_colour_21 rfl rfl ?_
  refine g_sipush X (v := 256) dX11_colour_22 (by decide) ?_
  obtain ⟨⟨v8, M9⟩, hc7, h⟩ := bndO_e h
  refine gc_X11_64 X gT_c122 (ct_X11_draw X.htr hsc hc7) (by decide) (Nat.le_of_ble_eq_true rfl) dX11_colour_25 ?_
  refine g_ior X dX11_colour_28 ?_
  exact hR (((v2 <<< ((16 : Int32) &&& 31)) ||| (v5 <<< ((8 : Int32) &&& 31))) ||| v8) M9 _ _ (Option.some.inj h).symm dX11_colour_29
theorem ct_X11_colour {l : Launch} {z : GZ} (htr : l.stackTraces = false) {L9 : Nat} {xs9 : Nat → Int32} (hsc : gsl z = L9 ∧ gsx z = xs9)   {M : GM} {F : Nat} {v : Int32} {M1 : GM} (h : f_X11_colour F L9 xs9 M = some (v, M1)) : gMet l z yX11_colour cX11_colour 1 (some .int) 2 [.ref (gad z 122)] M (some (.int v)) M1 := gMet_ofI (by decide +kernel) (Nat.le_of_ble_eq_true rfl) htr rfl (fun x X ez el hR => by subst ez; subst el; exact w_X11_colour X  hsc (fun v9 M9 lv9 pc9 e9 d9 => by cases e9; exact hR lv9 pc9 d9) h)
theorem gc_X11_103 {x : GX} {cc : ByteArray} {nL d pc : Nat} {M : GM} {lv : List (Nat × Value)} {st : List Value} (X : GC x cc nL RX11 d) {i0 : Int64} {i1 : Int64} {M1 : GM} {r : Int64} (hM : gMet (xl x) (xz x) yJ9_floorDiv_f86c9 cJ9_floorDiv_f86c9 6 (some .long) 0 [.long i0, .long i1] M (some (.long r)) M1) (hd : 1 ≤ d) (hsum : (st.map fun v => v.category).sum ≤ 8) (dec : decode cc pc = .ok (.invokestatic 103, 3)) (go : WG x M1 lv (pc + 3) (.long r :: st)) : WG x M lv pc (.long i1 :: .long i0 :: st) := g_callS X (n := 2) (As := [.long i0, .long i1]) (rest := st) hM q_994 q_196 q_34 q_197 (by decide +kernel) rfl hd (by decide) rfl hsum dec go
theorem dX11_seen_0 : decode cX11_seen 0 = .ok (.aload_n 0, 1) := by decide +kernel
theorem dX11_seen_1 : decode cX11_seen 1 = .ok (.getfield 31, 3) := by decide +kernel
theorem dX11_seen_4 : decode cX11_seen 4 = .ok (.iload_n 2, 1) := by decide +kernel
theorem dX11_seen_5 : decode cX11_seen 5 = .ok (.aaload, 1) := by decide +kernel
theorem dX11_seen_6 : decode cX11_seen 6 = .ok (.iconst 0, 1) := by decide +kernel
theorem dX11_seen_7 : decode cX11_seen 7 = .ok (.iaload, 1) := by decide +kernel
theorem dX11_seen_8 : decode cX11_seen 8 = .ok (.i2l, 1) := by decide +kernel
theorem dX11_seen_9 : decode cX11_seen 9 = .ok (.aload_n 0, 1) := by decide +kernel
theorem dX11_seen_10 : decode cX11_seen 10 = .ok (.getfield 18, 3) := by decide +kernel
theorem dX11_seen_13 : decode cX11_seen 13 = .ok (.iload_n 1, 1) := by decide +kernel
theorem dX11_seen_14 : decode cX11_seen 14 = .ok (.aaload, 1) := by decide +kernel
theorem dX11_seen_15 : decode cX11_seen 15 = .ok (.iconst 0, 1) := by decide +kernel
theorem dX11_seen_16 : decode cX11_seen 16 = .ok (.iaload, 1) := by decide +kernel
theorem dX11_seen_17 : decode cX11_seen 17 = .ok (.i2l, 1) := by decide +kernel
theorem dX11_seen_18 : decode cX11_seen 18 = .ok (.lmul, 1) := by decide +kernel
theorem dX11_seen_19 : decode cX11_seen 19 = .ok (.aload_n 0, 1) := by decide +kernel
theorem dX11_seen_20 : decode cX11_seen 20 = .ok (.getfield 31, 3) := by decide +kernel
theorem dX11_seen_23 : decode cX11_seen 23 = .ok (.iload_n 2, 1) := by decide +kernel
theorem dX11_seen_24 : decode cX11_seen 24 = .ok (.aaload, 1) := by decide +kernel
theorem dX11_seen_25 : decode cX11_seen 25 = .ok (.iconst 1, 1) := by decide +kernel
theorem dX11_seen_26 : decode cX11_seen 26 = .ok (.iaload, 1) := by decide +kernel
theorem dX11_seen_27 : decode cX11_seen 27 = .ok (.i2l, 1) := by decide +kernel
theorem dX11_seen_28 : decode cX11_seen 28 = .ok (.aload_n 0, 1) := by decide +kernel
theorem dX11_seen_29 : decode cX11_seen 29 = .ok (.getfield 18, 3) := by decide +kernel
theorem dX11_seen_32 : decode cX11_seen 32 = .ok (.iload_n 1, 1) := by decide +kernel
theorem dX11_seen_33 : decode cX11_seen 33 = .ok (.aaload, 1) := by decide +kernel
theorem dX11_seen_34 : decode cX11_seen 34 = .ok (.iconst 1, 1) := by decide +kernel
theorem dX11_seen_35 : decode cX11_seen 35 = .ok (.iaload, 1) := by decide +kernel
theorem dX11_seen_36 : decode cX11_seen 36 = .ok (.i2l, 1) := by decide +kernel
theorem dX11_seen_37 : decode cX11_seen 37 = .ok (.lmul, 1) := by decide +kernel
theorem dX11_seen_38 : decode cX11_seen 38 = .ok (.ladd, 1) := by decide +kernel
theorem dX11_seen_39 : decode cX11_seen 39 = .ok (.aload_n 0, 1) := by decide +kernel
theorem dX11_seen_40 : decode cX11_seen 40 = .ok (.getfield 31, 3) := by decide +kernel
theorem dX11_seen_43 : decode cX11_seen 43 = .ok (.iload_n 2, 1) := by decide +kernel
theorem dX11_seen_44 : decode cX11_seen 44 = .ok (.aaload, 1) := by decide +kernel
theorem dX11_seen_45 : decode cX11_seen 45 = .ok (.iconst 2, 1) := by decide +kernel
theorem dX11_seen_46 : decode cX11_seen 46 = .ok (.iaload, 1) := by decide +kernel
theorem dX11_seen_47 : decode cX11_seen 47 = .ok (.i2l, 1) := by decide +kernel
theorem dX11_seen_48 : decode cX11_seen 48 = .ok (.aload_n 0, 1) := by decide +kernel
theorem dX11_seen_49 : decode cX11_seen 49 = .ok (.getfield 18, 3) := by decide +kernel
theorem dX11_seen_52 : decode cX11_seen 52 = .ok (.iload_n 1, 1) := by decide +kernel
theorem dX11_seen_53 : decode cX11_seen 53 = .ok (.aaload, 1) := by decide +kernel
theorem dX11_seen_54 : decode cX11_seen 54 = .ok (.iconst 2, 1) := by decide +kernel
theorem dX11_seen_55 : decode cX11_seen 55 = .ok (.iaload, 1) := by decide +kernel
theorem dX11_seen_56 : decode cX11_seen 56 = .ok (.i2l, 1) := by decide +kernel
theorem dX11_seen_57 : decode cX11_seen 57 = .ok (.lmul, 1) := by decide +kernel
theorem dX11_seen_58 : decode cX11_seen 58 = .ok (.ladd, 1) := by decide +kernel
theorem dX11_seen_59 : decode cX11_seen 59 = .ok (.lstore_n 3, 1) := by decide +kernel
theorem dX11_seen_60 : decode cX11_seen 60 = .ok (.lload_n 3, 1) := by decide +kernel
theorem dX11_seen_61 : decode cX11_seen 61 = .ok (.ldc2_w 101, 3) := by decide +kernel
theorem dX11_seen_64 : decode cX11_seen 64 = .ok (.invokestatic 103, 3) := by decide +kernel
theorem dX11_seen_67 : decode cX11_seen 67 = .ok (.l2i, 1) := by decide +kernel
theorem dX11_seen_68 : decode cX11_seen 68 = .ok (.aload_n 0, 1) := by decide +kernel
theorem dX11_seen_69 : decode cX11_seen 69 = .ok (.getfield 31, 3) := by decide +kernel
theorem dX11_seen_72 : decode cX11_seen 72 = .ok (.iload_n 2, 1) := by decide +kernel
theorem dX11_seen_73 : decode cX11_seen 73 = .ok (.aaload, 1) := by decide +kernel
theorem dX11_seen_74 : decode cX11_seen 74 = .ok (.iconst 3, 1) := by decide +kernel
theorem dX11_seen_75 : decode cX11_seen 75 = .ok (.iaload, 1) := by decide +kernel
theorem dX11_seen_76 : decode cX11_seen 76 = .ok (.iadd, 1) := by decide +kernel
theorem dX11_seen_77 : decode cX11_seen 77 = .ok (.ireturn, 1) := by decide +kernel
def f_X11_seen (F : Nat) (i0 : Int32) (i1 : Int32) (M : GM) : Option Int32 := grd (gIn i1 (gN 126)) (bnd (gR 126 i1.toNatClampNeg) (fun o2 => grd (gIn (0 : Int32) (gN o2)) (grd (gIn i0 (gN 123)) (bnd (gR 123 i0.toNatClampNeg) (fun o7 => grd (gIn (0 : Int32) (gN o7)) (grd (gIn i1 (gN 126)) (bnd (gR 126 i1.toNatClampNeg) (fun o12 => grd (gIn (1 : Int32) (gN o12)) (grd (gIn i0 (gN 123)) (bnd (gR 123 i0.toNatClampNeg) (fun o17 => grd (gIn (1 : Int32) (gN o17)) (grd (gIn i1 (gN 126)) (bnd (gR 126 i1.toNatClampNeg) (fun o22 => grd (gIn (2 : Int32) (gN o22)) (grd (gIn i0 (gN 123)) (bnd (gR 123 i0.toNatClampNeg) (fun o27 => grd (gIn (2 : Int32) (gN o27)) (bnd (((((gI M o2 0).toInt64) * ((gI M o7 0).toInt64)) + (((gI M o12 1).toInt64) * ((gI M o17 1).toInt64))) + (((gI M o22 2).toInt64) * ((gI M o27 2).toInt64))) (fun w31 => bndO (f_J9_floorDiv_f86c9 F w31 (1024 : Int64) M) (fun w34 => grd (gIn i1 (gN 126)) (bnd (gR 126 i1.toNatClampNeg) (fun o36 => grd (gIn (3 : Int32) (gN o36)) (some (w34.toInt32 + (gI M o36 3)))))))))))))))))))))))))
set_option maxHeartbeats 4000000 in
set_option maxRecDepth 100000 in
theorem w_X11_seen {x : GX} (X : GC x cX11_seen 5 RX11 1) {i0 : Int32} {i1 : Int32}  {F : Nat} {M : GM} {r9 : Int32} (hR : ∀ (v9 : Int32) (lv9 : List (Nat × Value)) (pc9 : Nat), r9 = v9 → decode cX11_seen pc9 = .ok (.ireturn, 1) → WG x M lv9 pc9 [.int v9]) (h : f_X11_seen F i0 i1 M = some r9) : WG x M [(0, .ref (gad (xz x) 122)), (1, .int i0), (2, .int i1)] 0 [] := by
  unfold f_X11_seen at h
  refine g_aload_n X (j := 0) dX11_seen_0 rfl rfl ?_
  refine gf_X11_31 X gT_c122 dX11_seen_1 ?_
  refine g_iload_n X (j := 2) dX11_seen_4 rfl rfl ?_
  obtain ⟨hg1, h⟩ := grd_e h
  refine g_aald_28 X gT_c126 hg1 dX11_seen_5 ?_
  refine g_topr (fun o2 e3 => ?_)
  have h := bnd_e e3 h
  have k4 : gT o2 = 20 := by rw [e3]; exact gR_28 gT_c126 (gIn_lt hg1)
  refine g_iconst X (v := 0) dX11_seen_6 (by decide) ?_
  obtain ⟨hg5, h⟩ := grd_e h
  refine g_iald X k4 hg5 dX11_seen_7 ?_
  rw [tn_0]
  refine g_i2l X dX11_seen_8 ?_
  refine g_aload_n X (j := 0) dX11_seen_9 rfl rfl ?_
  refine gf_X11_18 X gT_c122 dX11_seen_10 ?_
  refine g_iload_n X (j := 1) dX11_seen_13 rfl rfl ?_
  obtain ⟨hg6, h⟩ := grd_e h
  refine g_aald_28 X gT_c123 hg6 dX11_seen_14 ?_
  refine g_topr (fun o7 e8 => ?_)
  have h := bnd_e e8 h
  have k9 : gT o7 = 20 := by rw [e8]; exact gR_28 gT_c123 (gIn_lt hg6)
  refine g_iconst X (v := 0) dX11_seen_15 (by decide) ?_
  obtain ⟨hg10, h⟩ := grd_e h
  refine g_iald X k9 hg10 dX11_seen_16 ?_
  rw [tn_0]
  refine g_i2l X dX11_seen_17 ?_
  refine g_lmul X dX11_seen_18 ?_
  refine g_aload_n X (j := 0) dX11_seen_19 rfl rfl ?_
  refine gf_X11_31 X gT_c122 dX11_seen_20 ?_
  refine g_iload_n X (j := 2) dX11_seen_23 rfl rfl ?_
  obtain ⟨hg11, h⟩ := grd_e h
  refine g_aald_28 X gT_c126 hg11 dX11_seen_24 ?_
  refine g_topr (fun o12 e13 => ?_)
  have h := bnd_e e13 h
  have k14 : gT o12 = 20 := by rw [e13]; exact gR_28 gT_c126 (gIn_lt hg11)
  refine g_iconst X (v := 1) dX11_seen_25 (by decide) ?_
  obtain ⟨hg15, h⟩ := grd_e h
  refine g_iald X k14 hg15 dX11_seen_26 ?_
  rw [tn_1]
  refine g_i2l X dX11_seen_27 ?_
  refine g_aload_n X (j := 0) dX11_seen_28 rfl rfl ?_
  refine gf_X11_18 X gT_c122 dX11_seen_29 ?_
  refine g_iload_n X (j := 1) dX11_seen_32 rfl rfl ?_
  obtain ⟨hg16, h⟩ := grd_e h
  refine g_aald_28 X gT_c123 hg16 dX11_seen_33 ?_
  refine g_topr (fun o17 e18 => ?_)
  have h := bnd_e e18 h
  have k19 : gT o17 = 20 := by rw [e18]; exact gR_28 gT_c123 (gIn_lt hg16)
  refine g_iconst X (v := 1) dX11_seen_34 (by decide) ?_
  obtain ⟨hg20, h⟩ := grd_e h
  refine g_iald X k19 hg20 dX11_seen_35 ?_
  rw [tn_1]
  refine g_i2l X dX11_seen_36 ?_
  refine g_lmul X dX11_seen_37 ?_
  refine g_ladd X dX11_seen_38 ?_
  refine g_aload_n X (j := 0) dX11_seen_39 rfl rfl ?_
  refine gf_X11_31 X gT_c122 dX11_seen_40 ?_
  refine g_iload_n X (j := 2) dX11_seen_43 rfl rfl ?_
  obtain ⟨hg21, h⟩ := grd_e h
  refine g_aald_28 X gT_c126 hg21 dX11_seen_44 ?_
  refine g_topr (fun o22 e23 => ?_)
  have h := bnd_e e23 h
  have k24 : gT o22 = 20 := by rw [e23]; exact gR_28 gT_c126 (gIn_lt hg21)
  refine g_iconst X (v := 2) dX11_seen_45 (by decide) ?_
  obtain ⟨hg25, h⟩ := grd_e h
  refine g_iald X k24 hg25 dX11_seen_46 ?_
  rw [tn_2]
  refine g_i2l X dX11_seen_47 ?_
  refine g_aload_n X (j := 0) dX11_seen_48 rfl rfl ?_
  refine gf_X11_18 X gT_c122 dX11_seen_49 ?_
  refine g_iload_n X (j := 1) dX11_seen_52 rfl rfl ?_
  obtain ⟨hg26, h⟩ := grd_e h
  refine g_aald_28 X gT_c123 hg26 dX11_seen_53 ?_
  refine g_topr (fun o27 e28 => ?_)
  have h := bnd_e e28 h
  have k29 : gT o27 = 20 := by rw [e28]; exact gR_28 gT_c123 (gIn_lt hg26)
  refine g_iconst X (v := 2) dX11_seen_54 (by decide) ?_
  obtain ⟨hg30, h⟩ := grd_e h
  refine g_iald X k29 hg30 dX11_seen_55 ?_
  rw [tn_2]
  refine g_i2l X dX11_seen_56 ?_
  refine g_lmul X dX11_seen_57 ?_
  refine g_ladd X dX11_seen_58 ?_
  refine g_topl (fun w31 e32 => ?_)
  have h := bnd_e e32 h
  refine g_lstore_n X (lv' := [(3, .long w31), (0, .ref (gad (xz x) 122)), (1, .int i0), (2, .int i1)]) dX11_seen_59 rfl (by decide) rfl ?_
  refine g_lload_n X (j := 0) dX11_seen_60 rfl rfl ?_
  refine g_ldc2 X q_993 dX11_seen_61 ?_
  obtain ⟨w34, hc33, h⟩ := bndO_e h
  refine gc_X11_103 X (ct_J9_floorDiv_f86c9 X.htr  hc33) (by decide) (Nat.le_of_ble_eq_true rfl) dX11_seen_64 ?_
  refine g_l2i X dX11_seen_67 ?_
  refine g_aload_n X (j := 1) dX11_seen_68 rfl rfl ?_
  refine gf_X11_31 X gT_c122 dX11_seen_69 ?_
  refine g_iload_n X (j := 3) dX11_seen_72 rfl rfl ?_
  obtain ⟨hg35, h⟩ := grd_e h
  refine g_aald_28 X gT_c126 hg35 dX11_seen_73 ?_
  refine g_topr (fun o36 e37 => ?_)
  have h := bnd_e e37 h
  have k38 : gT o36 = 20 := by rw [e37]; exact gR_28 gT_c126 (gIn_lt hg35)
  refine g_iconst X (v := 3) dX11_seen_74 (by decide) ?_
  obtain ⟨hg39, h⟩ := grd_e h
  refine g_iald X k38 hg39 dX11_seen_75 ?_
  rw [tn_3]
  refine g_iadd X dX11_seen_76 ?_
  exact hR (w34.toInt32 + (gI M o36 3)) _ _ (Option.some.inj h).symm dX11_seen_77
theorem ct_X11_seen {l : Launch} {z : GZ} (htr : l.stackTraces = false) {i0 : Int32} {i1 : Int32}  {M : GM} {F : Nat} {v : Int32} (h : f_X11_seen F i0 i1 M = some v) : gMet l z yX11_seen cX11_seen 5 (some .int) 1 [.ref (gad z 122), .int i0, .int i1] M (some (.int v)) M := gMet_ofI (by decide +kernel) (Nat.le_of_ble_eq_true rfl) htr rfl (fun x X ez el hR => by subst ez; subst el; exact w_X11_seen X  (fun v9 lv9 pc9 e9 d9 => by cases e9; exact hR lv9 pc9 d9) h)
theorem gc_X11_109 {x : GX} {cc : ByteArray} {nL d pc : Nat} {M : GM} {lv : List (Nat × Value)} {st : List Value} (X : GC x cc nL RX11 d) {i0 : Int32} {i1 : Int32} {M1 : GM} {r : Int32} (ht : gT 122 = 11) (hM : gMet (xl x) (xz x) yX11_seen cX11_seen 5 (some .int) 1 [.ref (gad (xz x) 122), .int i0, .int i1] M (some (.int r)) M1) (hd : 2 ≤ d) (hsum : (st.map fun v => v.category).sum ≤ 8) (dec : decode cc pc = .ok (.invokevirtual 109, 3)) (go : WG x M1 lv (pc + 3) (.int r :: st)) : WG x M lv pc (.int i1 :: .int i0 :: .ref (gad (xz x) 122) :: st) := g_callV X (n := 2) (As := [.int i0, .int i1]) (rest := st) hM ht (by decide) (gE_11 ht) rfl q_989 q_990 q_991 q_16 q_992 (by decide +kernel) rfl hd (by decide) rfl hsum dec go
theorem dX11_inFront_0 : decode cX11_inFront 0 = .ok (.iconst 0, 1) := by decide +kernel
theorem dX11_inFront_1 : decode cX11_inFront 1 = .ok (.istore_n 1, 1) := by decide +kernel
theorem dX11_inFront_2 : decode cX11_inFront 2 = .ok (.iconst 0, 1) := by decide +kernel
theorem dX11_inFront_3 : decode cX11_inFront 3 = .ok (.istore_n 2, 1) := by decide +kernel
theorem dX11_inFront_4 : decode cX11_inFront 4 = .ok (.iload_n 2, 1) := by decide +kernel
theorem dX11_inFront_5 : decode cX11_inFront 5 = .ok (.aload_n 0, 1) := by decide +kernel
theorem dX11_inFront_6 : decode cX11_inFront 6 = .ok (.getfield 75, 3) := by decide +kernel
theorem dX11_inFront_9 : decode cX11_inFront 9 = .ok (.if_icmp .ge 30, 3) := by decide +kernel
theorem dX11_inFront_12 : decode cX11_inFront 12 = .ok (.iload_n 1, 1) := by decide +kernel
theorem dX11_inFront_13 : decode cX11_inFront 13 = .ok (.aload_n 0, 1) := by decide +kernel
theorem dX11_inFront_14 : decode cX11_inFront 14 = .ok (.iload_n 2, 1) := by decide +kernel
theorem dX11_inFront_15 : decode cX11_inFront 15 = .ok (.iconst 2, 1) := by decide +kernel
theorem dX11_inFront_16 : decode cX11_inFront 16 = .ok (.invokevirtual 109, 3) := by decide +kernel
theorem dX11_inFront_19 : decode cX11_inFront 19 = .ok (.aload_n 0, 1) := by decide +kernel
theorem dX11_inFront_20 : decode cX11_inFront 20 = .ok (.getfield 41, 3) := by decide +kernel
theorem dX11_inFront_23 : decode cX11_inFront 23 = .ok (.if_icmp .ge 7, 3) := by decide +kernel
theorem dX11_inFront_26 : decode cX11_inFront 26 = .ok (.iconst 0, 1) := by decide +kernel
theorem dX11_inFront_27 : decode cX11_inFront 27 = .ok (.goto 4, 3) := by decide +kernel
theorem dX11_inFront_30 : decode cX11_inFront 30 = .ok (.iconst 1, 1) := by decide +kernel
theorem dX11_inFront_31 : decode cX11_inFront 31 = .ok (.iadd, 1) := by decide +kernel
theorem dX11_inFront_32 : decode cX11_inFront 32 = .ok (.istore_n 1, 1) := by decide +kernel
theorem dX11_inFront_33 : decode cX11_inFront 33 = .ok (.iinc 2 1, 3) := by decide +kernel
theorem dX11_inFront_36 : decode cX11_inFront 36 = .ok (.goto (-32), 3) := by decide +kernel
theorem dX11_inFront_39 : decode cX11_inFront 39 = .ok (.iload_n 1, 1) := by decide +kernel
theorem dX11_inFront_40 : decode cX11_inFront 40 = .ok (.ireturn, 1) := by decide +kernel
def st_X11_inFront_4 (F : Nat)  (rec : Int32 → Int32 → Option Int32) (a5 : Int32) (a6 : Int32) (M : GM) : Option Int32 := if (gI M 122 3) ≤ a6 then (some a5) else (bndO (f_X11_seen F a6 (2 : Int32) M) (fun v8 => if (gI M 122 11) ≤ v8 then (bnd (a5 + (1 : Int32)) (fun v9 => bnd (a6 + (1 : Int32)) (fun v11 => rec v9 v11))) else (bnd (a5 + (0 : Int32)) (fun v13 => bnd (a6 + (1 : Int32)) (fun v15 => rec v13 v15)))))
def lp_X11_inFront_4 (F : Nat)  (M : GM) : Nat → Int32 → Int32 → Option Int32
  | 0 => fun _ _ => none
  | f + 1 => fun a5 a6 => st_X11_inFront_4 F  (lp_X11_inFront_4 F  M f) a5 a6 M
set_option maxHeartbeats 4000000 in
set_option maxRecDepth 100000 in
theorem lw_X11_inFront_4 {x : GX} (X : GC x cX11_inFront 3 RX11 2)   {F : Nat} {M : GM} {r9 : Int32} (hE : ∀ (x1_9 : Int32), r9 = x1_9 → WG x M [(1, .int x1_9)] 39 []) : ∀ (f : Nat) (a5 : Int32) (a6 : Int32), lp_X11_inFront_4 F  M f a5 a6 = some r9 → WG x M [(0, .ref (gad (xz x) 122)), (1, .int a5), (2, .int a6)] 4 [] := by
  intro f
  induction f with
  | zero => intro a5 a6 h; cases h
  | succ f ih =>
    intro a5 a6 h
    have hrec := ih
    have h : st_X11_inFront_4 F  (lp_X11_inFront_4 F  M f) a5 a6 M = some r9 := h
    generalize lp_X11_inFront_4 F  M f = rec at h hrec
    unfold st_X11_inFront_4 at h
    refine g_iload_n X (j := 2) dX11_inFront_4 rfl rfl ?_
    refine g_aload_n X (j := 0) dX11_inFront_5 rfl rfl ?_
    refine gf_X11_75 X gT_c122 dX11_inFront_6 ?_
    refine g_icmp_ge X (tgt := 39) dX11_inFront_9 (by decide) (fun hb => ?_) (fun hb => ?_)
    · have h := ite_t hb h
      refine g_lv [1] rfl ?_
      exact hE a5 (Option.some.inj h).symm
    · have h := ite_f hb h
      refine g_iload_n X (j := 1) dX11_inFront_12 rfl rfl ?_
      refine g_aload_n X (j := 0) dX11_inFront_13 rfl rfl ?_
      refine g_iload_n X (j := 2) dX11_inFront_14 rfl rfl ?_
      refine g_iconst X (v := 2) dX11_inFront_15 (by decide) ?_
      obtain ⟨v8, hc7, h⟩ := bndO_e h
      refine gc_X11_109 X gT_c122 (ct_X11_seen X.htr  hc7) (by decide) (Nat.le_of_ble_eq_true rfl) dX11_inFront_16 ?_
      refine g_aload_n X (j := 0) dX11_inFront_19 rfl rfl ?_
      refine gf_X11_41 X gT_c122 dX11_inFront_20 ?_
      refine g_icmp_ge X (tgt := 30) dX11_inFront_23 (by decide) (fun hb => ?_) (fun hb => ?_)
      · have h := ite_t hb h
        refine g_iconst X (v := 1) dX11_inFront_30 (by decide) ?_
        refine g_iadd X dX11_inFront_31 ?_
        refine g_topi (fun v9 e10 => ?_)
        have h := bnd_e e10 h
        refine g_istore_n X (lv' := [(1, .int v9), (0, .ref (gad (xz x) 122)), (2, .int a6)]) dX11_inFront_32 rfl (by decide) rfl ?_
        refine g_iinc X (j := 2) (w := a6 + (1 : Int32)) (lv' := [(1, .int v9), (0, .ref (gad (xz x) 122))]) dX11_inFront_33 rfl (by rw [ii_1]) (by decide) (fun _ => rfl) (fun v11 e12 => ?_)
        have h := bnd_e e12 h
        refine g_goto X (tgt := 4) dX11_inFront_36 (by decide) ?_
        refine g_lv [2, 1, 0] rfl ?_
        exact hrec v9 v11 h
      · have h := ite_f hb h
        refine g_iconst X (v := 0) dX11_inFront_26 (by decide) ?_
        refine g_goto X (tgt := 31) dX11_inFront_27 (by decide) ?_
        refine g_iadd X dX11_inFront_31 ?_
        refine g_topi (fun v13 e14 => ?_)
        have h := bnd_e e14 h
        refine g_istore_n X (lv' := [(1, .int v13), (0, .ref (gad (xz x) 122)), (2, .int a6)]) dX11_inFront_32 rfl (by decide) rfl ?_
        refine g_iinc X (j := 2) (w := a6 + (1 : Int32)) (lv' := [(1, .int v13), (0, .ref (gad (xz x) 122))]) dX11_inFront_33 rfl (by rw [ii_1]) (by decide) (fun _ => rfl) (fun v15 e16 => ?_)
        have h := bnd_e e16 h
        refine g_goto X (tgt := 4) dX11_inFront_36 (by decide) ?_
        refine g_lv [2, 1, 0] rfl ?_
        exact hrec v13 v15 h
def f_X11_inFront (F : Nat) (M : GM) : Option Int32 := bnd (0 : Int32) (fun v1 => bnd (0 : Int32) (fun v3 => bndO (lp_X11_inFront_4 F  M F v1 v3) (fun v17 => some v17)))
set_option maxHeartbeats 4000000 in
set_option maxRecDepth 100000 in
theorem w_X11_inFront {x : GX} (X : GC x cX11_inFront 3 RX11 2)   {F : Nat} {M : GM} {r9 : Int32} (hR : ∀ (v9 : Int32) (lv9 : List (Nat × Value)) (pc9 : Nat), r9 = v9 → decode cX11_inFront pc9 = .ok (.ireturn, 1) → WG x M lv9 pc9 [.int v9]) (h : f_X11_inFront F M = some r9) : WG x M [(0, .ref (gad (xz x) 122))] 0 [] := by
  unfold f_X11_inFront at h
  refine g_iconst X (v := 0) dX11_inFront_0 (by decide) ?_
  refine g_topi (fun v1 e2 => ?_)
  have h := bnd_e e2 h
  refine g_istore_n X (lv' := [(1, .int v1), (0, .ref (gad (xz x) 122))]) dX11_inFront_1 rfl (by decide) rfl ?_
  refine g_iconst X (v := 0) dX11_inFront_2 (by decide) ?_
  refine g_topi (fun v3 e4 => ?_)
  have h := bnd_e e4 h
  refine g_istore_n X (lv' := [(2, .int v3), (1, .int v1), (0, .ref (gad (xz x) 122))]) dX11_inFront_3 rfl (by decide) rfl ?_
  refine g_lv [2, 1, 0] rfl ?_
  obtain ⟨v17, hl18, h⟩ := bndO_e h
  refine lw_X11_inFront_4 X  (fun v17_ e9 => ?_) F v1 v3 hl18
  cases e9
  refine g_iload_n X (j := 0) dX11_inFront_39 rfl rfl ?_
  exact hR v17 _ _ (Option.some.inj h).symm dX11_inFront_40
theorem ct_X11_inFront {l : Launch} {z : GZ} (htr : l.stackTraces = false)   {M : GM} {F : Nat} {v : Int32} (h : f_X11_inFront F M = some v) : gMet l z yX11_inFront cX11_inFront 3 (some .int) 2 [.ref (gad z 122)] M (some (.int v)) M := gMet_ofI (by decide +kernel) (Nat.le_of_ble_eq_true rfl) htr rfl (fun x X ez el hR => by subst ez; subst el; exact w_X11_inFront X  (fun v9 lv9 pc9 e9 d9 => by cases e9; exact hR lv9 pc9 d9) h)
theorem gc_X11_71 {x : GX} {cc : ByteArray} {nL d pc : Nat} {M : GM} {lv : List (Nat × Value)} {st : List Value} (X : GC x cc nL RX11 d)  {M1 : GM} {r : Int32} (ht : gT 122 = 11) (hM : gMet (xl x) (xz x) yX11_colour cX11_colour 1 (some .int) 2 [.ref (gad (xz x) 122)] M (some (.int r)) M1) (hd : 3 ≤ d) (hsum : (st.map fun v => v.category).sum ≤ 8) (dec : decode cc pc = .ok (.invokevirtual 71, 3)) (go : WG x M1 lv (pc + 3) (.int r :: st)) : WG x M lv pc (.ref (gad (xz x) 122) :: st) := g_callV X (n := 0) (As := []) (rest := st) hM ht (by decide) (gE_11 ht) rfl q_900 q_901 q_902 q_16 q_903 (by decide +kernel) rfl hd (by decide) rfl hsum dec go
theorem gc_X11_89 {x : GX} {cc : ByteArray} {nL d pc : Nat} {M : GM} {lv : List (Nat × Value)} {st : List Value} (X : GC x cc nL RX11 d) {i0 : Int32} {i1 : Int32} {i2 : Int32} {i3 : Int32} {M1 : GM} {r : Int32} (ht : gT 0 = 10) (hM : gMet (xl x) (xz x) yX10_setPattern cX10_setPattern 8 (some .int) 7 [.ref (gad (xz x) 0), .int i0, .int i1, .int i2, .int i3] M (some (.int r)) M1) (hd : 8 ≤ d) (hsum : (st.map fun v => v.category).sum ≤ 8) (dec : decode cc pc = .ok (.invokevirtual 89, 3)) (go : WG x M1 lv (pc + 3) (.int r :: st)) : WG x M lv pc (.int i3 :: .int i2 :: .int i1 :: .int i0 :: .ref (gad (xz x) 0) :: st) := g_callV X (n := 4) (As := [.int i0, .int i1, .int i2, .int i3]) (rest := st) hM ht (by decide) (gE_10 ht) rfl q_949 q_950 q_951 q_17 q_952 (by decide +kernel) rfl hd (by decide) rfl hsum dec go
theorem gx_X11_89 {x : GX} {cc : ByteArray} {nL d pc : Nat} {M : GM} {lv : List (Nat × Value)} {st : List Value} (X : GC x cc nL RX11 d) {i0 : Int32} {i1 : Int32} {i2 : Int32} {i3 : Int32} {M1 : GM} {n9 : Nat} (ht : gT 0 = 10) (hM : gMetX (xl x) (xz x) yX10_setPattern cX10_setPattern 8 (some .int) 7 [.ref (gad (xz x) 0), .int i0, .int i1, .int i2, .int i3] M n9 M1) (hd : 8 ≤ d) (hsum : (st.map fun v => v.category).sum ≤ 8) (dec : decode cc pc = .ok (.invokevirtual 89, 3)) (hT : GThr x n9 M1) : WG x M lv pc (.int i3 :: .int i2 :: .int i1 :: .int i0 :: .ref (gad (xz x) 0) :: st) := g_xV X (n := 4) (As := [.int i0, .int i1, .int i2, .int i3]) (rest := st) hM ht (by decide) (gE_10 ht) rfl q_949 q_950 q_951 q_17 q_952 (by decide +kernel) rfl hd (by decide) rfl hsum dec hT
theorem dX11_colourPattern_0 : decode cX11_colourPattern 0 = .ok (.aload_n 0, 1) := by decide +kernel
theorem dX11_colourPattern_1 : decode cX11_colourPattern 1 = .ok (.iconst 4, 1) := by decide +kernel
theorem dX11_colourPattern_2 : decode cX11_colourPattern 2 = .ok (.invokevirtual 64, 3) := by decide +kernel
theorem dX11_colourPattern_5 : decode cX11_colourPattern 5 = .ok (.istore_n 1, 1) := by decide +kernel
theorem dX11_colourPattern_6 : decode cX11_colourPattern 6 = .ok (.aload_n 0, 1) := by decide +kernel
theorem dX11_colourPattern_7 : decode cX11_colourPattern 7 = .ok (.bipush 64, 2) := by decide +kernel
theorem dX11_colourPattern_9 : decode cX11_colourPattern 9 = .ok (.invokevirtual 64, 3) := by decide +kernel
theorem dX11_colourPattern_12 : decode cX11_colourPattern 12 = .ok (.istore_n 2, 1) := by decide +kernel
theorem dX11_colourPattern_13 : decode cX11_colourPattern 13 = .ok (.aload_n 0, 1) := by decide +kernel
theorem dX11_colourPattern_14 : decode cX11_colourPattern 14 = .ok (.invokevirtual 71, 3) := by decide +kernel
theorem dX11_colourPattern_17 : decode cX11_colourPattern 17 = .ok (.istore_n 3, 1) := by decide +kernel
theorem dX11_colourPattern_18 : decode cX11_colourPattern 18 = .ok (.aload_n 0, 1) := by decide +kernel
theorem dX11_colourPattern_19 : decode cX11_colourPattern 19 = .ok (.getfield 34, 3) := by decide +kernel
theorem dX11_colourPattern_22 : decode cX11_colourPattern 22 = .ok (.iload_n 1, 1) := by decide +kernel
theorem dX11_colourPattern_23 : decode cX11_colourPattern 23 = .ok (.aaload, 1) := by decide +kernel
theorem dX11_colourPattern_24 : decode cX11_colourPattern 24 = .ok (.iload_n 2, 1) := by decide +kernel
theorem dX11_colourPattern_25 : decode cX11_colourPattern 25 = .ok (.iaload, 1) := by decide +kernel
theorem dX11_colourPattern_26 : decode cX11_colourPattern 26 = .ok (.istore 4, 2) := by decide +kernel
theorem dX11_colourPattern_28 : decode cX11_colourPattern 28 = .ok (.aload_n 0, 1) := by decide +kernel
theorem dX11_colourPattern_29 : decode cX11_colourPattern 29 = .ok (.getfield 34, 3) := by decide +kernel
theorem dX11_colourPattern_32 : decode cX11_colourPattern 32 = .ok (.iload_n 1, 1) := by decide +kernel
theorem dX11_colourPattern_33 : decode cX11_colourPattern 33 = .ok (.aaload, 1) := by decide +kernel
theorem dX11_colourPattern_34 : decode cX11_colourPattern 34 = .ok (.iload_n 2, 1) := by decide +kernel
theorem dX11_colourPattern_35 : decode cX11_colourPattern 35 = .ok (.iload_n 3, 1) := by decide +kernel
theorem dX11_colourPattern_36 : decode cX11_colourPattern 36 = .ok (.iastore, 1) := by decide +kernel
theorem dX11_colourPattern_37 : decode cX11_colourPattern 37 = .ok (.aload_n 0, 1) := by decide +kernel
theorem dX11_colourPattern_38 : decode cX11_colourPattern 38 = .ok (.getfield 10, 3) := by decide +kernel
theorem dX11_colourPattern_41 : decode cX11_colourPattern 41 = .ok (.iload_n 1, 1) := by decide +kernel
theorem dX11_colourPattern_42 : decode cX11_colourPattern 42 = .ok (.iload_n 2, 1) := by decide +kernel
theorem dX11_colourPattern_43 : decode cX11_colourPattern 43 = .ok (.bipush 8, 2) := by decide +kernel
theorem dX11_colourPattern_45 : decode cX11_colourPattern 45 = .ok (.irem, 1) := by decide +kernel
theorem dX11_colourPattern_46 : decode cX11_colourPattern 46 = .ok (.iload_n 2, 1) := by decide +kernel
theorem dX11_colourPattern_47 : decode cX11_colourPattern 47 = .ok (.bipush 8, 2) := by decide +kernel
theorem dX11_colourPattern_49 : decode cX11_colourPattern 49 = .ok (.idiv, 1) := by decide +kernel
theorem dX11_colourPattern_50 : decode cX11_colourPattern 50 = .ok (.iload_n 3, 1) := by decide +kernel
theorem dX11_colourPattern_51 : decode cX11_colourPattern 51 = .ok (.invokevirtual 89, 3) := by decide +kernel
theorem dX11_colourPattern_54 : decode cX11_colourPattern 54 = .ok (.iload 4, 2) := by decide +kernel
theorem dX11_colourPattern_56 : decode cX11_colourPattern 56 = .ok (.if_icmp .ne 7, 3) := by decide +kernel
theorem dX11_colourPattern_59 : decode cX11_colourPattern 59 = .ok (.iconst 1, 1) := by decide +kernel
theorem dX11_colourPattern_60 : decode cX11_colourPattern 60 = .ok (.goto 4, 3) := by decide +kernel
theorem dX11_colourPattern_63 : decode cX11_colourPattern 63 = .ok (.iconst 0, 1) := by decide +kernel
theorem dX11_colourPattern_64 : decode cX11_colourPattern 64 = .ok (.ireturn, 1) := by decide +kernel
def f_X11_colourPattern (F : Nat) (L9 : Nat) (xs9 : Nat → Int32) (M : GM) : Option (Int32 × GM) := bndO (f_X11_draw F L9 xs9 (4 : Int32) M) (fun (v2, M3) => bnd v2 (fun v4 => bndO (f_X11_draw F L9 xs9 (64 : Int32) M3) (fun (v7, M8) => bnd v7 (fun v9 => bndO (f_X11_colour F L9 xs9 M8) (fun (v12, M13) => bnd v12 (fun v14 => grd (gIn v4 (gN 127)) (bnd (gR 127 v4.toNatClampNeg) (fun o17 => grd (gIn v9 (gN o17)) (bnd (gI M13 o17 v9.toNatClampNeg) (fun v21 => grd (gIn v4 (gN 127)) (bnd (gR 127 v4.toNatClampNeg) (fun o24 => grd (gIn v9 (gN o24)) (bnd (sI M13 o24 v9.toNatClampNeg v14) (fun M28 => bndT (f_X10_setPattern F v4 (v9 - v9 / (8 : Int32) * (8 : Int32)) (v9 / (8 : Int32)) v14 M28) (fun _ => none) (fun (v31, M32) => if v31 = v21 then (some ((1 : Int32), M32)) else (some ((0 : Int32), M32)))))))))))))))))
set_option maxHeartbeats 4000000 in
set_option maxRecDepth 100000 in
theorem w_X11_colourPattern {x : GX} (X : GC x cX11_colourPattern 5 RX11 8)   {F : Nat} {L9 : Nat} {xs9 : Nat → Int32} {M : GM} {r9 : (Int32 × GM)} (hsc : gsl (xz x) = L9 ∧ gsx (xz x) = xs9) (hR : ∀ (v9 : Int32) (M9 : GM) (lv9 : List (Nat × Value)) (pc9 : Nat), r9 = (v9, M9) → (v9 = 0 ∨ v9 = 1) → decode cX11_colourPattern pc9 = .ok (.ireturn, 1) → WG x M9 lv9 pc9 [.int v9]) (h : f_X11_colourPattern F L9 xs9 M = some r9) : WG x M [(0, .ref (gad (xz x) 122))] 0 [] := by
  unfold f_X11_colourPattern at h
  refine g_aload_n X (j := 0) dX11_colourPattern_0 rfl rfl ?_
  refine g_iconst X (v := 4) dX11_colourPattern_1 (by decide) ?_
  obtain ⟨⟨v2, M3⟩, hc1, h⟩ := bndO_e h
  refine gc_X11_64 X gT_c122 (ct_X11_draw X.htr hsc hc1) (by decide) (Nat.le_of_ble_eq_true rfl) dX11_colourPattern_2 ?_
  refine g_topi (fun v4 e5 => ?_)
  have h := bnd_e e5 h
  refine g_istore_n X (lv' := [(1, .int v4), (0, .ref (gad (xz x) 122))]) dX11_colourPattern_5 rfl (by decide) rfl ?_
  refine g_aload_n X (j := 1) dX11_colourPattern_6 rfl rfl ?_
  refine g_bipush X (v := 64) dX11_colourPattern_7 (by decide) ?_
  obtain ⟨⟨v7, M8⟩, hc6, h⟩ := bndO_e h
  refine gc_X11_64 X gT_c122 (ct_X11_draw X.htr hsc hc6) (by decide) (Nat.le_of_ble_eq_true rfl) dX11_colourPattern_9 ?_
  refine g_topi (fun v9 e10 => ?_)
  have h := bnd_e e10 h
  refine g_istore_n X (lv' := [(2, .int v9), (1, .int v4), (0, .ref (gad (xz x) 122))]) dX11_colourPattern_12 rfl (by decide) rfl ?_
  refine g_aload_n X (j := 2) dX11_colourPattern_13 rfl rfl ?_
  obtain ⟨⟨v12, M13⟩, hc11, h⟩ := bndO_e h
  refine gc_X11_71 X gT_c122 (ct_X11_colour X.htr hsc hc11) (by decide) (Nat.le_of_ble_eq_true rfl) dX11_colourPattern_14 ?_
  refine g_topi (fun v14 e15 => ?_)
  have h := bnd_e e15 h
  refine g_istore_n X (lv' := [(3, .int v14), (2, .int v9), (1, .int v4), (0, .ref (gad (xz x) 122))]) dX11_colourPattern_17 rfl (by decide) rfl ?_
  refine g_aload_n X (j := 3) dX11_colourPattern_18 rfl rfl ?_
  refine gf_X11_34 X gT_c122 dX11_colourPattern_19 ?_
  refine g_iload_n X (j := 2) dX11_colourPattern_22 rfl rfl ?_
  obtain ⟨hg16, h⟩ := grd_e h
  refine g_aald_28 X gT_c127 hg16 dX11_colourPattern_23 ?_
  refine g_topr (fun o17 e18 => ?_)
  have h := bnd_e e18 h
  have k19 : gT o17 = 20 := by rw [e18]; exact gR_28 gT_c127 (gIn_lt hg16)
  refine g_iload_n X (j := 1) dX11_colourPattern_24 rfl rfl ?_
  obtain ⟨hg20, h⟩ := grd_e h
  refine g_iald X k19 hg20 dX11_colourPattern_25 ?_
  refine g_topi (fun v21 e22 => ?_)
  have h := bnd_e e22 h
  refine g_istore X (lv' := [(4, .int v21), (3, .int v14), (2, .int v9), (1, .int v4), (0, .ref (gad (xz x) 122))]) dX11_colourPattern_26 (by decide) rfl ?_
  refine g_aload_n X (j := 4) dX11_colourPattern_28 rfl rfl ?_
  refine gf_X11_34 X gT_c122 dX11_colourPattern_29 ?_
  refine g_iload_n X (j := 3) dX11_colourPattern_32 rfl rfl ?_
  obtain ⟨hg23, h⟩ := grd_e h
  refine g_aald_28 X gT_c127 hg23 dX11_colourPattern_33 ?_
  refine g_topr (fun o24 e25 => ?_)
  have h := bnd_e e25 h
  have k26 : gT o24 = 20 := by rw [e25]; exact gR_28 gT_c127 (gIn_lt hg23)
  refine g_iload_n X (j := 2) dX11_colourPattern_34 rfl rfl ?_
  refine g_iload_n X (j := 1) dX11_colourPattern_35 rfl rfl ?_
  obtain ⟨hg27, h⟩ := grd_e h
  refine g_iast X k26 hg27 dX11_colourPattern_36 ?_
  refine g_mem (fun M28 e29 => ?_)
  have h := bnd_e e29 h
  refine g_aload_n X (j := 4) dX11_colourPattern_37 rfl rfl ?_
  refine gf_X11_10 X gT_c122 dX11_colourPattern_38 ?_
  refine g_iload_n X (j := 3) dX11_colourPattern_41 rfl rfl ?_
  refine g_iload_n X (j := 2) dX11_colourPattern_42 rfl rfl ?_
  refine g_bipush X (v := 8) dX11_colourPattern_43 (by decide) ?_
  refine g_irem X dX11_colourPattern_45 (by decide) ?_
  refine g_iload_n X (j := 2) dX11_colourPattern_46 rfl rfl ?_
  refine g_bipush X (v := 8) dX11_colourPattern_47 (by decide) ?_
  refine g_idiv X dX11_colourPattern_49 (by decide) ?_
  refine g_iload_n X (j := 1) dX11_colourPattern_50 rfl rfl ?_
  rcases bndT_e h with ⟨_, hc30, h⟩ | ⟨⟨v31, M32⟩, hc30, h⟩
  · cases h
  refine gc_X11_89 X gT_c0 (ct_X10_setPattern X.htr  hc30) (by decide) (Nat.le_of_ble_eq_true rfl) dX11_colourPattern_51 ?_
  refine g_iload X (j := 0) dX11_colourPattern_54 rfl ?_
  refine g_icmp_ne X (tgt := 63) dX11_colourPattern_56 (by decide) (fun hb => ?_) (fun hb => ?_)
  · have h := ite_f hb h
    refine g_iconst X (v := 0) dX11_colourPattern_63 (by decide) ?_
    exact hR (0 : Int32) M32 _ _ (Option.some.inj h).symm (Or.inl rfl) dX11_colourPattern_64
  · have h := ite_t hb h
    refine g_iconst X (v := 1) dX11_colourPattern_59 (by decide) ?_
    refine g_goto X (tgt := 64) dX11_colourPattern_60 (by decide) ?_
    exact hR (1 : Int32) M32 _ _ (Option.some.inj h).symm (Or.inr rfl) dX11_colourPattern_64
theorem ct_X11_colourPattern {l : Launch} {z : GZ} (htr : l.stackTraces = false) {L9 : Nat} {xs9 : Nat → Int32} (hsc : gsl z = L9 ∧ gsx z = xs9)   {M : GM} {F : Nat} {v : Int32} {M1 : GM} (h : f_X11_colourPattern F L9 xs9 M = some (v, M1)) : gMet l z yX11_colourPattern cX11_colourPattern 5 (some .boolean) 8 [.ref (gad z 122)] M (some (.int v)) M1 := gMet_ofZ (by decide +kernel) (Nat.le_of_ble_eq_true rfl) htr (fun x X ez el hR => by subst ez; subst el; exact w_X11_colourPattern X  hsc (fun v9 M9 lv9 pc9 e9 z9 d9 => by cases e9; exact hR lv9 pc9 z9 d9) h)
theorem gc_X11_68 {x : GX} {cc : ByteArray} {nL d pc : Nat} {M : GM} {lv : List (Nat × Value)} {st : List Value} (X : GC x cc nL RX11 d) {i0 : Int32} {i1 : Int32} {M1 : GM} {r : Int32} (ht : gT 122 = 11) (hM : gMet (xl x) (xz x) yX11_between cX11_between 3 (some .int) 2 [.ref (gad (xz x) 122), .int i0, .int i1] M (some (.int r)) M1) (hd : 3 ≤ d) (hsum : (st.map fun v => v.category).sum ≤ 8) (dec : decode cc pc = .ok (.invokevirtual 68, 3)) (go : WG x M1 lv (pc + 3) (.int r :: st)) : WG x M lv pc (.int i1 :: .int i0 :: .ref (gad (xz x) 122) :: st) := g_callV X (n := 2) (As := [.int i0, .int i1]) (rest := st) hM ht (by decide) (gE_11 ht) rfl q_895 q_896 q_897 q_16 q_898 (by decide +kernel) rfl hd (by decide) rfl hsum dec go
theorem gc_X11_119 {x : GX} {cc : ByteArray} {nL d pc : Nat} {M : GM} {lv : List (Nat × Value)} {st : List Value} (X : GC x cc nL RX11 d) {i0 : Int32} {i1 : Int32} {M1 : GM} {r : Int32} (ht : gT 0 = 10) (hM : gMet (xl x) (xz x) yX10_setLens cX10_setLens 3 (some .int) 6 [.ref (gad (xz x) 0), .int i0, .int i1] M (some (.int r)) M1) (hd : 7 ≤ d) (hsum : (st.map fun v => v.category).sum ≤ 8) (dec : decode cc pc = .ok (.invokevirtual 119, 3)) (go : WG x M1 lv (pc + 3) (.int r :: st)) : WG x M lv pc (.int i1 :: .int i0 :: .ref (gad (xz x) 0) :: st) := g_callV X (n := 2) (As := [.int i0, .int i1]) (rest := st) hM ht (by decide) (gE_10 ht) rfl q_999 q_1000 q_1001 q_17 q_1002 (by decide +kernel) rfl hd (by decide) rfl hsum dec go
theorem gx_X11_119 {x : GX} {cc : ByteArray} {nL d pc : Nat} {M : GM} {lv : List (Nat × Value)} {st : List Value} (X : GC x cc nL RX11 d) {i0 : Int32} {i1 : Int32} {M1 : GM} {n9 : Nat} (ht : gT 0 = 10) (hM : gMetX (xl x) (xz x) yX10_setLens cX10_setLens 3 (some .int) 6 [.ref (gad (xz x) 0), .int i0, .int i1] M n9 M1) (hd : 7 ≤ d) (hsum : (st.map fun v => v.category).sum ≤ 8) (dec : decode cc pc = .ok (.invokevirtual 119, 3)) (hT : GThr x n9 M1) : WG x M lv pc (.int i1 :: .int i0 :: .ref (gad (xz x) 0) :: st) := g_xV X (n := 2) (As := [.int i0, .int i1]) (rest := st) hM ht (by decide) (gE_10 ht) rfl q_999 q_1000 q_1001 q_17 q_1002 (by decide +kernel) rfl hd (by decide) rfl hsum dec hT
theorem gc_X11_116 {x : GX} {cc : ByteArray} {nL d pc : Nat} {M : GM} {lv : List (Nat × Value)} {st : List Value} (X : GC x cc nL RX11 d)  {M1 : GM} {r : Int32} (ht : gT 122 = 11) (hM : gMet (xl x) (xz x) yX11_inFront cX11_inFront 3 (some .int) 2 [.ref (gad (xz x) 122)] M (some (.int r)) M1) (hd : 3 ≤ d) (hsum : (st.map fun v => v.category).sum ≤ 8) (dec : decode cc pc = .ok (.invokevirtual 116, 3)) (go : WG x M1 lv (pc + 3) (.int r :: st)) : WG x M lv pc (.ref (gad (xz x) 122) :: st) := g_callV X (n := 0) (As := []) (rest := st) hM ht (by decide) (gE_11 ht) rfl q_985 q_986 q_987 q_16 q_988 (by decide +kernel) rfl hd (by decide) rfl hsum dec go
theorem dX11_setLens_0 : decode cX11_setLens 0 = .ok (.aload_n 0, 1) := by decide +kernel
theorem dX11_setLens_1 : decode cX11_setLens 1 = .ok (.aload_n 0, 1) := by decide +kernel
theorem dX11_setLens_2 : decode cX11_setLens 2 = .ok (.bipush 20, 2) := by decide +kernel
theorem dX11_setLens_4 : decode cX11_setLens 4 = .ok (.sipush 300, 3) := by decide +kernel
theorem dX11_setLens_7 : decode cX11_setLens 7 = .ok (.invokevirtual 68, 3) := by decide +kernel
theorem dX11_setLens_10 : decode cX11_setLens 10 = .ok (.putfield 41, 3) := by decide +kernel
theorem dX11_setLens_13 : decode cX11_setLens 13 = .ok (.aload_n 0, 1) := by decide +kernel
theorem dX11_setLens_14 : decode cX11_setLens 14 = .ok (.aload_n 0, 1) := by decide +kernel
theorem dX11_setLens_15 : decode cX11_setLens 15 = .ok (.bipush 20, 2) := by decide +kernel
theorem dX11_setLens_17 : decode cX11_setLens 17 = .ok (.bipush 70, 2) := by decide +kernel
theorem dX11_setLens_19 : decode cX11_setLens 19 = .ok (.invokevirtual 68, 3) := by decide +kernel
theorem dX11_setLens_22 : decode cX11_setLens 22 = .ok (.putfield 45, 3) := by decide +kernel
theorem dX11_setLens_25 : decode cX11_setLens 25 = .ok (.aload_n 0, 1) := by decide +kernel
theorem dX11_setLens_26 : decode cX11_setLens 26 = .ok (.getfield 10, 3) := by decide +kernel
theorem dX11_setLens_29 : decode cX11_setLens 29 = .ok (.aload_n 0, 1) := by decide +kernel
theorem dX11_setLens_30 : decode cX11_setLens 30 = .ok (.getfield 41, 3) := by decide +kernel
theorem dX11_setLens_33 : decode cX11_setLens 33 = .ok (.aload_n 0, 1) := by decide +kernel
theorem dX11_setLens_34 : decode cX11_setLens 34 = .ok (.getfield 45, 3) := by decide +kernel
theorem dX11_setLens_37 : decode cX11_setLens 37 = .ok (.invokevirtual 119, 3) := by decide +kernel
theorem dX11_setLens_40 : decode cX11_setLens 40 = .ok (.aload_n 0, 1) := by decide +kernel
theorem dX11_setLens_41 : decode cX11_setLens 41 = .ok (.invokevirtual 116, 3) := by decide +kernel
theorem dX11_setLens_44 : decode cX11_setLens 44 = .ok (.if_icmp .ne 7, 3) := by decide +kernel
theorem dX11_setLens_47 : decode cX11_setLens 47 = .ok (.iconst 1, 1) := by decide +kernel
theorem dX11_setLens_48 : decode cX11_setLens 48 = .ok (.goto 4, 3) := by decide +kernel
theorem dX11_setLens_51 : decode cX11_setLens 51 = .ok (.iconst 0, 1) := by decide +kernel
theorem dX11_setLens_52 : decode cX11_setLens 52 = .ok (.ireturn, 1) := by decide +kernel
def f_X11_setLens (F : Nat) (L9 : Nat) (xs9 : Nat → Int32) (M : GM) : Option (Int32 × GM) := bndO (f_X11_between F L9 xs9 (20 : Int32) (300 : Int32) M) (fun (v2, M3) => bnd (sI M3 122 11 v2) (fun M4 => bndO (f_X11_between F L9 xs9 (20 : Int32) (70 : Int32) M4) (fun (v7, M8) => bnd (sI M8 122 12 v7) (fun M9 => bndT (f_X10_setLens F (gI M9 122 11) (gI M9 122 12) M9) (fun _ => none) (fun (v12, M13) => bndO (f_X11_inFront F M13) (fun v15 => if v12 = v15 then (some ((1 : Int32), M13)) else (some ((0 : Int32), M13))))))))
set_option maxHeartbeats 4000000 in
set_option maxRecDepth 100000 in
theorem w_X11_setLens {x : GX} (X : GC x cX11_setLens 1 RX11 7)   {F : Nat} {L9 : Nat} {xs9 : Nat → Int32} {M : GM} {r9 : (Int32 × GM)} (hsc : gsl (xz x) = L9 ∧ gsx (xz x) = xs9) (hR : ∀ (v9 : Int32) (M9 : GM) (lv9 : List (Nat × Value)) (pc9 : Nat), r9 = (v9, M9) → (v9 = 0 ∨ v9 = 1) → decode cX11_setLens pc9 = .ok (.ireturn, 1) → WG x M9 lv9 pc9 [.int v9]) (h : f_X11_setLens F L9 xs9 M = some r9) : WG x M [(0, .ref (gad (xz x) 122))] 0 [] := by
  unfold f_X11_setLens at h
  refine g_aload_n X (j := 0) dX11_setLens_0 rfl rfl ?_
  refine g_aload_n X (j := 0) dX11_setLens_1 rfl rfl ?_
  refine g_bipush X (v := 20) dX11_setLens_2 (by decide) ?_
  refine g_sipush X (v := 300) dX11_setLens_4 (by decide) ?_
  obtain ⟨⟨v2, M3⟩, hc1, h⟩ := bndO_e h
  refine gc_X11_68 X gT_c122 (ct_X11_between X.htr hsc hc1) (by decide) (Nat.le_of_ble_eq_true rfl) dX11_setLens_7 ?_
  refine gp_X11_41 X gT_c122 dX11_setLens_10 ?_
  refine g_mem (fun M4 e5 => ?_)
  have h := bnd_e e5 h
  refine g_aload_n X (j := 0) dX11_setLens_13 rfl rfl ?_
  refine g_aload_n X (j := 0) dX11_setLens_14 rfl rfl ?_
  refine g_bipush X (v := 20) dX11_setLens_15 (by decide) ?_
  refine g_bipush X (v := 70) dX11_setLens_17 (by decide) ?_
  obtain ⟨⟨v7, M8⟩, hc6, h⟩ := bndO_e h
  refine gc_X11_68 X gT_c122 (ct_X11_between X.htr hsc hc6) (by decide) (Nat.le_of_ble_eq_true rfl) dX11_setLens_19 ?_
  refine gp_X11_45 X gT_c122 dX11_setLens_22 ?_
  refine g_mem (fun M9 e10 => ?_)
  have h := bnd_e e10 h
  refine g_aload_n X (j := 0) dX11_setLens_25 rfl rfl ?_
  refine gf_X11_10 X gT_c122 dX11_setLens_26 ?_
  refine g_aload_n X (j := 0) dX11_setLens_29 rfl rfl ?_
  refine gf_X11_41 X gT_c122 dX11_setLens_30 ?_
  refine g_aload_n X (j := 0) dX11_setLens_33 rfl rfl ?_
  refine gf_X11_45 X gT_c122 dX11_setLens_34 ?_
  rcases bndT_e h with ⟨_, hc11, h⟩ | ⟨⟨v12, M13⟩, hc11, h⟩
  · cases h
  refine gc_X11_119 X gT_c0 (ct_X10_setLens X.htr  hc11) (by decide) (Nat.le_of_ble_eq_true rfl) dX11_setLens_37 ?_
  refine g_aload_n X (j := 0) dX11_setLens_40 rfl rfl ?_
  obtain ⟨v15, hc14, h⟩ := bndO_e h
  refine gc_X11_116 X gT_c122 (ct_X11_inFront X.htr  hc14) (by decide) (Nat.le_of_ble_eq_true rfl) dX11_setLens_41 ?_
  refine g_icmp_ne X (tgt := 51) dX11_setLens_44 (by decide) (fun hb => ?_) (fun hb => ?_)
  · have h := ite_f hb h
    refine g_iconst X (v := 0) dX11_setLens_51 (by decide) ?_
    exact hR (0 : Int32) M13 _ _ (Option.some.inj h).symm (Or.inl rfl) dX11_setLens_52
  · have h := ite_t hb h
    refine g_iconst X (v := 1) dX11_setLens_47 (by decide) ?_
    refine g_goto X (tgt := 52) dX11_setLens_48 (by decide) ?_
    exact hR (1 : Int32) M13 _ _ (Option.some.inj h).symm (Or.inr rfl) dX11_setLens_52
theorem ct_X11_setLens {l : Launch} {z : GZ} (htr : l.stackTraces = false) {L9 : Nat} {xs9 : Nat → Int32} (hsc : gsl z = L9 ∧ gsx z = xs9)   {M : GM} {F : Nat} {v : Int32} {M1 : GM} (h : f_X11_setLens F L9 xs9 M = some (v, M1)) : gMet l z yX11_setLens cX11_setLens 1 (some .boolean) 7 [.ref (gad z 122)] M (some (.int v)) M1 := gMet_ofZ (by decide +kernel) (Nat.le_of_ble_eq_true rfl) htr (fun x X ez el hR => by subst ez; subst el; exact w_X11_setLens X  hsc (fun v9 M9 lv9 pc9 e9 z9 d9 => by cases e9; exact hR lv9 pc9 z9 d9) h)
