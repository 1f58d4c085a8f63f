/-! 20.m -/
theorem gc_X11_150 {x : GX} {cc : ByteArray} {nL d pc : Nat} {M : GM} {lv : List (Nat × Value)} {st : List Value} (X : GC x cc nL RX11 d) {i0 : Int32} {M1 : GM} {r : Int32} (ht : gT 122 = 11) (hM : gMet (xl x) (xz x) yX11_isPane cX11_isPane 2 (some .boolean) 1 [.ref (gad (xz x) 122), .int i0] M (some (.int r)) M1) (hd : 2 ≤ d) (hsum : (st.map fun v => v.category).sum ≤ 8) (dec : decode cc pc = .ok (.invokevirtual 150, 3)) (go : WG x M1 lv (pc + 3) (.int r :: st)) : WG x M lv pc (.int i0 :: .ref (gad (xz x) 122) :: st) := g_callV X (n := 1) (As := [.int i0]) (rest := st) hM ht (by decide) (gE_11 ht) rfl q_1237 q_1239 q_19 q_63 q_1240 (by decide +kernel) rfl hd (by decide) rfl hsum dec go
theorem gc_X11_153 {x : GX} {cc : ByteArray} {nL d pc : Nat} {M : GM} {lv : List (Nat × Value)} {st : List Value} (X : GC x cc nL RX11 d) {i0 : Int32} {M1 : GM} {r : Int32} (ht : gT 122 = 11) (hM : gMet (xl x) (xz x) yX11_isNot cX11_isNot 2 (some .boolean) 0 [.ref (gad (xz x) 122), .int i0] M (some (.int r)) M1) (hd : 1 ≤ d) (hsum : (st.map fun v => v.category).sum ≤ 8) (dec : decode cc pc = .ok (.invokevirtual 153, 3)) (go : WG x M1 lv (pc + 3) (.int r :: st)) : WG x M lv pc (.int i0 :: .ref (gad (xz x) 122) :: st) := g_callV X (n := 1) (As := [.int i0]) (rest := st) hM ht (by decide) (gE_11 ht) rfl q_1241 q_1243 q_20 q_63 q_1244 (by decide +kernel) rfl hd (by decide) rfl hsum dec go
theorem dX11_show_0 : decode cX11_show 0 = .ok (.aload_n 0, 1) := by decide +kernel
theorem dX11_show_1 : decode cX11_show 1 = .ok (.iconst 0, 1) := by decide +kernel
theorem dX11_show_2 : decode cX11_show 2 = .ok (.putfield 114, 3) := by decide +kernel
theorem dX11_show_5 : decode cX11_show 5 = .ok (.aload_n 0, 1) := by decide +kernel
theorem dX11_show_6 : decode cX11_show 6 = .ok (.iload_n 1, 1) := by decide +kernel
theorem dX11_show_7 : decode cX11_show 7 = .ok (.invokevirtual 150, 3) := by decide +kernel
theorem dX11_show_10 : decode cX11_show 10 = .ok (.ifCond .ne 9, 3) := by decide +kernel
theorem dX11_show_13 : decode cX11_show 13 = .ok (.aload_n 0, 1) := by decide +kernel
theorem dX11_show_14 : decode cX11_show 14 = .ok (.iconst 1, 1) := by decide +kernel
theorem dX11_show_15 : decode cX11_show 15 = .ok (.invokevirtual 153, 3) := by decide +kernel
theorem dX11_show_18 : decode cX11_show 18 = .ok (.ireturn, 1) := by decide +kernel
theorem dX11_show_19 : decode cX11_show 19 = .ok (.aload_n 0, 1) := by decide +kernel
theorem dX11_show_20 : decode cX11_show 20 = .ok (.getfield 44, 3) := by decide +kernel
theorem dX11_show_23 : decode cX11_show 23 = .ok (.iload_n 1, 1) := by decide +kernel
theorem dX11_show_24 : decode cX11_show 24 = .ok (.baload, 1) := by decide +kernel
theorem dX11_show_25 : decode cX11_show 25 = .ok (.istore_n 3, 1) := by decide +kernel
theorem dX11_show_26 : decode cX11_show 26 = .ok (.aload_n 0, 1) := by decide +kernel
theorem dX11_show_27 : decode cX11_show 27 = .ok (.getfield 44, 3) := by decide +kernel
theorem dX11_show_30 : decode cX11_show 30 = .ok (.iload_n 1, 1) := by decide +kernel
theorem dX11_show_31 : decode cX11_show 31 = .ok (.iload_n 2, 1) := by decide +kernel
theorem dX11_show_32 : decode cX11_show 32 = .ok (.bastore, 1) := by decide +kernel
theorem dX11_show_33 : decode cX11_show 33 = .ok (.iload_n 3, 1) := by decide +kernel
theorem dX11_show_34 : decode cX11_show 34 = .ok (.ireturn, 1) := by decide +kernel
def f_X11_show (F : Nat) (i0 : Int32) (i1 : Int32) (M : GM) : Option (Int32 × GM) := bnd (sI M 122 0 (0 : Int32)) (fun M1 => if (f_X11_isPane i0 M1) = 0 then (bndO (f_X11_isNot F (1 : Int32) M1) (fun (v12, M13) => grd (gTf v12) (some (v12, M13)))) else (grd (gIn i0 (gN 134)) (bnd (gI M1 134 i0.toNatClampNeg) (fun v4 => grd (gIn i0 (gN 134)) (grd (gTf i1) (bnd (sI M1 134 i0.toNatClampNeg i1) (fun M8 => grd (gTf v4) (some (v4, M8)))))))))
set_option maxHeartbeats 4000000 in
set_option maxRecDepth 100000 in
theorem w_X11_show {x : GX} (X : GC x cX11_show 4 RX11 2) {i0 : Int32} {i1 : Int32}  {F : Nat} {M : GM} {r9 : (Int32 × GM)} (hR : ∀ (v9 : Int32) (M9 : GM) (lv9 : List (Nat × Value)) (pc9 : Nat), r9 = (v9, M9) → (v9 = 0 ∨ v9 = 1) → decode cX11_show pc9 = .ok (.ireturn, 1) → WG x M9 lv9 pc9 [.int v9]) (h : f_X11_show F i0 i1 M = some r9) : WG x M [(0, .ref (gad (xz x) 122)), (1, .int i0), (2, .int i1)] 0 [] := by
  unfold f_X11_show at h
  refine g_aload_n X (j := 0) dX11_show_0 rfl rfl ?_
  refine g_iconst X (v := 0) dX11_show_1 (by decide) ?_
  refine gp_X11_114 X gT_c122 dX11_show_2 ?_
  refine g_mem (fun M1 e2 => ?_)
  have h := bnd_e e2 h
  refine g_aload_n X (j := 0) dX11_show_5 rfl rfl ?_
  refine g_iload_n X (j := 1) dX11_show_6 rfl rfl ?_
  refine gc_X11_150 X gT_c122 (ct_X11_isPane X.htr ) (by decide) (Nat.le_of_ble_eq_true rfl) dX11_show_7 ?_
  refine g_if_ne X (tgt := 19) dX11_show_10 (by decide) (fun hb => ?_) (fun hb => ?_)
  · have h := ite_f hb h
    refine g_aload_n X (j := 0) dX11_show_19 rfl rfl ?_
    refine gf_X11_44 X gT_c122 dX11_show_20 ?_
    refine g_iload_n X (j := 1) dX11_show_23 rfl rfl ?_
    obtain ⟨hg3, h⟩ := grd_e h
    refine g_zald X gT_c134 hg3 dX11_show_24 ?_
    refine g_topi (fun v4 e5 => ?_)
    have h := bnd_e e5 h
    refine g_istore_n X (lv' := [(3, .int v4), (0, .ref (gad (xz x) 122)), (1, .int i0), (2, .int i1)]) dX11_show_25 rfl (by decide) rfl ?_
    refine g_aload_n X (j := 1) dX11_show_26 rfl rfl ?_
    refine gf_X11_44 X gT_c122 dX11_show_27 ?_
    refine g_iload_n X (j := 2) dX11_show_30 rfl rfl ?_
    refine g_iload_n X (j := 3) dX11_show_31 rfl rfl ?_
    obtain ⟨hg6, h⟩ := grd_e h
    obtain ⟨hg7, h⟩ := grd_e h
    refine g_zast X gT_c134 hg6 (gTf_of hg7) dX11_show_32 ?_
    refine g_mem (fun M8 e9 => ?_)
    have h := bnd_e e9 h
    refine g_iload_n X (j := 0) dX11_show_33 rfl rfl ?_
    obtain ⟨hg10, h⟩ := grd_e h
    exact hR v4 M8 _ _ (Option.some.inj h).symm (gTf_of hg10) dX11_show_34
  · have h := ite_t hb h
    refine g_aload_n X (j := 0) dX11_show_13 rfl rfl ?_
    refine g_iconst X (v := 1) dX11_show_14 (by decide) ?_
    obtain ⟨⟨v12, M13⟩, hc11, h⟩ := bndO_e h
    refine gc_X11_153 X gT_c122 (ct_X11_isNot X.htr  hc11) (by decide) (Nat.le_of_ble_eq_true rfl) dX11_show_15 ?_
    obtain ⟨hg14, h⟩ := grd_e h
    exact hR v12 M13 _ _ (Option.some.inj h).symm (gTf_of hg14) dX11_show_18
theorem ct_X11_show {l : Launch} {z : GZ} (htr : l.stackTraces = false) {i0 : Int32} {i1 : Int32}  {M : GM} {F : Nat} {v : Int32} {M1 : GM} (h : f_X11_show F i0 i1 M = some (v, M1)) : gMet l z yX11_show cX11_show 4 (some .boolean) 2 [.ref (gad z 122), .int i0, .int i1] M (some (.int v)) M1 := gMet_ofZ (by decide +kernel) (Nat.le_of_ble_eq_true rfl) htr (fun x X ez el hR => by subst ez; subst el; exact w_X11_show X  (fun v9 M9 lv9 pc9 e9 z9 d9 => by cases e9; exact hR lv9 pc9 z9 d9) h)
theorem dX11_isInPattern_0 : decode cX11_isInPattern 0 = .ok (.iload_n 0, 1) := by decide +kernel
theorem dX11_isInPattern_1 : decode cX11_isInPattern 1 = .ok (.iconst 0, 1) := by decide +kernel
theorem dX11_isInPattern_2 : decode cX11_isInPattern 2 = .ok (.iconst 3, 1) := by decide +kernel
theorem dX11_isInPattern_3 : decode cX11_isInPattern 3 = .ok (.invokestatic 118, 3) := by decide +kernel
theorem dX11_isInPattern_6 : decode cX11_isInPattern 6 = .ok (.ifCond .eq 27, 3) := by decide +kernel
theorem dX11_isInPattern_9 : decode cX11_isInPattern 9 = .ok (.iload_n 1, 1) := by decide +kernel
theorem dX11_isInPattern_10 : decode cX11_isInPattern 10 = .ok (.iconst 0, 1) := by decide +kernel
theorem dX11_isInPattern_11 : decode cX11_isInPattern 11 = .ok (.bipush 7, 2) := by decide +kernel
theorem dX11_isInPattern_13 : decode cX11_isInPattern 13 = .ok (.invokestatic 118, 3) := by decide +kernel
theorem dX11_isInPattern_16 : decode cX11_isInPattern 16 = .ok (.ifCond .eq 17, 3) := by decide +kernel
theorem dX11_isInPattern_19 : decode cX11_isInPattern 19 = .ok (.iload_n 2, 1) := by decide +kernel
theorem dX11_isInPattern_20 : decode cX11_isInPattern 20 = .ok (.iconst 0, 1) := by decide +kernel
theorem dX11_isInPattern_21 : decode cX11_isInPattern 21 = .ok (.bipush 7, 2) := by decide +kernel
theorem dX11_isInPattern_23 : decode cX11_isInPattern 23 = .ok (.invokestatic 118, 3) := by decide +kernel
theorem dX11_isInPattern_26 : decode cX11_isInPattern 26 = .ok (.ifCond .eq 7, 3) := by decide +kernel
theorem dX11_isInPattern_29 : decode cX11_isInPattern 29 = .ok (.iconst 1, 1) := by decide +kernel
theorem dX11_isInPattern_30 : decode cX11_isInPattern 30 = .ok (.goto 4, 3) := by decide +kernel
theorem dX11_isInPattern_33 : decode cX11_isInPattern 33 = .ok (.iconst 0, 1) := by decide +kernel
theorem dX11_isInPattern_34 : decode cX11_isInPattern 34 = .ok (.ireturn, 1) := by decide +kernel
def f_X11_isInPattern (i0 : Int32) (i1 : Int32) (i2 : Int32) : Int32 := if (f_X11_isIn i0 (0 : Int32) (3 : Int32)) = 0 then ((0 : Int32)) else (if (f_X11_isIn i1 (0 : Int32) (7 : Int32)) = 0 then ((0 : Int32)) else (if (f_X11_isIn i2 (0 : Int32) (7 : Int32)) = 0 then ((0 : Int32)) else ((1 : Int32))))
set_option maxHeartbeats 4000000 in
set_option maxRecDepth 100000 in
theorem w_X11_isInPattern {x : GX} (X : GC x cX11_isInPattern 3 RX11 1) {i0 : Int32} {i1 : Int32} {i2 : Int32}  {M : GM} {r9 : Int32} (hR : ∀ (v9 : Int32) (lv9 : List (Nat × Value)) (pc9 : Nat), r9 = v9 → (v9 = 0 ∨ v9 = 1) → decode cX11_isInPattern pc9 = .ok (.ireturn, 1) → WG x M lv9 pc9 [.int v9]) (h : f_X11_isInPattern i0 i1 i2 = r9) : WG x M [(0, .int i0), (1, .int i1), (2, .int i2)] 0 [] := by
  unfold f_X11_isInPattern at h
  refine g_iload_n X (j := 0) dX11_isInPattern_0 rfl rfl ?_
  refine g_iconst X (v := 0) dX11_isInPattern_1 (by decide) ?_
  refine g_iconst X (v := 3) dX11_isInPattern_2 (by decide) ?_
  refine gc_X11_118 X (ct_X11_isIn X.htr ) (by decide) (Nat.le_of_ble_eq_true rfl) dX11_isInPattern_3 ?_
  refine g_if_eq X (tgt := 33) dX11_isInPattern_6 (by decide) (fun hb => ?_) (fun hb => ?_)
  · have h := ite_t hb h
    refine g_iconst X (v := 0) dX11_isInPattern_33 (by decide) ?_
    exact hR (0 : Int32) _ _ h.symm (Or.inl rfl) dX11_isInPattern_34
  · have h := ite_f hb h
    refine g_iload_n X (j := 1) dX11_isInPattern_9 rfl rfl ?_
    refine g_iconst X (v := 0) dX11_isInPattern_10 (by decide) ?_
    refine g_bipush X (v := 7) dX11_isInPattern_11 (by decide) ?_
    refine gc_X11_118 X (ct_X11_isIn X.htr ) (by decide) (Nat.le_of_ble_eq_true rfl) dX11_isInPattern_13 ?_
    refine g_if_eq X (tgt := 33) dX11_isInPattern_16 (by decide) (fun hb => ?_) (fun hb => ?_)
    · have h := ite_t hb h
      refine g_iconst X (v := 0) dX11_isInPattern_33 (by decide) ?_
      exact hR (0 : Int32) _ _ h.symm (Or.inl rfl) dX11_isInPattern_34
    · have h := ite_f hb h
      refine g_iload_n X (j := 2) dX11_isInPattern_19 rfl rfl ?_
      refine g_iconst X (v := 0) dX11_isInPattern_20 (by decide) ?_
      refine g_bipush X (v := 7) dX11_isInPattern_21 (by decide) ?_
      refine gc_X11_118 X (ct_X11_isIn X.htr ) (by decide) (Nat.le_of_ble_eq_true rfl) dX11_isInPattern_23 ?_
      refine g_if_eq X (tgt := 33) dX11_isInPattern_26 (by decide) (fun hb => ?_) (fun hb => ?_)
      · have h := ite_t hb h
        refine g_iconst X (v := 0) dX11_isInPattern_33 (by decide) ?_
        exact hR (0 : Int32) _ _ h.symm (Or.inl rfl) dX11_isInPattern_34
      · have h := ite_f hb h
        refine g_iconst X (v := 1) dX11_isInPattern_29 (by decide) ?_
        refine g_goto X (tgt := 34) dX11_isInPattern_30 (by decide) ?_
        exact hR (1 : Int32) _ _ h.symm (Or.inr rfl) dX11_isInPattern_34
theorem ct_X11_isInPattern {l : Launch} {z : GZ} (htr : l.stackTraces = false) {i0 : Int32} {i1 : Int32} {i2 : Int32}  {M : GM} : gMet l z yX11_isInPattern cX11_isInPattern 3 (some .boolean) 1 [.int i0, .int i1, .int i2] M (some (.int (f_X11_isInPattern i0 i1 i2))) M := gMet_ofZ (by decide +kernel) (Nat.le_of_ble_eq_true rfl) htr (fun x X ez el hR => by subst ez; subst el; exact w_X11_isInPattern X  (fun v9 lv9 pc9 e9 z9 d9 => by cases e9; exact hR lv9 pc9 z9 d9) rfl)
theorem fz_X11_isInPattern (i0 : Int32) (i1 : Int32) (i2 : Int32) : f_X11_isInPattern i0 i1 i2 = 0 ∨ f_X11_isInPattern i0 i1 i2 = 1 := by
  unfold f_X11_isInPattern
  repeat' split
  all_goals first | exact Or.inl rfl | exact Or.inr rfl | exact fz_X11_isIn _ _ _
theorem gc_X11_156 {x : GX} {cc : ByteArray} {nL d pc : Nat} {M : GM} {lv : List (Nat × Value)} {st : List Value} (X : GC x cc nL RX11 d) {i0 : Int32} {i1 : Int32} {i2 : Int32} {M1 : GM} {r : Int32} (hM : gMet (xl x) (xz x) yX11_isInPattern cX11_isInPattern 3 (some .boolean) 1 [.int i0, .int i1, .int i2] M (some (.int r)) M1) (hd : 2 ≤ d) (hsum : (st.map fun v => v.category).sum ≤ 8) (dec : decode cc pc = .ok (.invokestatic 156, 3)) (go : WG x M1 lv (pc + 3) (.int r :: st)) : WG x M lv pc (.int i2 :: .int i1 :: .int i0 :: st) := g_callS X (n := 3) (As := [.int i0, .int i1, .int i2]) (rest := st) hM q_1249 q_1250 q_63 q_1251 (by decide +kernel) rfl hd (by decide) rfl hsum dec go
theorem dX11_setPattern_0 : decode cX11_setPattern 0 = .ok (.aload_n 0, 1) := by decide +kernel
theorem dX11_setPattern_1 : decode cX11_setPattern 1 = .ok (.iconst 0, 1) := by decide +kernel
theorem dX11_setPattern_2 : decode cX11_setPattern 2 = .ok (.putfield 114, 3) := by decide +kernel
theorem dX11_setPattern_5 : decode cX11_setPattern 5 = .ok (.iload_n 1, 1) := by decide +kernel
theorem dX11_setPattern_6 : decode cX11_setPattern 6 = .ok (.iload_n 2, 1) := by decide +kernel
theorem dX11_setPattern_7 : decode cX11_setPattern 7 = .ok (.iload_n 3, 1) := by decide +kernel
theorem dX11_setPattern_8 : decode cX11_setPattern 8 = .ok (.invokestatic 156, 3) := by decide +kernel
theorem dX11_setPattern_11 : decode cX11_setPattern 11 = .ok (.ifCond .ne 9, 3) := by decide +kernel
theorem dX11_setPattern_14 : decode cX11_setPattern 14 = .ok (.aload_n 0, 1) := by decide +kernel
theorem dX11_setPattern_15 : decode cX11_setPattern 15 = .ok (.iconst 1, 1) := by decide +kernel
theorem dX11_setPattern_16 : decode cX11_setPattern 16 = .ok (.invokevirtual 139, 3) := by decide +kernel
theorem dX11_setPattern_19 : decode cX11_setPattern 19 = .ok (.ireturn, 1) := by decide +kernel
theorem dX11_setPattern_20 : decode cX11_setPattern 20 = .ok (.iload 4, 2) := by decide +kernel
theorem dX11_setPattern_22 : decode cX11_setPattern 22 = .ok (.invokestatic 135, 3) := by decide +kernel
theorem dX11_setPattern_25 : decode cX11_setPattern 25 = .ok (.ifCond .ne 9, 3) := by decide +kernel
theorem dX11_setPattern_28 : decode cX11_setPattern 28 = .ok (.aload_n 0, 1) := by decide +kernel
theorem dX11_setPattern_29 : decode cX11_setPattern 29 = .ok (.iconst 2, 1) := by decide +kernel
theorem dX11_setPattern_30 : decode cX11_setPattern 30 = .ok (.invokevirtual 139, 3) := by decide +kernel
theorem dX11_setPattern_33 : decode cX11_setPattern 33 = .ok (.ireturn, 1) := by decide +kernel
theorem dX11_setPattern_34 : decode cX11_setPattern 34 = .ok (.iload_n 1, 1) := by decide +kernel
theorem dX11_setPattern_35 : decode cX11_setPattern 35 = .ok (.bipush 8, 2) := by decide +kernel
theorem dX11_setPattern_37 : decode cX11_setPattern 37 = .ok (.imul, 1) := by decide +kernel
theorem dX11_setPattern_38 : decode cX11_setPattern 38 = .ok (.iload_n 3, 1) := by decide +kernel
theorem dX11_setPattern_39 : decode cX11_setPattern 39 = .ok (.iadd, 1) := by decide +kernel
theorem dX11_setPattern_40 : decode cX11_setPattern 40 = .ok (.bipush 8, 2) := by decide +kernel
theorem dX11_setPattern_42 : decode cX11_setPattern 42 = .ok (.imul, 1) := by decide +kernel
theorem dX11_setPattern_43 : decode cX11_setPattern 43 = .ok (.iload_n 2, 1) := by decide +kernel
theorem dX11_setPattern_44 : decode cX11_setPattern 44 = .ok (.iadd, 1) := by decide +kernel
theorem dX11_setPattern_45 : decode cX11_setPattern 45 = .ok (.istore 5, 2) := by decide +kernel
theorem dX11_setPattern_47 : decode cX11_setPattern 47 = .ok (.aload_n 0, 1) := by decide +kernel
theorem dX11_setPattern_48 : decode cX11_setPattern 48 = .ok (.getfield 47, 3) := by decide +kernel
theorem dX11_setPattern_51 : decode cX11_setPattern 51 = .ok (.iload 5, 2) := by decide +kernel
theorem dX11_setPattern_53 : decode cX11_setPattern 53 = .ok (.iaload, 1) := by decide +kernel
theorem dX11_setPattern_54 : decode cX11_setPattern 54 = .ok (.istore 6, 2) := by decide +kernel
theorem dX11_setPattern_56 : decode cX11_setPattern 56 = .ok (.aload_n 0, 1) := by decide +kernel
theorem dX11_setPattern_57 : decode cX11_setPattern 57 = .ok (.getfield 47, 3) := by decide +kernel
theorem dX11_setPattern_60 : decode cX11_setPattern 60 = .ok (.iload 5, 2) := by decide +kernel
theorem dX11_setPattern_62 : decode cX11_setPattern 62 = .ok (.iload 4, 2) := by decide +kernel
theorem dX11_setPattern_64 : decode cX11_setPattern 64 = .ok (.iastore, 1) := by decide +kernel
theorem dX11_setPattern_65 : decode cX11_setPattern 65 = .ok (.iload 6, 2) := by decide +kernel
theorem dX11_setPattern_67 : decode cX11_setPattern 67 = .ok (.ireturn, 1) := by decide +kernel
def f_X11_setPattern (F : Nat) (i0 : Int32) (i1 : Int32) (i2 : Int32) (i3 : Int32) (M : GM) : Option (Int32 × GM) := bnd (sI M 122 0 (0 : Int32)) (fun M1 => if (f_X11_isInPattern i0 i1 i2) = 0 then (bndO (f_X11_no F (1 : Int32) M1) (fun (v15, M16) => some (v15, M16))) else (if (f_X11_isColour i3) = 0 then (bndO (f_X11_no F (2 : Int32) M1) (fun (v12, M13) => some (v12, M13))) else (bnd ((((i0 * (8 : Int32)) + i2) * (8 : Int32)) + i1) (fun v3 => grd (gIn v3 (gN 135)) (bnd (gI M1 135 v3.toNatClampNeg) (fun v6 => grd (gIn v3 (gN 135)) (bnd (sI M1 135 v3.toNatClampNeg i3) (fun M9 => some (v6, M9)))))))))
set_option maxHeartbeats 4000000 in
set_option maxRecDepth 100000 in
theorem w_X11_setPattern {x : GX} (X : GC x cX11_setPattern 7 RX11 2) {i0 : Int32} {i1 : Int32} {i2 : Int32} {i3 : Int32}  {F : Nat} {M : GM} {r9 : (Int32 × GM)} (hR : ∀ (v9 : Int32) (M9 : GM) (lv9 : List (Nat × Value)) (pc9 : Nat), r9 = (v9, M9) → decode cX11_setPattern pc9 = .ok (.ireturn, 1) → WG x M9 lv9 pc9 [.int v9]) (h : f_X11_setPattern F i0 i1 i2 i3 M = some r9) : WG x M [(0, .ref (gad (xz x) 122)), (1, .int i0), (2, .int i1), (3, .int i2), (4, .int i3)] 0 [] := by
  unfold f_X11_setPattern at h
  refine g_aload_n X (j := 0) dX11_setPattern_0 rfl rfl ?_
  refine g_iconst X (v := 0) dX11_setPattern_1 (by decide) ?_
  refine gp_X11_114 X gT_c122 dX11_setPattern_2 ?_
  refine g_mem (fun M1 e2 => ?_)
  have h := bnd_e e2 h
  refine g_iload_n X (j := 1) dX11_setPattern_5 rfl rfl ?_
  refine g_iload_n X (j := 2) dX11_setPattern_6 rfl rfl ?_
  refine g_iload_n X (j := 3) dX11_setPattern_7 rfl rfl ?_
  refine gc_X11_156 X (ct_X11_isInPattern X.htr ) (by decide) (Nat.le_of_ble_eq_true rfl) dX11_setPattern_8 ?_
  refine g_if_ne X (tgt := 20) dX11_setPattern_11 (by decide) (fun hb => ?_) (fun hb => ?_)
  · have h := ite_f hb h
    refine g_iload X (j := 4) dX11_setPattern_20 rfl ?_
    refine gc_X11_135 X (ct_X11_isColour X.htr ) (by decide) (Nat.le_of_ble_eq_true rfl) dX11_setPattern_22 ?_
    refine g_if_ne X (tgt := 34) dX11_setPattern_25 (by decide) (fun hb => ?_) (fun hb => ?_)
    · have h := ite_f hb h
      refine g_iload_n X (j := 1) dX11_setPattern_34 rfl rfl ?_
      refine g_bipush X (v := 8) dX11_setPattern_35 (by decide) ?_
      refine g_imul X dX11_setPattern_37 ?_
      refine g_iload_n X (j := 3) dX11_setPattern_38 rfl rfl ?_
      refine g_iadd X dX11_setPattern_39 ?_
      refine g_bipush X (v := 8) dX11_setPattern_40 (by decide) ?_
      refine g_imul X dX11_setPattern_42 ?_
      refine g_iload_n X (j := 2) dX11_setPattern_43 rfl rfl ?_
      refine g_iadd X dX11_setPattern_44 ?_
      refine g_topi (fun v3 e4 => ?_)
      have h := bnd_e e4 h
      refine g_istore X (lv' := [(5, .int v3), (0, .ref (gad (xz x) 122)), (1, .int i0), (2, .int i1), (3, .int i2), (4, .int i3)]) dX11_setPattern_45 (by decide) rfl ?_
      refine g_aload_n X (j := 1) dX11_setPattern_47 rfl rfl ?_
      refine gf_X11_47 X gT_c122 dX11_setPattern_48 ?_
      refine g_iload X (j := 0) dX11_setPattern_51 rfl ?_
      obtain ⟨hg5, h⟩ := grd_e h
      refine g_iald X gT_c135 hg5 dX11_setPattern_53 ?_
      refine g_topi (fun v6 e7 => ?_)
      have h := bnd_e e7 h
      refine g_istore X (lv' := [(6, .int v6), (5, .int v3), (0, .ref (gad (xz x) 122)), (1, .int i0), (2, .int i1), (3, .int i2), (4, .int i3)]) dX11_setPattern_54 (by decide) rfl ?_
      refine g_aload_n X (j := 2) dX11_setPattern_56 rfl rfl ?_
      refine gf_X11_47 X gT_c122 dX11_setPattern_57 ?_
      refine g_iload X (j := 1) dX11_setPattern_60 rfl ?_
      refine g_iload X (j := 6) dX11_setPattern_62 rfl ?_
      obtain ⟨hg8, h⟩ := grd_e h
      refine g_iast X gT_c135 hg8 dX11_setPattern_64 ?_
      refine g_mem (fun M9 e10 => ?_)
      have h := bnd_e e10 h
      refine g_iload X (j := 0) dX11_setPattern_65 rfl ?_
      exact hR v6 M9 _ _ (Option.some.inj h).symm dX11_setPattern_67
    · have h := ite_t hb h
      refine g_aload_n X (j := 0) dX11_setPattern_28 rfl rfl ?_
      refine g_iconst X (v := 2) dX11_setPattern_29 (by decide) ?_
      obtain ⟨⟨v12, M13⟩, hc11, h⟩ := bndO_e h
      refine gc_X11_139 X gT_c122 (ct_X11_no X.htr  hc11) (by decide) (Nat.le_of_ble_eq_true rfl) dX11_setPattern_30 ?_
      exact hR v12 M13 _ _ (Option.some.inj h).symm dX11_setPattern_33
  · have h := ite_t hb h
    refine g_aload_n X (j := 0) dX11_setPattern_14 rfl rfl ?_
    refine g_iconst X (v := 1) dX11_setPattern_15 (by decide) ?_
    obtain ⟨⟨v15, M16⟩, hc14, h⟩ := bndO_e h
    refine gc_X11_139 X gT_c122 (ct_X11_no X.htr  hc14) (by decide) (Nat.le_of_ble_eq_true rfl) dX11_setPattern_16 ?_
    exact hR v15 M16 _ _ (Option.some.inj h).symm dX11_setPattern_19
theorem ct_X11_setPattern {l : Launch} {z : GZ} (htr : l.stackTraces = false) {i0 : Int32} {i1 : Int32} {i2 : Int32} {i3 : Int32}  {M : GM} {F : Nat} {v : Int32} {M1 : GM} (h : f_X11_setPattern F i0 i1 i2 i3 M = some (v, M1)) : gMet l z yX11_setPattern cX11_setPattern 7 (some .int) 2 [.ref (gad z 122), .int i0, .int i1, .int i2, .int i3] M (some (.int v)) M1 := gMet_ofI (by decide +kernel) (Nat.le_of_ble_eq_true rfl) htr rfl (fun x X ez el hR => by subst ez; subst el; exact w_X11_setPattern X  (fun v9 M9 lv9 pc9 e9 d9 => by cases e9; exact hR lv9 pc9 d9) h)
theorem dX11_setRepeats_0 : decode cX11_setRepeats 0 = .ok (.aload_n 0, 1) := by decide +kernel
theorem dX11_setRepeats_1 : decode cX11_setRepeats 1 = .ok (.iconst 0, 1) := by decide +kernel
theorem dX11_setRepeats_2 : decode cX11_setRepeats 2 = .ok (.putfield 114, 3) := by decide +kernel
theorem dX11_setRepeats_5 : decode cX11_setRepeats 5 = .ok (.iload_n 1, 1) := by decide +kernel
theorem dX11_setRepeats_6 : decode cX11_setRepeats 6 = .ok (.iconst 0, 1) := by decide +kernel
theorem dX11_setRepeats_7 : decode cX11_setRepeats 7 = .ok (.iconst 3, 1) := by decide +kernel
theorem dX11_setRepeats_8 : decode cX11_setRepeats 8 = .ok (.invokestatic 118, 3) := by decide +kernel
theorem dX11_setRepeats_11 : decode cX11_setRepeats 11 = .ok (.ifCond .ne 9, 3) := by decide +kernel
theorem dX11_setRepeats_14 : decode cX11_setRepeats 14 = .ok (.aload_n 0, 1) := by decide +kernel
theorem dX11_setRepeats_15 : decode cX11_setRepeats 15 = .ok (.iconst 1, 1) := by decide +kernel
theorem dX11_setRepeats_16 : decode cX11_setRepeats 16 = .ok (.invokevirtual 153, 3) := by decide +kernel
theorem dX11_setRepeats_19 : decode cX11_setRepeats 19 = .ok (.ireturn, 1) := by decide +kernel
theorem dX11_setRepeats_20 : decode cX11_setRepeats 20 = .ok (.aload_n 0, 1) := by decide +kernel
theorem dX11_setRepeats_21 : decode cX11_setRepeats 21 = .ok (.getfield 50, 3) := by decide +kernel
theorem dX11_setRepeats_24 : decode cX11_setRepeats 24 = .ok (.iload_n 1, 1) := by decide +kernel
theorem dX11_setRepeats_25 : decode cX11_setRepeats 25 = .ok (.baload, 1) := by decide +kernel
theorem dX11_setRepeats_26 : decode cX11_setRepeats 26 = .ok (.istore_n 3, 1) := by decide +kernel
theorem dX11_setRepeats_27 : decode cX11_setRepeats 27 = .ok (.aload_n 0, 1) := by decide +kernel
theorem dX11_setRepeats_28 : decode cX11_setRepeats 28 = .ok (.getfield 50, 3) := by decide +kernel
theorem dX11_setRepeats_31 : decode cX11_setRepeats 31 = .ok (.iload_n 1, 1) := by decide +kernel
theorem dX11_setRepeats_32 : decode cX11_setRepeats 32 = .ok (.iload_n 2, 1) := by decide +kernel
theorem dX11_setRepeats_33 : decode cX11_setRepeats 33 = .ok (.bastore, 1) := by decide +kernel
theorem dX11_setRepeats_34 : decode cX11_setRepeats 34 = .ok (.iload_n 3, 1) := by decide +kernel
theorem dX11_setRepeats_35 : decode cX11_setRepeats 35 = .ok (.ireturn, 1) := by decide +kernel
def f_X11_setRepeats (F : Nat) (i0 : Int32) (i1 : Int32) (M : GM) : Option (Int32 × GM) := bnd (sI M 122 0 (0 : Int32)) (fun M1 => if (f_X11_isIn i0 (0 : Int32) (3 : Int32)) = 0 then (bndO (f_X11_isNot F (1 : Int32) M1) (fun (v12, M13) => grd (gTf v12) (some (v12, M13)))) else (grd (gIn i0 (gN 136)) (bnd (gI M1 136 i0.toNatClampNeg) (fun v4 => grd (gIn i0 (gN 136)) (grd (gTf i1) (bnd (sI M1 136 i0.toNatClampNeg i1) (fun M8 => grd (gTf v4) (some (v4, M8)))))))))
set_option maxHeartbeats 4000000 in
set_option maxRecDepth 100000 in
theorem w_X11_setRepeats {x : GX} (X : GC x cX11_setRepeats 4 RX11 1) {i0 : Int32} {i1 : Int32}  {F : Nat} {M : GM} {r9 : (Int32 × GM)} (hR : ∀ (v9 : Int32) (M9 : GM) (lv9 : List (Nat × Value)) (pc9 : Nat), r9 = (v9, M9) → (v9 = 0 ∨ v9 = 1) → decode cX11_setRepeats pc9 = .ok (.ireturn, 1) → WG x M9 lv9 pc9 [.int v9]) (h : f_X11_setRepeats F i0 i1 M = some r9) : WG x M [(0, .ref (gad (xz x) 122)), (1, .int i0), (2, .int i1)] 0 [] := by
  unfold f_X11_setRepeats at h
  refine g_aload_n X (j := 0) dX11_setRepeats_0 rfl rfl ?_
  refine g_iconst X (v := 0) dX11_setRepeats_1 (by decide) ?_
  refine gp_X11_114 X gT_c122 dX11_setRepeats_2 ?_
  refine g_mem (fun M1 e2 => ?_)
  have h := bnd_e e2 h
  refine g_iload_n X (j := 1) dX11_setRepeats_5 rfl rfl ?_
  refine g_iconst X (v := 0) dX11_setRepeats_6 (by decide) ?_
  refine g_iconst X (v := 3) dX11_setRepeats_7 (by decide) ?_
  refine gc_X11_118 X (ct_X11_isIn X.htr ) (by decide) (Nat.le_of_ble_eq_true rfl) dX11_setRepeats_8 ?_
  refine g_if_ne X (tgt := 20) dX11_setRepeats_11 (by decide) (fun hb => ?_) (fun hb => ?_)
  · have h := ite_f hb h
    refine g_aload_n X (j := 0) dX11_setRepeats_20 rfl rfl ?_
    refine gf_X11_50 X gT_c122 dX11_setRepeats_21 ?_
    refine g_iload_n X (j := 1) dX11_setRepeats_24 rfl rfl ?_
    obtain ⟨hg3, h⟩ := grd_e h
    refine g_zald X gT_c136 hg3 dX11_setRepeats_25 ?_
    refine g_topi (fun v4 e5 => ?_)
    have h := bnd_e e5 h
    refine g_istore_n X (lv' := [(3, .int v4), (0, .ref (gad (xz x) 122)), (1, .int i0), (2, .int i1)]) dX11_setRepeats_26 rfl (by decide) rfl ?_
    refine g_aload_n X (j := 1) dX11_setRepeats_27 rfl rfl ?_
    refine gf_X11_50 X gT_c122 dX11_setRepeats_28 ?_
    refine g_iload_n X (j := 2) dX11_setRepeats_31 rfl rfl ?_
    refine g_iload_n X (j := 3) dX11_setRepeats_32 rfl rfl ?_
    obtain ⟨hg6, h⟩ := grd_e h
    obtain ⟨hg7, h⟩ := grd_e h
    refine g_zast X gT_c136 hg6 (gTf_of hg7) dX11_setRepeats_33 ?_
    refine g_mem (fun M8 e9 => ?_)
    have h := bnd_e e9 h
    refine g_iload_n X (j := 0) dX11_setRepeats_34 rfl rfl ?_
    obtain ⟨hg10, h⟩ := grd_e h
    exact hR v4 M8 _ _ (Option.some.inj h).symm (gTf_of hg10) dX11_setRepeats_35
  · have h := ite_t hb h
    refine g_aload_n X (j := 0) dX11_setRepeats_14 rfl rfl ?_
    refine g_iconst X (v := 1) dX11_setRepeats_15 (by decide) ?_
    obtain ⟨⟨v12, M13⟩, hc11, h⟩ := bndO_e h
    refine gc_X11_153 X gT_c122 (ct_X11_isNot X.htr  hc11) (by decide) (Nat.le_of_ble_eq_true rfl) dX11_setRepeats_16 ?_
    obtain ⟨hg14, h⟩ := grd_e h
    exact hR v12 M13 _ _ (Option.some.inj h).symm (gTf_of hg14) dX11_setRepeats_19
theorem ct_X11_setRepeats {l : Launch} {z : GZ} (htr : l.stackTraces = false) {i0 : Int32} {i1 : Int32}  {M : GM} {F : Nat} {v : Int32} {M1 : GM} (h : f_X11_setRepeats F i0 i1 M = some (v, M1)) : gMet l z yX11_setRepeats cX11_setRepeats 4 (some .boolean) 1 [.ref (gad z 122), .int i0, .int i1] M (some (.int v)) M1 := gMet_ofZ (by decide +kernel) (Nat.le_of_ble_eq_true rfl) htr (fun x X ez el hR => by subst ez; subst el; exact w_X11_setRepeats X  (fun v9 M9 lv9 pc9 e9 z9 d9 => by cases e9; exact hR lv9 pc9 z9 d9) h)
theorem dX11_seenBy_0 : decode cX11_seenBy 0 = .ok (.iconst 0, 1) := by decide +kernel
theorem dX11_seenBy_1 : decode cX11_seenBy 1 = .ok (.istore_n 3, 1) := by decide +kernel
theorem dX11_seenBy_2 : decode cX11_seenBy 2 = .ok (.iconst 0, 1) := by decide +kernel
theorem dX11_seenBy_3 : decode cX11_seenBy 3 = .ok (.istore 4, 2) := by decide +kernel
theorem dX11_seenBy_5 : decode cX11_seenBy 5 = .ok (.iload 4, 2) := by decide +kernel
theorem dX11_seenBy_7 : decode cX11_seenBy 7 = .ok (.iconst 3, 1) := by decide +kernel
theorem dX11_seenBy_8 : decode cX11_seenBy 8 = .ok (.if_icmp .ge 33, 3) := by decide +kernel
theorem dX11_seenBy_11 : decode cX11_seenBy 11 = .ok (.iload_n 3, 1) := by decide +kernel
theorem dX11_seenBy_12 : decode cX11_seenBy 12 = .ok (.aload_n 0, 1) := by decide +kernel
theorem dX11_seenBy_13 : decode cX11_seenBy 13 = .ok (.getfield 53, 3) := by decide +kernel
theorem dX11_seenBy_16 : decode cX11_seenBy 16 = .ok (.iconst 4, 1) := by decide +kernel
theorem dX11_seenBy_17 : decode cX11_seenBy 17 = .ok (.iload_n 2, 1) := by decide +kernel
theorem dX11_seenBy_18 : decode cX11_seenBy 18 = .ok (.imul, 1) := by decide +kernel
theorem dX11_seenBy_19 : decode cX11_seenBy 19 = .ok (.iload 4, 2) := by decide +kernel
theorem dX11_seenBy_21 : decode cX11_seenBy 21 = .ok (.iadd, 1) := by decide +kernel
theorem dX11_seenBy_22 : decode cX11_seenBy 22 = .ok (.iaload, 1) := by decide +kernel
theorem dX11_seenBy_23 : decode cX11_seenBy 23 = .ok (.aload_n 0, 1) := by decide +kernel
theorem dX11_seenBy_24 : decode cX11_seenBy 24 = .ok (.getfield 18, 3) := by decide +kernel
theorem dX11_seenBy_27 : decode cX11_seenBy 27 = .ok (.iload 4, 2) := by decide +kernel
theorem dX11_seenBy_29 : decode cX11_seenBy 29 = .ok (.aaload, 1) := by decide +kernel
theorem dX11_seenBy_30 : decode cX11_seenBy 30 = .ok (.iload_n 1, 1) := by decide +kernel
theorem dX11_seenBy_31 : decode cX11_seenBy 31 = .ok (.iaload, 1) := by decide +kernel
theorem dX11_seenBy_32 : decode cX11_seenBy 32 = .ok (.imul, 1) := by decide +kernel
theorem dX11_seenBy_33 : decode cX11_seenBy 33 = .ok (.iadd, 1) := by decide +kernel
theorem dX11_seenBy_34 : decode cX11_seenBy 34 = .ok (.istore_n 3, 1) := by decide +kernel
theorem dX11_seenBy_35 : decode cX11_seenBy 35 = .ok (.iinc 4 1, 3) := by decide +kernel
theorem dX11_seenBy_38 : decode cX11_seenBy 38 = .ok (.goto (-33), 3) := by decide +kernel
theorem dX11_seenBy_41 : decode cX11_seenBy 41 = .ok (.iload_n 3, 1) := by decide +kernel
theorem dX11_seenBy_42 : decode cX11_seenBy 42 = .ok (.bipush 10, 2) := by decide +kernel
theorem dX11_seenBy_44 : decode cX11_seenBy 44 = .ok (.ishr, 1) := by decide +kernel
theorem dX11_seenBy_45 : decode cX11_seenBy 45 = .ok (.aload_n 0, 1) := by decide +kernel
theorem dX11_seenBy_46 : decode cX11_seenBy 46 = .ok (.getfield 53, 3) := by decide +kernel
theorem dX11_seenBy_49 : decode cX11_seenBy 49 = .ok (.iconst 4, 1) := by decide +kernel
theorem dX11_seenBy_50 : decode cX11_seenBy 50 = .ok (.iload_n 2, 1) := by decide +kernel
theorem dX11_seenBy_51 : decode cX11_seenBy 51 = .ok (.imul, 1) := by decide +kernel
theorem dX11_seenBy_52 : decode cX11_seenBy 52 = .ok (.iconst 3, 1) := by decide +kernel
theorem dX11_seenBy_53 : decode cX11_seenBy 53 = .ok (.iadd, 1) := by decide +kernel
theorem dX11_seenBy_54 : decode cX11_seenBy 54 = .ok (.iaload, 1) := by decide +kernel
theorem dX11_seenBy_55 : decode cX11_seenBy 55 = .ok (.iadd, 1) := by decide +kernel
theorem dX11_seenBy_56 : decode cX11_seenBy 56 = .ok (.ireturn, 1) := by decide +kernel
def st_X11_seenBy_5 (F : Nat) (a5 : Int32) (a6 : Int32) (rec : Int32 → Int32 → Option Int32) (a7 : Int32) (a8 : Int32) (M : GM) : Option Int32 := if (3 : Int32) ≤ a8 then (some a7) else (grd (gIn (((4 : Int32) * a6) + a8) (gN 137)) (grd (gIn a8 (gN 123)) (bnd (gR 123 a8.toNatClampNeg) (fun o11 => grd (gIn a5 (gN o11)) (bnd (a7 + ((gI M 137 ((((4 : Int32) * a6) + a8).toNatClampNeg)) * (gI M o11 a5.toNatClampNeg))) (fun v15 => bnd (a8 + (1 : Int32)) (fun v17 => rec v15 v17)))))))
def lp_X11_seenBy_5 (F : Nat) (a5 : Int32) (a6 : Int32) (M : GM) : Nat → Int32 → Int32 → Option Int32
  | 0 => fun _ _ => none
  | f + 1 => fun a7 a8 => st_X11_seenBy_5 F a5 a6 (lp_X11_seenBy_5 F a5 a6 M f) a7 a8 M
set_option maxHeartbeats 4000000 in
set_option maxRecDepth 100000 in
theorem lw_X11_seenBy_5 {x : GX} (X : GC x cX11_seenBy 5 RX11 0) {a5 : Int32} {a6 : Int32}  {F : Nat} {M : GM} {r9 : Int32} (hE : ∀ (x3_9 : Int32), r9 = x3_9 → WG x M [(0, .ref (gad (xz x) 122)), (2, .int a6), (3, .int x3_9)] 41 []) : ∀ (f : Nat) (a7 : Int32) (a8 : Int32), lp_X11_seenBy_5 F a5 a6 M f a7 a8 = some r9 → WG x M [(0, .ref (gad (xz x) 122)), (1, .int a5), (2, .int a6), (3, .int a7), (4, .int a8)] 5 [] := by
  intro f
  induction f with
  | zero => intro a7 a8 h; cases h
  | succ f ih =>
    intro a7 a8 h
    have hrec := ih
    have h : st_X11_seenBy_5 F a5 a6 (lp_X11_seenBy_5 F a5 a6 M f) a7 a8 M = some r9 := h
    generalize lp_X11_seenBy_5 F a5 a6 M f = rec at h hrec
    unfold st_X11_seenBy_5 at h
    refine g_iload X (j := 4) dX11_seenBy_5 rfl ?_
    refine g_iconst X (v := 3) dX11_seenBy_7 (by decide) ?_
    refine g_icmp_ge X (tgt := 41) dX11_seenBy_8 (by decide) (fun hb => ?_) (fun hb => ?_)
    · have h := ite_t hb h
      refine g_lv [0, 2, 3] rfl ?_
      exact hE a7 (Option.some.inj h).symm
    · have h := ite_f hb h
      refine g_iload_n X (j := 3) dX11_seenBy_11 rfl rfl ?_
      refine g_aload_n X (j := 0) dX11_seenBy_12 rfl rfl ?_
      refine gf_X11_53 X gT_c122 dX11_seenBy_13 ?_
      refine g_iconst X (v := 4) dX11_seenBy_16 (by decide) ?_
      refine g_iload_n X (j := 2) dX11_seenBy_17 rfl rfl ?_
      refine g_imul X dX11_seenBy_18 ?_
      refine g_iload X (j := 4) dX11_seenBy_19 rfl ?_
      refine g_iadd X dX11_seenBy_21 ?_
      obtain ⟨hg9, h⟩ := grd_e h
      refine g_iald X gT_c137 hg9 dX11_seenBy_22 ?_
      refine g_aload_n X (j := 0) dX11_seenBy_23 rfl rfl ?_
      refine gf_X11_18 X gT_c122 dX11_seenBy_24 ?_
      refine g_iload X (j := 4) dX11_seenBy_27 rfl ?_
      obtain ⟨hg10, h⟩ := grd_e h
      refine g_aald_28 X gT_c123 hg10 dX11_seenBy_29 ?_
      refine g_topr (fun o11 e12 => ?_)
      have h := bnd_e e12 h
      have k13 : gT o11 = 20 := by rw [e12]; exact gR_28 gT_c123 (gIn_lt hg10)
      refine g_iload_n X (j := 1) dX11_seenBy_30 rfl rfl ?_
      obtain ⟨hg14, h⟩ := grd_e h
      refine g_iald X k13 hg14 dX11_seenBy_31 ?_
      refine g_imul X dX11_seenBy_32 ?_
      refine g_iadd X dX11_seenBy_33 ?_
      refine g_topi (fun v15 e16 => ?_)
      have h := bnd_e e16 h
      refine g_istore_n X (lv' := [(3, .int v15), (0, .ref (gad (xz x) 122)), (1, .int a5), (2, .int a6), (4, .int a8)]) dX11_seenBy_34 rfl (by decide) rfl ?_
      refine g_iinc X (j := 4) (w := a8 + (1 : Int32)) (lv' := [(3, .int v15), (0, .ref (gad (xz x) 122)), (1, .int a5), (2, .int a6)]) dX11_seenBy_35 rfl (by rw [ii_1]) (by decide) (fun _ => rfl) (fun v17 e18 => ?_)
      have h := bnd_e e18 h
      refine g_goto X (tgt := 5) dX11_seenBy_38 (by decide) ?_
      refine g_lv [2, 3, 4, 1, 0] rfl ?_
      exact hrec v15 v17 h
def f_X11_seenBy (F : Nat) (i0 : Int32) (i1 : Int32) (M : GM) : Option Int32 := bnd (0 : Int32) (fun v1 => bnd (0 : Int32) (fun v3 => bndO (lp_X11_seenBy_5 F i0 i1 M F v1 v3) (fun v19 => grd (gIn (((4 : Int32) * i1) + (3 : Int32)) (gN 137)) (some ((v19 >>> ((10 : Int32) &&& 31)) + (gI M 137 ((((4 : Int32) * i1) + (3 : Int32)).toNatClampNeg)))))))
set_option maxHeartbeats 4000000 in
set_option maxRecDepth 100000 in
theorem w_X11_seenBy {x : GX} (X : GC x cX11_seenBy 5 RX11 0) {i0 : Int32} {i1 : Int32}  {F : Nat} {M : GM} {r9 : Int32} (hR : ∀ (v9 : Int32) (lv9 : List (Nat × Value)) (pc9 : Nat), r9 = v9 → decode cX11_seenBy pc9 = .ok (.ireturn, 1) → WG x M lv9 pc9 [.int v9]) (h : f_X11_seenBy F i0 i1 M = some r9) : WG x M [(0, .ref (gad (xz x) 122)), (1, .int i0), (2, .int i1)] 0 [] := by
  unfold f_X11_seenBy at h
  refine g_iconst X (v := 0) dX11_seenBy_0 (by decide) ?_
  refine g_topi (fun v1 e2 => ?_)
  have h := bnd_e e2 h
  refine g_istore_n X (lv' := [(3, .int v1), (0, .ref (gad (xz x) 122)), (1, .int i0), (2, .int i1)]) dX11_seenBy_1 rfl (by decide) rfl ?_
  refine g_iconst X (v := 0) dX11_seenBy_2 (by decide) ?_
  refine g_topi (fun v3 e4 => ?_)
  have h := bnd_e e4 h
  refine g_istore X (lv' := [(4, .int v3), (3, .int v1), (0, .ref (gad (xz x) 122)), (1, .int i0), (2, .int i1)]) dX11_seenBy_3 (by decide) rfl ?_
  refine g_lv [2, 3, 4, 1, 0] rfl ?_
  obtain ⟨v19, hl20, h⟩ := bndO_e h
  refine lw_X11_seenBy_5 X  (fun v19_ e9 => ?_) F v1 v3 hl20
  cases e9
  refine g_iload_n X (j := 2) dX11_seenBy_41 rfl rfl ?_
  refine g_bipush X (v := 10) dX11_seenBy_42 (by decide) ?_
  refine g_ishr X dX11_seenBy_44 ?_
  refine g_aload_n X (j := 0) dX11_seenBy_45 rfl rfl ?_
  refine gf_X11_53 X gT_c122 dX11_seenBy_46 ?_
  refine g_iconst X (v := 4) dX11_seenBy_49 (by decide) ?_
  refine g_iload_n X (j := 1) dX11_seenBy_50 rfl rfl ?_
  refine g_imul X dX11_seenBy_51 ?_
  refine g_iconst X (v := 3) dX11_seenBy_52 (by decide) ?_
  refine g_iadd X dX11_seenBy_53 ?_
  obtain ⟨hg21, h⟩ := grd_e h
  refine g_iald X gT_c137 hg21 dX11_seenBy_54 ?_
  refine g_iadd X dX11_seenBy_55 ?_
  exact hR ((v19 >>> ((10 : Int32) &&& 31)) + (gI M 137 ((((4 : Int32) * i1) + (3 : Int32)).toNatClampNeg))) _ _ (Option.some.inj h).symm dX11_seenBy_56
theorem ct_X11_seenBy {l : Launch} {z : GZ} (htr : l.stackTraces = false) {i0 : Int32} {i1 : Int32}  {M : GM} {F : Nat} {v : Int32} (h : f_X11_seenBy F i0 i1 M = some v) : gMet l z yX11_seenBy cX11_seenBy 5 (some .int) 0 [.ref (gad z 122), .int i0, .int i1] M (some (.int v)) M := gMet_ofI (by decide +kernel) (Nat.le_of_ble_eq_true rfl) htr rfl (fun x X ez el hR => by subst ez; subst el; exact w_X11_seenBy X  (fun v9 lv9 pc9 e9 d9 => by cases e9; exact hR lv9 pc9 d9) h)
theorem gc_X11_159 {x : GX} {cc : ByteArray} {nL d pc : Nat} {M : GM} {lv : List (Nat × Value)} {st : List Value} (X : GC x cc nL RX11 d) {i0 : Int32} {i1 : Int32} {M1 : GM} {r : Int32} (ht : gT 122 = 11) (hM : gMet (xl x) (xz x) yX11_seenBy cX11_seenBy 5 (some .int) 0 [.ref (gad (xz x) 122), .int i0, .int i1] M (some (.int r)) M1) (hd : 1 ≤ d) (hsum : (st.map fun v => v.category).sum ≤ 8) (dec : decode cc pc = .ok (.invokevirtual 159, 3)) (go : WG x M1 lv (pc + 3) (.int r :: st)) : WG x M lv pc (.int i1 :: .int i0 :: .ref (gad (xz x) 122) :: st) := g_callV X (n := 2) (As := [.int i0, .int i1]) (rest := st) hM ht (by decide) (gE_11 ht) rfl q_1264 q_1266 q_22 q_63 q_1267 (by decide +kernel) rfl hd (by decide) rfl hsum dec go
theorem dX11_inFront_0 : decode cX11_inFront 0 = .ok (.iconst 0, 1) := by decide +kernel
theorem dX11_inFront_1 : decode cX11_inFront 1 = .ok (.istore_n 1, 1) := by decide +kernel
theorem dX11_inFront_2 : decode cX11_inFront 2 = .ok (.iconst 0, 1) := by decide +kernel
theorem dX11_inFront_3 : decode cX11_inFront 3 = .ok (.istore_n 2, 1) := by decide +kernel
theorem dX11_inFront_4 : decode cX11_inFront 4 = .ok (.iload_n 2, 1) := by decide +kernel
theorem dX11_inFront_5 : decode cX11_inFront 5 = .ok (.aload_n 0, 1) := by decide +kernel
theorem dX11_inFront_6 : decode cX11_inFront 6 = .ok (.getfield 122, 3) := by decide +kernel
theorem dX11_inFront_9 : decode cX11_inFront 9 = .ok (.if_icmp .ge 30, 3) := by decide +kernel
theorem dX11_inFront_12 : decode cX11_inFront 12 = .ok (.iload_n 1, 1) := by decide +kernel
theorem dX11_inFront_13 : decode cX11_inFront 13 = .ok (.aload_n 0, 1) := by decide +kernel
theorem dX11_inFront_14 : decode cX11_inFront 14 = .ok (.iload_n 2, 1) := by decide +kernel
theorem dX11_inFront_15 : decode cX11_inFront 15 = .ok (.iconst 2, 1) := by decide +kernel
theorem dX11_inFront_16 : decode cX11_inFront 16 = .ok (.invokevirtual 159, 3) := by decide +kernel
theorem dX11_inFront_19 : decode cX11_inFront 19 = .ok (.aload_n 0, 1) := by decide +kernel
theorem dX11_inFront_20 : decode cX11_inFront 20 = .ok (.getfield 9, 3) := by decide +kernel
theorem dX11_inFront_23 : decode cX11_inFront 23 = .ok (.if_icmp .lt 7, 3) := by decide +kernel
theorem dX11_inFront_26 : decode cX11_inFront 26 = .ok (.iconst 1, 1) := by decide +kernel
theorem dX11_inFront_27 : decode cX11_inFront 27 = .ok (.goto 4, 3) := by decide +kernel
theorem dX11_inFront_30 : decode cX11_inFront 30 = .ok (.iconst 0, 1) := by decide +kernel
theorem dX11_inFront_31 : decode cX11_inFront 31 = .ok (.iadd, 1) := by decide +kernel
theorem dX11_inFront_32 : decode cX11_inFront 32 = .ok (.istore_n 1, 1) := by decide +kernel
theorem dX11_inFront_33 : decode cX11_inFront 33 = .ok (.iinc 2 1, 3) := by decide +kernel
theorem dX11_inFront_36 : decode cX11_inFront 36 = .ok (.goto (-32), 3) := by decide +kernel
theorem dX11_inFront_39 : decode cX11_inFront 39 = .ok (.iload_n 1, 1) := by decide +kernel
theorem dX11_inFront_40 : decode cX11_inFront 40 = .ok (.ireturn, 1) := by decide +kernel
def st_X11_inFront_4 (F : Nat)  (rec : Int32 → Int32 → Option Int32) (a5 : Int32) (a6 : Int32) (M : GM) : Option Int32 := if (gI M 122 1) ≤ a6 then (some a5) else (bndO (f_X11_seenBy F a6 (2 : Int32) M) (fun v8 => if v8 < (gI M 122 3) then (bnd (a5 + (0 : Int32)) (fun v9 => bnd (a6 + (1 : Int32)) (fun v11 => rec v9 v11))) else (bnd (a5 + (1 : Int32)) (fun v13 => bnd (a6 + (1 : Int32)) (fun v15 => rec v13 v15)))))
def lp_X11_inFront_4 (F : Nat)  (M : GM) : Nat → Int32 → Int32 → Option Int32
  | 0 => fun _ _ => none
  | f + 1 => fun a5 a6 => st_X11_inFront_4 F  (lp_X11_inFront_4 F  M f) a5 a6 M
set_option maxHeartbeats 4000000 in
set_option maxRecDepth 100000 in
theorem lw_X11_inFront_4 {x : GX} (X : GC x cX11_inFront 3 RX11 1)   {F : Nat} {M : GM} {r9 : Int32} (hE : ∀ (x1_9 : Int32), r9 = x1_9 → WG x M [(1, .int x1_9)] 39 []) : ∀ (f : Nat) (a5 : Int32) (a6 : Int32), lp_X11_inFront_4 F  M f a5 a6 = some r9 → WG x M [(0, .ref (gad (xz x) 122)), (1, .int a5), (2, .int a6)] 4 [] := by
  intro f
  induction f with
  | zero => intro a5 a6 h; cases h
  | succ f ih =>
    intro a5 a6 h
    have hrec := ih
    have h : st_X11_inFront_4 F  (lp_X11_inFront_4 F  M f) a5 a6 M = some r9 := h
    generalize lp_X11_inFront_4 F  M f = rec at h hrec
    unfold st_X11_inFront_4 at h
    refine g_iload_n X (j := 2) dX11_inFront_4 rfl rfl ?_
    refine g_aload_n X (j := 0) dX11_inFront_5 rfl rfl ?_
    refine gf_X11_122 X gT_c122 dX11_inFront_6 ?_
    refine g_icmp_ge X (tgt := 39) dX11_inFront_9 (by decide) (fun hb => ?_) (fun hb => ?_)
    · have h := ite_t hb h
      refine g_lv [1] rfl ?_
      exact hE a5 (Option.some.inj h).symm
    · have h := ite_f hb h
      refine g_iload_n X (j := 1) dX11_inFront_12 rfl rfl ?_
      refine g_aload_n X (j := 0) dX11_inFront_13 rfl rfl ?_
      refine g_iload_n X (j := 2) dX11_inFront_14 rfl rfl ?_
      refine g_iconst X (v := 2) dX11_inFront_15 (by decide) ?_
      obtain ⟨v8, hc7, h⟩ := bndO_e h
      refine gc_X11_159 X gT_c122 (ct_X11_seenBy X.htr  hc7) (by decide) (Nat.le_of_ble_eq_true rfl) dX11_inFront_16 ?_
      refine g_aload_n X (j := 0) dX11_inFront_19 rfl rfl ?_
      refine gf_X11_9 X gT_c122 dX11_inFront_20 ?_
      refine g_icmp_lt X (tgt := 30) dX11_inFront_23 (by decide) (fun hb => ?_) (fun hb => ?_)
      · have h := ite_t hb h
        refine g_iconst X (v := 0) dX11_inFront_30 (by decide) ?_
        refine g_iadd X dX11_inFront_31 ?_
        refine g_topi (fun v9 e10 => ?_)
        have h := bnd_e e10 h
        refine g_istore_n X (lv' := [(1, .int v9), (0, .ref (gad (xz x) 122)), (2, .int a6)]) dX11_inFront_32 rfl (by decide) rfl ?_
        refine g_iinc X (j := 2) (w := a6 + (1 : Int32)) (lv' := [(1, .int v9), (0, .ref (gad (xz x) 122))]) dX11_inFront_33 rfl (by rw [ii_1]) (by decide) (fun _ => rfl) (fun v11 e12 => ?_)
        have h := bnd_e e12 h
        refine g_goto X (tgt := 4) dX11_inFront_36 (by decide) ?_
        refine g_lv [2, 1, 0] rfl ?_
        exact hrec v9 v11 h
      · have h := ite_f hb h
        refine g_iconst X (v := 1) dX11_inFront_26 (by decide) ?_
        refine g_goto X (tgt := 31) dX11_inFront_27 (by decide) ?_
        refine g_iadd X dX11_inFront_31 ?_
        refine g_topi (fun v13 e14 => ?_)
        have h := bnd_e e14 h
        refine g_istore_n X (lv' := [(1, .int v13), (0, .ref (gad (xz x) 122)), (2, .int a6)]) dX11_inFront_32 rfl (by decide) rfl ?_
        refine g_iinc X (j := 2) (w := a6 + (1 : Int32)) (lv' := [(1, .int v13), (0, .ref (gad (xz x) 122))]) dX11_inFront_33 rfl (by rw [ii_1]) (by decide) (fun _ => rfl) (fun v15 e16 => ?_)
        have h := bnd_e e16 h
        refine g_goto X (tgt := 4) dX11_inFront_36 (by decide) ?_
        refine g_lv [2, 1, 0] rfl ?_
        exact hrec v13 v15 h
def f_X11_inFront (F : Nat) (M : GM) : Option Int32 := bnd (0 : Int32) (fun v1 => bnd (0 : Int32) (fun v3 => bndO (lp_X11_inFront_4 F  M F v1 v3) (fun v17 => some v17)))
set_option maxHeartbeats 4000000 in
set_option maxRecDepth 100000 in
theorem w_X11_inFront {x : GX} (X : GC x cX11_inFront 3 RX11 1)   {F : Nat} {M : GM} {r9 : Int32} (hR : ∀ (v9 : Int32) (lv9 : List (Nat × Value)) (pc9 : Nat), r9 = v9 → decode cX11_inFront pc9 = .ok (.ireturn, 1) → WG x M lv9 pc9 [.int v9]) (h : f_X11_inFront F M = some r9) : WG x M [(0, .ref (gad (xz x) 122))] 0 [] := by
  unfold f_X11_inFront at h
  refine g_iconst X (v := 0) dX11_inFront_0 (by decide) ?_
  refine g_topi (fun v1 e2 => ?_)
  have h := bnd_e e2 h
  refine g_istore_n X (lv' := [(1, .int v1), (0, .ref (gad (xz x) 122))]) dX11_inFront_1 rfl (by decide) rfl ?_
  refine g_iconst X (v := 0) dX11_inFront_2 (by decide) ?_
  refine g_topi (fun v3 e4 => ?_)
  have h := bnd_e e4 h
  refine g_istore_n X (lv' := [(2, .int v3), (1, .int v1), (0, .ref (gad (xz x) 122))]) dX11_inFront_3 rfl (by decide) rfl ?_
  refine g_lv [2, 1, 0] rfl ?_
  obtain ⟨v17, hl18, h⟩ := bndO_e h
  refine lw_X11_inFront_4 X  (fun v17_ e9 => ?_) F v1 v3 hl18
  cases e9
  refine g_iload_n X (j := 0) dX11_inFront_39 rfl rfl ?_
  exact hR v17 _ _ (Option.some.inj h).symm dX11_inFront_40
theorem ct_X11_inFront {l : Launch} {z : GZ} (htr : l.stackTraces = false)   {M : GM} {F : Nat} {v : Int32} (h : f_X11_inFront F M = some v) : gMet l z yX11_inFront cX11_inFront 3 (some .int) 1 [.ref (gad z 122)] M (some (.int v)) M := gMet_ofI (by decide +kernel) (Nat.le_of_ble_eq_true rfl) htr rfl (fun x X ez el hR => by subst ez; subst el; exact w_X11_inFront X  (fun v9 lv9 pc9 e9 d9 => by cases e9; exact hR lv9 pc9 d9) h)
theorem gc_X11_163 {x : GX} {cc : ByteArray} {nL d pc : Nat} {M : GM} {lv : List (Nat × Value)} {st : List Value} (X : GC x cc nL RX11 d)  {M1 : GM} {r : Int32} (ht : gT 122 = 11) (hM : gMet (xl x) (xz x) yX11_inFront cX11_inFront 3 (some .int) 1 [.ref (gad (xz x) 122)] M (some (.int r)) M1) (hd : 2 ≤ d) (hsum : (st.map fun v => v.category).sum ≤ 8) (dec : decode cc pc = .ok (.invokevirtual 163, 3)) (go : WG x M1 lv (pc + 3) (.int r :: st)) : WG x M lv pc (.ref (gad (xz x) 122) :: st) := g_callV X (n := 0) (As := []) (rest := st) hM ht (by decide) (gE_11 ht) rfl q_1260 q_1262 q_21 q_63 q_1263 (by decide +kernel) rfl hd (by decide) rfl hsum dec go
theorem dX11_setCamera_0 : decode cX11_setCamera 0 = .ok (.aload_n 0, 1) := by decide +kernel
theorem dX11_setCamera_1 : decode cX11_setCamera 1 = .ok (.iconst 0, 1) := by decide +kernel
theorem dX11_setCamera_2 : decode cX11_setCamera 2 = .ok (.putfield 114, 3) := by decide +kernel
theorem dX11_setCamera_5 : decode cX11_setCamera 5 = .ok (.iload_n 1, 1) := by decide +kernel
theorem dX11_setCamera_6 : decode cX11_setCamera 6 = .ok (.iconst 0, 1) := by decide +kernel
theorem dX11_setCamera_7 : decode cX11_setCamera 7 = .ok (.iconst 2, 1) := by decide +kernel
theorem dX11_setCamera_8 : decode cX11_setCamera 8 = .ok (.invokestatic 118, 3) := by decide +kernel
theorem dX11_setCamera_11 : decode cX11_setCamera 11 = .ok (.ifCond .ne 9, 3) := by decide +kernel
theorem dX11_setCamera_14 : decode cX11_setCamera 14 = .ok (.aload_n 0, 1) := by decide +kernel
theorem dX11_setCamera_15 : decode cX11_setCamera 15 = .ok (.iconst 1, 1) := by decide +kernel
theorem dX11_setCamera_16 : decode cX11_setCamera 16 = .ok (.invokevirtual 139, 3) := by decide +kernel
theorem dX11_setCamera_19 : decode cX11_setCamera 19 = .ok (.ireturn, 1) := by decide +kernel
theorem dX11_setCamera_20 : decode cX11_setCamera 20 = .ok (.iload_n 2, 1) := by decide +kernel
theorem dX11_setCamera_21 : decode cX11_setCamera 21 = .ok (.sipush (-4096), 3) := by decide +kernel
theorem dX11_setCamera_24 : decode cX11_setCamera 24 = .ok (.sipush 4096, 3) := by decide +kernel
theorem dX11_setCamera_27 : decode cX11_setCamera 27 = .ok (.invokestatic 118, 3) := by decide +kernel
theorem dX11_setCamera_30 : decode cX11_setCamera 30 = .ok (.ifCond .eq 44, 3) := by decide +kernel
theorem dX11_setCamera_33 : decode cX11_setCamera 33 = .ok (.iload_n 3, 1) := by decide +kernel
theorem dX11_setCamera_34 : decode cX11_setCamera 34 = .ok (.sipush (-4096), 3) := by decide +kernel
theorem dX11_setCamera_37 : decode cX11_setCamera 37 = .ok (.sipush 4096, 3) := by decide +kernel
theorem dX11_setCamera_40 : decode cX11_setCamera 40 = .ok (.invokestatic 118, 3) := by decide +kernel
theorem dX11_setCamera_43 : decode cX11_setCamera 43 = .ok (.ifCond .eq 31, 3) := by decide +kernel
theorem dX11_setCamera_46 : decode cX11_setCamera 46 = .ok (.iload 4, 2) := by decide +kernel
theorem dX11_setCamera_48 : decode cX11_setCamera 48 = .ok (.sipush (-4096), 3) := by decide +kernel
theorem dX11_setCamera_51 : decode cX11_setCamera 51 = .ok (.sipush 4096, 3) := by decide +kernel
theorem dX11_setCamera_54 : decode cX11_setCamera 54 = .ok (.invokestatic 118, 3) := by decide +kernel
theorem dX11_setCamera_57 : decode cX11_setCamera 57 = .ok (.ifCond .eq 17, 3) := by decide +kernel
theorem dX11_setCamera_60 : decode cX11_setCamera 60 = .ok (.iload 5, 2) := by decide +kernel
theorem dX11_setCamera_62 : decode cX11_setCamera 62 = .ok (.sipush (-5000), 3) := by decide +kernel
theorem dX11_setCamera_65 : decode cX11_setCamera 65 = .ok (.sipush 5000, 3) := by decide +kernel
theorem dX11_setCamera_68 : decode cX11_setCamera 68 = .ok (.invokestatic 118, 3) := by decide +kernel
theorem dX11_setCamera_71 : decode cX11_setCamera 71 = .ok (.ifCond .ne 9, 3) := by decide +kernel
theorem dX11_setCamera_74 : decode cX11_setCamera 74 = .ok (.aload_n 0, 1) := by decide +kernel
theorem dX11_setCamera_75 : decode cX11_setCamera 75 = .ok (.iconst 2, 1) := by decide +kernel
theorem dX11_setCamera_76 : decode cX11_setCamera 76 = .ok (.invokevirtual 139, 3) := by decide +kernel
theorem dX11_setCamera_79 : decode cX11_setCamera 79 = .ok (.ireturn, 1) := by decide +kernel
theorem dX11_setCamera_80 : decode cX11_setCamera 80 = .ok (.aload_n 0, 1) := by decide +kernel
theorem dX11_setCamera_81 : decode cX11_setCamera 81 = .ok (.getfield 53, 3) := by decide +kernel
theorem dX11_setCamera_84 : decode cX11_setCamera 84 = .ok (.iconst 4, 1) := by decide +kernel
theorem dX11_setCamera_85 : decode cX11_setCamera 85 = .ok (.iload_n 1, 1) := by decide +kernel
theorem dX11_setCamera_86 : decode cX11_setCamera 86 = .ok (.imul, 1) := by decide +kernel
theorem dX11_setCamera_87 : decode cX11_setCamera 87 = .ok (.iload_n 2, 1) := by decide +kernel
theorem dX11_setCamera_88 : decode cX11_setCamera 88 = .ok (.iastore, 1) := by decide +kernel
theorem dX11_setCamera_89 : decode cX11_setCamera 89 = .ok (.aload_n 0, 1) := by decide +kernel
theorem dX11_setCamera_90 : decode cX11_setCamera 90 = .ok (.getfield 53, 3) := by decide +kernel
theorem dX11_setCamera_93 : decode cX11_setCamera 93 = .ok (.iconst 4, 1) := by decide +kernel
theorem dX11_setCamera_94 : decode cX11_setCamera 94 = .ok (.iload_n 1, 1) := by decide +kernel
theorem dX11_setCamera_95 : decode cX11_setCamera 95 = .ok (.imul, 1) := by decide +kernel
theorem dX11_setCamera_96 : decode cX11_setCamera 96 = .ok (.iconst 1, 1) := by decide +kernel
theorem dX11_setCamera_97 : decode cX11_setCamera 97 = .ok (.iadd, 1) := by decide +kernel
theorem dX11_setCamera_98 : decode cX11_setCamera 98 = .ok (.iload_n 3, 1) := by decide +kernel
theorem dX11_setCamera_99 : decode cX11_setCamera 99 = .ok (.iastore, 1) := by decide +kernel
theorem dX11_setCamera_100 : decode cX11_setCamera 100 = .ok (.aload_n 0, 1) := by decide +kernel
theorem dX11_setCamera_101 : decode cX11_setCamera 101 = .ok (.getfield 53, 3) := by decide +kernel
theorem dX11_setCamera_104 : decode cX11_setCamera 104 = .ok (.iconst 4, 1) := by decide +kernel
theorem dX11_setCamera_105 : decode cX11_setCamera 105 = .ok (.iload_n 1, 1) := by decide +kernel
theorem dX11_setCamera_106 : decode cX11_setCamera 106 = .ok (.imul, 1) := by decide +kernel
theorem dX11_setCamera_107 : decode cX11_setCamera 107 = .ok (.iconst 2, 1) := by decide +kernel
theorem dX11_setCamera_108 : decode cX11_setCamera 108 = .ok (.iadd, 1) := by decide +kernel
theorem dX11_setCamera_109 : decode cX11_setCamera 109 = .ok (.iload 4, 2) := by decide +kernel
theorem dX11_setCamera_111 : decode cX11_setCamera 111 = .ok (.iastore, 1) := by decide +kernel
theorem dX11_setCamera_112 : decode cX11_setCamera 112 = .ok (.aload_n 0, 1) := by decide +kernel
theorem dX11_setCamera_113 : decode cX11_setCamera 113 = .ok (.getfield 53, 3) := by decide +kernel
theorem dX11_setCamera_116 : decode cX11_setCamera 116 = .ok (.iconst 4, 1) := by decide +kernel
theorem dX11_setCamera_117 : decode cX11_setCamera 117 = .ok (.iload_n 1, 1) := by decide +kernel
theorem dX11_setCamera_118 : decode cX11_setCamera 118 = .ok (.imul, 1) := by decide +kernel
theorem dX11_setCamera_119 : decode cX11_setCamera 119 = .ok (.iconst 3, 1) := by decide +kernel
theorem dX11_setCamera_120 : decode cX11_setCamera 120 = .ok (.iadd, 1) := by decide +kernel
theorem dX11_setCamera_121 : decode cX11_setCamera 121 = .ok (.iload 5, 2) := by decide +kernel
theorem dX11_setCamera_123 : decode cX11_setCamera 123 = .ok (.iastore, 1) := by decide +kernel
theorem dX11_setCamera_124 : decode cX11_setCamera 124 = .ok (.aload_n 0, 1) := by decide +kernel
theorem dX11_setCamera_125 : decode cX11_setCamera 125 = .ok (.invokevirtual 163, 3) := by decide +kernel
theorem dX11_setCamera_128 : decode cX11_setCamera 128 = .ok (.ireturn, 1) := by decide +kernel
def bk_X11_setCamera_74 (F : Nat) (M : GM) : Option (Int32 × GM) := bndO (f_X11_no F (2 : Int32) M) (fun (v4, M5) => some (v4, M5))
set_option maxHeartbeats 4000000 in
set_option maxRecDepth 100000 in
theorem bw_X11_setCamera_74 {x : GX} (X : GC x cX11_setCamera 6 RX11 2)    {F : Nat} {M : GM} {r9 : (Int32 × GM)} (hR : ∀ (v9 : Int32) (M9 : GM) (lv9 : List (Nat × Value)) (pc9 : Nat), r9 = (v9, M9) → decode cX11_setCamera pc9 = .ok (.ireturn, 1) → WG x M9 lv9 pc9 [.int v9]) (h : bk_X11_setCamera_74 F M = some r9) : WG x M [(0, .ref (gad (xz x) 122))] 74 [] := by
  unfold bk_X11_setCamera_74 at h
  refine g_aload_n X (j := 0) dX11_setCamera_74 rfl rfl ?_
  refine g_iconst X (v := 2) dX11_setCamera_75 (by decide) ?_
  obtain ⟨⟨v4, M5⟩, hc3, h⟩ := bndO_e h
  refine gc_X11_139 X gT_c122 (ct_X11_no X.htr  hc3) (by decide) (Nat.le_of_ble_eq_true rfl) dX11_setCamera_76 ?_
  exact hR v4 M5 _ _ (Option.some.inj h).symm dX11_setCamera_79
def f_X11_setCamera (F : Nat) (i0 : Int32) (i1 : Int32) (i2 : Int32) (i3 : Int32) (i4 : Int32) (M : GM) : Option (Int32 × GM) := bnd (sI M 122 0 (0 : Int32)) (fun M1 => if (f_X11_isIn i0 (0 : Int32) (2 : Int32)) = 0 then (bndO (f_X11_no F (1 : Int32) M1) (fun (v21, M22) => some (v21, M22))) else (if (f_X11_isIn i1 ((-4096) : Int32) (4096 : Int32)) = 0 then (bk_X11_setCamera_74 F M1) else (if (f_X11_isIn i2 ((-4096) : Int32) (4096 : Int32)) = 0 then (bk_X11_setCamera_74 F M1) else (if (f_X11_isIn i3 ((-4096) : Int32) (4096 : Int32)) = 0 then (bk_X11_setCamera_74 F M1) else (if (f_X11_isIn i4 ((-5000) : Int32) (5000 : Int32)) = 0 then (bk_X11_setCamera_74 F M1) else (grd (gIn ((4 : Int32) * i0) (gN 137)) (bnd (sI M1 137 (((4 : Int32) * i0).toNatClampNeg) i1) (fun M7 => grd (gIn (((4 : Int32) * i0) + (1 : Int32)) (gN 137)) (bnd (sI M7 137 ((((4 : Int32) * i0) + (1 : Int32)).toNatClampNeg) i2) (fun M10 => grd (gIn (((4 : Int32) * i0) + (2 : Int32)) (gN 137)) (bnd (sI M10 137 ((((4 : Int32) * i0) + (2 : Int32)).toNatClampNeg) i3) (fun M13 => grd (gIn (((4 : Int32) * i0) + (3 : Int32)) (gN 137)) (bnd (sI M13 137 ((((4 : Int32) * i0) + (3 : Int32)).toNatClampNeg) i4) (fun M16 => bndO (f_X11_inFront F M16) (fun v19 => some (v19, M16))))))))))))))))
set_option maxHeartbeats 4000000 in
set_option maxRecDepth 100000 in
theorem w_X11_setCamera {x : GX} (X : GC x cX11_setCamera 6 RX11 2) {i0 : Int32} {i1 : Int32} {i2 : Int32} {i3 : Int32} {i4 : Int32}  {F : Nat} {M : GM} {r9 : (Int32 × GM)} (hR : ∀ (v9 : Int32) (M9 : GM) (lv9 : List (Nat × Value)) (pc9 : Nat), r9 = (v9, M9) → decode cX11_setCamera pc9 = .ok (.ireturn, 1) → WG x M9 lv9 pc9 [.int v9]) (h : f_X11_setCamera F i0 i1 i2 i3 i4 M = some r9) : WG x M [(0, .ref (gad (xz x) 122)), (1, .int i0), (2, .int i1), (3, .int i2), (4, .int i3), (5, .int i4)] 0 [] := by
  unfold f_X11_setCamera at h
  refine g_aload_n X (j := 0) dX11_setCamera_0 rfl rfl ?_
  refine g_iconst X (v := 0) dX11_setCamera_1 (by decide) ?_
  refine gp_X11_114 X gT_c122 dX11_setCamera_2 ?_
  refine g_mem (fun M1 e2 => ?_)
  have h := bnd_e e2 h
  refine g_iload_n X (j := 1) dX11_setCamera_5 rfl rfl ?_
  refine g_iconst X (v := 0) dX11_setCamera_6 (by decide) ?_
  refine g_iconst X (v := 2) dX11_setCamera_7 (by decide) ?_
  refine gc_X11_118 X (ct_X11_isIn X.htr ) (by decide) (Nat.le_of_ble_eq_true rfl) dX11_setCamera_8 ?_
  refine g_if_ne X (tgt := 20) dX11_setCamera_11 (by decide) (fun hb => ?_) (fun hb => ?_)
  · have h := ite_f hb h
    refine g_iload_n X (j := 2) dX11_setCamera_20 rfl rfl ?_
    refine g_sipush X (v := (-4096)) dX11_setCamera_21 (by decide) ?_
    refine g_sipush X (v := 4096) dX11_setCamera_24 (by decide) ?_
    refine gc_X11_118 X (ct_X11_isIn X.htr ) (by decide) (Nat.le_of_ble_eq_true rfl) dX11_setCamera_27 ?_
    refine g_if_eq X (tgt := 74) dX11_setCamera_30 (by decide) (fun hb => ?_) (fun hb => ?_)
    · have h := ite_t hb h
      refine g_lv [0] rfl ?_
      exact bw_X11_setCamera_74 X  hR h
    · have h := ite_f hb h
      refine g_iload_n X (j := 3) dX11_setCamera_33 rfl rfl ?_
      refine g_sipush X (v := (-4096)) dX11_setCamera_34 (by decide) ?_
      refine g_sipush X (v := 4096) dX11_setCamera_37 (by decide) ?_
      refine gc_X11_118 X (ct_X11_isIn X.htr ) (by decide) (Nat.le_of_ble_eq_true rfl) dX11_setCamera_40 ?_
      refine g_if_eq X (tgt := 74) dX11_setCamera_43 (by decide) (fun hb => ?_) (fun hb => ?_)
      · have h := ite_t hb h
        refine g_lv [0] rfl ?_
        exact bw_X11_setCamera_74 X  hR h
      · have h := ite_f hb h
        refine g_iload X (j := 4) dX11_setCamera_46 rfl ?_
        refine g_sipush X (v := (-4096)) dX11_setCamera_48 (by decide) ?_
        refine g_sipush X (v := 4096) dX11_setCamera_51 (by decide) ?_
        refine gc_X11_118 X (ct_X11_isIn X.htr ) (by decide) (Nat.le_of_ble_eq_true rfl) dX11_setCamera_54 ?_
        refine g_if_eq X (tgt := 74) dX11_setCamera_57 (by decide) (fun hb => ?_) (fun hb => ?_)
        · have h := ite_t hb h
          refine g_lv [0] rfl ?_
          exact bw_X11_setCamera_74 X  hR h
        · have h := ite_f hb h
          refine g_iload X (j := 5) dX11_setCamera_60 rfl ?_
          refine g_sipush X (v := (-5000)) dX11_setCamera_62 (by decide) ?_
          refine g_sipush X (v := 5000) dX11_setCamera_65 (by decide) ?_
          refine gc_X11_118 X (ct_X11_isIn X.htr ) (by decide) (Nat.le_of_ble_eq_true rfl) dX11_setCamera_68 ?_
          refine g_if_ne X (tgt := 80) dX11_setCamera_71 (by decide) (fun hb => ?_) (fun hb => ?_)
          · have h := ite_f hb h
            refine g_aload_n X (j := 0) dX11_setCamera_80 rfl rfl ?_
            refine gf_X11_53 X gT_c122 dX11_setCamera_81 ?_
            refine g_iconst X (v := 4) dX11_setCamera_84 (by decide) ?_
            refine g_iload_n X (j := 1) dX11_setCamera_85 rfl rfl ?_
            refine g_imul X dX11_setCamera_86 ?_
            refine g_iload_n X (j := 2) dX11_setCamera_87 rfl rfl ?_
            obtain ⟨hg6, h⟩ := grd_e h
            refine g_iast X gT_c137 hg6 dX11_setCamera_88 ?_
            refine g_mem (fun M7 e8 => ?_)
            have h := bnd_e e8 h
            refine g_aload_n X (j := 0) dX11_setCamera_89 rfl rfl ?_
            refine gf_X11_53 X gT_c122 dX11_setCamera_90 ?_
            refine g_iconst X (v := 4) dX11_setCamera_93 (by decide) ?_
            refine g_iload_n X (j := 1) dX11_setCamera_94 rfl rfl ?_
            refine g_imul X dX11_setCamera_95 ?_
            refine g_iconst X (v := 1) dX11_setCamera_96 (by decide) ?_
            refine g_iadd X dX11_setCamera_97 ?_
            refine g_iload_n X (j := 3) dX11_setCamera_98 rfl rfl ?_
            obtain ⟨hg9, h⟩ := grd_e h
            refine g_iast X gT_c137 hg9 dX11_setCamera_99 ?_
            refine g_mem (fun M10 e11 => ?_)
            have h := bnd_e e11 h
            refine g_aload_n X (j := 0) dX11_setCamera_100 rfl rfl ?_
            refine gf_X11_53 X gT_c122 dX11_setCamera_101 ?_
            refine g_iconst X (v := 4) dX11_setCamera_104 (by decide) ?_
            refine g_iload_n X (j := 1) dX11_setCamera_105 rfl rfl ?_
            refine g_imul X dX11_setCamera_106 ?_
            refine g_iconst X (v := 2) dX11_setCamera_107 (by decide) ?_
            refine g_iadd X dX11_setCamera_108 ?_
            refine g_iload X (j := 4) dX11_setCamera_109 rfl ?_
            obtain ⟨hg12, h⟩ := grd_e h
            refine g_iast X gT_c137 hg12 dX11_setCamera_111 ?_
            refine g_mem (fun M13 e14 => ?_)
            have h := bnd_e e14 h
            refine g_aload_n X (j := 0) dX11_setCamera_112 rfl rfl ?_
            refine gf_X11_53 X gT_c122 dX11_setCamera_113 ?_
            refine g_iconst X (v := 4) dX11_setCamera_116 (by decide) ?_
            refine g_iload_n X (j := 1) dX11_setCamera_117 rfl rfl ?_
            refine g_imul X dX11_setCamera_118 ?_
            refine g_iconst X (v := 3) dX11_setCamera_119 (by decide) ?_
            refine g_iadd X dX11_setCamera_120 ?_
            refine g_iload X (j := 5) dX11_setCamera_121 rfl ?_
            obtain ⟨hg15, h⟩ := grd_e h
            refine g_iast X gT_c137 hg15 dX11_setCamera_123 ?_
            refine g_mem (fun M16 e17 => ?_)
            have h := bnd_e e17 h
            refine g_aload_n X (j := 0) dX11_setCamera_124 rfl rfl ?_
            obtain ⟨v19, hc18, h⟩ := bndO_e h
            refine gc_X11_163 X gT_c122 (ct_X11_inFront X.htr  hc18) (by decide) (Nat.le_of_ble_eq_true rfl) dX11_setCamera_125 ?_
            exact hR v19 M16 _ _ (Option.some.inj h).symm dX11_setCamera_128
          · have h := ite_t hb h
            refine g_lv [0] rfl ?_
            exact bw_X11_setCamera_74 X  hR h
  · have h := ite_t hb h
    refine g_aload_n X (j := 0) dX11_setCamera_14 rfl rfl ?_
    refine g_iconst X (v := 1) dX11_setCamera_15 (by decide) ?_
    obtain ⟨⟨v21, M22⟩, hc20, h⟩ := bndO_e h
    refine gc_X11_139 X gT_c122 (ct_X11_no X.htr  hc20) (by decide) (Nat.le_of_ble_eq_true rfl) dX11_setCamera_16 ?_
    exact hR v21 M22 _ _ (Option.some.inj h).symm dX11_setCamera_19
theorem ct_X11_setCamera {l : Launch} {z : GZ} (htr : l.stackTraces = false) {i0 : Int32} {i1 : Int32} {i2 : Int32} {i3 : Int32} {i4 : Int32}  {M : GM} {F : Nat} {v : Int32} {M1 : GM} (h : f_X11_setCamera F i0 i1 i2 i3 i4 M = some (v, M1)) : gMet l z yX11_setCamera cX11_setCamera 6 (some .int) 2 [.ref (gad z 122), .int i0, .int i1, .int i2, .int i3, .int i4] M (some (.int v)) M1 := gMet_ofI (by decide +kernel) (Nat.le_of_ble_eq_true rfl) htr rfl (fun x X ez el hR => by subst ez; subst el; exact w_X11_setCamera X  (fun v9 M9 lv9 pc9 e9 d9 => by cases e9; exact hR lv9 pc9 d9) h)
theorem dX11_setLens_0 : decode cX11_setLens 0 = .ok (.aload_n 0, 1) := by decide +kernel
theorem dX11_setLens_1 : decode cX11_setLens 1 = .ok (.iconst 0, 1) := by decide +kernel
theorem dX11_setLens_2 : decode cX11_setLens 2 = .ok (.putfield 114, 3) := by decide +kernel
theorem dX11_setLens_5 : decode cX11_setLens 5 = .ok (.iload_n 1, 1) := by decide +kernel
theorem dX11_setLens_6 : decode cX11_setLens 6 = .ok (.iconst 1, 1) := by decide +kernel
theorem dX11_setLens_7 : decode cX11_setLens 7 = .ok (.sipush 1000, 3) := by decide +kernel
theorem dX11_setLens_10 : decode cX11_setLens 10 = .ok (.invokestatic 118, 3) := by decide +kernel
theorem dX11_setLens_13 : decode cX11_setLens 13 = .ok (.ifCond .eq 14, 3) := by decide +kernel
theorem dX11_setLens_16 : decode cX11_setLens 16 = .ok (.iload_n 2, 1) := by decide +kernel
theorem dX11_setLens_17 : decode cX11_setLens 17 = .ok (.iconst 1, 1) := by decide +kernel
theorem dX11_setLens_18 : decode cX11_setLens 18 = .ok (.sipush 500, 3) := by decide +kernel
theorem dX11_setLens_21 : decode cX11_setLens 21 = .ok (.invokestatic 118, 3) := by decide +kernel
theorem dX11_setLens_24 : decode cX11_setLens 24 = .ok (.ifCond .ne 9, 3) := by decide +kernel
theorem dX11_setLens_27 : decode cX11_setLens 27 = .ok (.aload_n 0, 1) := by decide +kernel
theorem dX11_setLens_28 : decode cX11_setLens 28 = .ok (.iconst 1, 1) := by decide +kernel
theorem dX11_setLens_29 : decode cX11_setLens 29 = .ok (.invokevirtual 139, 3) := by decide +kernel
theorem dX11_setLens_32 : decode cX11_setLens 32 = .ok (.ireturn, 1) := by decide +kernel
theorem dX11_setLens_33 : decode cX11_setLens 33 = .ok (.aload_n 0, 1) := by decide +kernel
theorem dX11_setLens_34 : decode cX11_setLens 34 = .ok (.iload_n 1, 1) := by decide +kernel
theorem dX11_setLens_35 : decode cX11_setLens 35 = .ok (.putfield 9, 3) := by decide +kernel
theorem dX11_setLens_38 : decode cX11_setLens 38 = .ok (.aload_n 0, 1) := by decide +kernel
theorem dX11_setLens_39 : decode cX11_setLens 39 = .ok (.iload_n 2, 1) := by decide +kernel
theorem dX11_setLens_40 : decode cX11_setLens 40 = .ok (.putfield 13, 3) := by decide +kernel
theorem dX11_setLens_43 : decode cX11_setLens 43 = .ok (.aload_n 0, 1) := by decide +kernel
theorem dX11_setLens_44 : decode cX11_setLens 44 = .ok (.invokevirtual 163, 3) := by decide +kernel
theorem dX11_setLens_47 : decode cX11_setLens 47 = .ok (.ireturn, 1) := by decide +kernel
def bk_X11_setLens_27 (F : Nat) (M : GM) : Option (Int32 × GM) := bndO (f_X11_no F (1 : Int32) M) (fun (v4, M5) => some (v4, M5))
set_option maxHeartbeats 4000000 in
set_option maxRecDepth 100000 in
theorem bw_X11_setLens_27 {x : GX} (X : GC x cX11_setLens 3 RX11 2)    {F : Nat} {M : GM} {r9 : (Int32 × GM)} (hR : ∀ (v9 : Int32) (M9 : GM) (lv9 : List (Nat × Value)) (pc9 : Nat), r9 = (v9, M9) → decode cX11_setLens pc9 = .ok (.ireturn, 1) → WG x M9 lv9 pc9 [.int v9]) (h : bk_X11_setLens_27 F M = some r9) : WG x M [(0, .ref (gad (xz x) 122))] 27 [] := by
  unfold bk_X11_setLens_27 at h
  refine g_aload_n X (j := 0) dX11_setLens_27 rfl rfl ?_
  refine g_iconst X (v := 1) dX11_setLens_28 (by decide) ?_
  obtain ⟨⟨v4, M5⟩, hc3, h⟩ := bndO_e h
  refine gc_X11_139 X gT_c122 (ct_X11_no X.htr  hc3) (by decide) (Nat.le_of_ble_eq_true rfl) dX11_setLens_29 ?_
  exact hR v4 M5 _ _ (Option.some.inj h).symm dX11_setLens_32
def f_X11_setLens (F : Nat) (i0 : Int32) (i1 : Int32) (M : GM) : Option (Int32 × GM) := bnd (sI M 122 0 (0 : Int32)) (fun M1 => if (f_X11_isIn i0 (1 : Int32) (1000 : Int32)) = 0 then (bk_X11_setLens_27 F M1) else (if (f_X11_isIn i1 (1 : Int32) (500 : Int32)) = 0 then (bk_X11_setLens_27 F M1) else (bnd (sI M1 122 3 i0) (fun M6 => bnd (sI M6 122 4 i1) (fun M8 => bndO (f_X11_inFront F M8) (fun v11 => some (v11, M8)))))))
set_option maxHeartbeats 4000000 in
set_option maxRecDepth 100000 in
theorem w_X11_setLens {x : GX} (X : GC x cX11_setLens 3 RX11 2) {i0 : Int32} {i1 : Int32}  {F : Nat} {M : GM} {r9 : (Int32 × GM)} (hR : ∀ (v9 : Int32) (M9 : GM) (lv9 : List (Nat × Value)) (pc9 : Nat), r9 = (v9, M9) → decode cX11_setLens pc9 = .ok (.ireturn, 1) → WG x M9 lv9 pc9 [.int v9]) (h : f_X11_setLens F i0 i1 M = some r9) : WG x M [(0, .ref (gad (xz x) 122)), (1, .int i0), (2, .int i1)] 0 [] := by
  unfold f_X11_setLens at h
  refine g_aload_n X (j := 0) dX11_setLens_0 rfl rfl ?_
  refine g_iconst X (v := 0) dX11_setLens_1 (by decide) ?_
  refine gp_X11_114 X gT_c122 dX11_setLens_2 ?_
  refine g_mem (fun M1 e2 => ?_)
  have h := bnd_e e2 h
  refine g_iload_n X (j := 1) dX11_setLens_5 rfl rfl ?_
  refine g_iconst X (v := 1) dX11_setLens_6 (by decide) ?_
  refine g_sipush X (v := 1000) dX11_setLens_7 (by decide) ?_
  refine gc_X11_118 X (ct_X11_isIn X.htr ) (by decide) (Nat.le_of_ble_eq_true rfl) dX11_setLens_10 ?_
  refine g_if_eq X (tgt := 27) dX11_setLens_13 (by decide) (fun hb => ?_) (fun hb => ?_)
  · have h := ite_t hb h
    refine g_lv [0] rfl ?_
    exact bw_X11_setLens_27 X  hR h
  · have h := ite_f hb h
    refine g_iload_n X (j := 2) dX11_setLens_16 rfl rfl ?_
    refine g_iconst X (v := 1) dX11_setLens_17 (by decide) ?_
    refine g_sipush X (v := 500) dX11_setLens_18 (by decide) ?_
    refine gc_X11_118 X (ct_X11_isIn X.htr ) (by decide) (Nat.le_of_ble_eq_true rfl) dX11_setLens_21 ?_
    refine g_if_ne X (tgt := 33) dX11_setLens_24 (by decide) (fun hb => ?_) (fun hb => ?_)
    · have h := ite_f hb h
      refine g_aload_n X (j := 0) dX11_setLens_33 rfl rfl ?_
      refine g_iload_n X (j := 1) dX11_setLens_34 rfl rfl ?_
      refine gp_X11_9 X gT_c122 dX11_setLens_35 ?_
      refine g_mem (fun M6 e7 => ?_)
      have h := bnd_e e7 h
      refine g_aload_n X (j := 0) dX11_setLens_38 rfl rfl ?_
      refine g_iload_n X (j := 2) dX11_setLens_39 rfl rfl ?_
      refine gp_X11_13 X gT_c122 dX11_setLens_40 ?_
      refine g_mem (fun M8 e9 => ?_)
      have h := bnd_e e9 h
      refine g_aload_n X (j := 0) dX11_setLens_43 rfl rfl ?_
      obtain ⟨v11, hc10, h⟩ := bndO_e h
      refine gc_X11_163 X gT_c122 (ct_X11_inFront X.htr  hc10) (by decide) (Nat.le_of_ble_eq_true rfl) dX11_setLens_44 ?_
      exact hR v11 M8 _ _ (Option.some.inj h).symm dX11_setLens_47
    · have h := ite_t hb h
      refine g_lv [0] rfl ?_
      exact bw_X11_setLens_27 X  hR h
theorem ct_X11_setLens {l : Launch} {z : GZ} (htr : l.stackTraces = false) {i0 : Int32} {i1 : Int32}  {M : GM} {F : Nat} {v : Int32} {M1 : GM} (h : f_X11_setLens F i0 i1 M = some (v, M1)) : gMet l z yX11_setLens cX11_setLens 3 (some .int) 2 [.ref (gad z 122), .int i0, .int i1] M (some (.int v)) M1 := gMet_ofI (by decide +kernel) (Nat.le_of_ble_eq_true rfl) htr rfl (fun x X ez el hR => by subst ez; subst el; exact w_X11_setLens X  (fun v9 M9 lv9 pc9 e9 d9 => by cases e9; exact hR lv9 pc9 d9) h)
theorem dX11_setBackground_0 : decode cX11_setBackground 0 = .ok (.aload_n 0, 1) := by decide +kernel
theorem dX11_setBackground_1 : decode cX11_setBackground 1 = .ok (.iconst 0, 1) := by decide +kernel
theorem dX11_setBackground_2 : decode cX11_setBackground 2 = .ok (.putfield 114, 3) := by decide +kernel
theorem dX11_setBackground_5 : decode cX11_setBackground 5 = .ok (.iload_n 1, 1) := by decide +kernel
theorem dX11_setBackground_6 : decode cX11_setBackground 6 = .ok (.invokestatic 135, 3) := by decide +kernel
theorem dX11_setBackground_9 : decode cX11_setBackground 9 = .ok (.ifCond .ne 9, 3) := by decide +kernel
theorem dX11_setBackground_12 : decode cX11_setBackground 12 = .ok (.aload_n 0, 1) := by decide +kernel
theorem dX11_setBackground_13 : decode cX11_setBackground 13 = .ok (.iconst 1, 1) := by decide +kernel
theorem dX11_setBackground_14 : decode cX11_setBackground 14 = .ok (.invokevirtual 139, 3) := by decide +kernel
theorem dX11_setBackground_17 : decode cX11_setBackground 17 = .ok (.ireturn, 1) := by decide +kernel
theorem dX11_setBackground_18 : decode cX11_setBackground 18 = .ok (.aload_n 0, 1) := by decide +kernel
theorem dX11_setBackground_19 : decode cX11_setBackground 19 = .ok (.getfield 128, 3) := by decide +kernel
theorem dX11_setBackground_22 : decode cX11_setBackground 22 = .ok (.istore_n 2, 1) := by decide +kernel
theorem dX11_setBackground_23 : decode cX11_setBackground 23 = .ok (.aload_n 0, 1) := by decide +kernel
theorem dX11_setBackground_24 : decode cX11_setBackground 24 = .ok (.iload_n 1, 1) := by decide +kernel
theorem dX11_setBackground_25 : decode cX11_setBackground 25 = .ok (.putfield 128, 3) := by decide +kernel
theorem dX11_setBackground_28 : decode cX11_setBackground 28 = .ok (.iload_n 2, 1) := by decide +kernel
theorem dX11_setBackground_29 : decode cX11_setBackground 29 = .ok (.ireturn, 1) := by decide +kernel
def f_X11_setBackground (F : Nat) (i0 : Int32) (M : GM) : Option (Int32 × GM) := bnd (sI M 122 0 (0 : Int32)) (fun M1 => if (f_X11_isColour i0) = 0 then (bndO (f_X11_no F (1 : Int32) M1) (fun (v8, M9) => some (v8, M9))) else (bnd (gI M1 122 5) (fun v3 => bnd (sI M1 122 5 i0) (fun M5 => some (v3, M5)))))
set_option maxHeartbeats 4000000 in
set_option maxRecDepth 100000 in
theorem w_X11_setBackground {x : GX} (X : GC x cX11_setBackground 3 RX11 2) {i0 : Int32}  {F : Nat} {M : GM} {r9 : (Int32 × GM)} (hR : ∀ (v9 : Int32) (M9 : GM) (lv9 : List (Nat × Value)) (pc9 : Nat), r9 = (v9, M9) → decode cX11_setBackground pc9 = .ok (.ireturn, 1) → WG x M9 lv9 pc9 [.int v9]) (h : f_X11_setBackground F i0 M = some r9) : WG x M [(0, .ref (gad (xz x) 122)), (1, .int i0)] 0 [] := by
  unfold f_X11_setBackground at h
  refine g_aload_n X (j := 0) dX11_setBackground_0 rfl rfl ?_
  refine g_iconst X (v := 0) dX11_setBackground_1 (by decide) ?_
  refine gp_X11_114 X gT_c122 dX11_setBackground_2 ?_
  refine g_mem (fun M1 e2 => ?_)
  have h := bnd_e e2 h
  refine g_iload_n X (j := 1) dX11_setBackground_5 rfl rfl ?_
  refine gc_X11_135 X (ct_X11_isColour X.htr ) (by decide) (Nat.le_of_ble_eq_true rfl) dX11_setBackground_6 ?_
  refine g_if_ne X (tgt := 18) dX11_setBackground_9 (by decide) (fun hb => ?_) (fun hb => ?_)
  · have h := ite_f hb h
    refine g_aload_n X (j := 0) dX11_setBackground_18 rfl rfl ?_
    refine gf_X11_128 X gT_c122 dX11_setBackground_19 ?_
    refine g_topi (fun v3 e4 => ?_)
    have h := bnd_e e4 h
    refine g_istore_n X (lv' := [(2, .int v3), (0, .ref (gad (xz x) 122)), (1, .int i0)]) dX11_setBackground_22 rfl (by decide) rfl ?_
    refine g_aload_n X (j := 1) dX11_setBackground_23 rfl rfl ?_
    refine g_iload_n X (j := 2) dX11_setBackground_24 rfl rfl ?_
    refine gp_X11_128 X gT_c122 dX11_setBackground_25 ?_
    refine g_mem (fun M5 e6 => ?_)
    have h := bnd_e e6 h
    refine g_iload_n X (j := 0) dX11_setBackground_28 rfl rfl ?_
    exact hR v3 M5 _ _ (Option.some.inj h).symm dX11_setBackground_29
  · have h := ite_t hb h
    refine g_aload_n X (j := 0) dX11_setBackground_12 rfl rfl ?_
    refine g_iconst X (v := 1) dX11_setBackground_13 (by decide) ?_
    obtain ⟨⟨v8, M9⟩, hc7, h⟩ := bndO_e h
    refine gc_X11_139 X gT_c122 (ct_X11_no X.htr  hc7) (by decide) (Nat.le_of_ble_eq_true rfl) dX11_setBackground_14 ?_
    exact hR v8 M9 _ _ (Option.some.inj h).symm dX11_setBackground_17
theorem ct_X11_setBackground {l : Launch} {z : GZ} (htr : l.stackTraces = false) {i0 : Int32}  {M : GM} {F : Nat} {v : Int32} {M1 : GM} (h : f_X11_setBackground F i0 M = some (v, M1)) : gMet l z yX11_setBackground cX11_setBackground 3 (some .int) 2 [.ref (gad z 122), .int i0] M (some (.int v)) M1 := gMet_ofI (by decide +kernel) (Nat.le_of_ble_eq_true rfl) htr rfl (fun x X ez el hR => by subst ez; subst el; exact w_X11_setBackground X  (fun v9 M9 lv9 pc9 e9 d9 => by cases e9; exact hR lv9 pc9 d9) h)
theorem gc_X11_167 {x : GX} {cc : ByteArray} {nL d pc : Nat} {M : GM} {lv : List (Nat × Value)} {st : List Value} (X : GC x cc nL RX11 d) {i0 : Int32} {M1 : GM} {r : Int32} (ht : gT 122 = 11) (hM : gMet (xl x) (xz x) yX11_ok cX11_ok 2 (some .int) 0 [.ref (gad (xz x) 122), .int i0] M (some (.int r)) M1) (hd : 1 ≤ d) (hsum : (st.map fun v => v.category).sum ≤ 8) (dec : decode cc pc = .ok (.invokevirtual 167, 3)) (go : WG x M1 lv (pc + 3) (.int r :: st)) : WG x M lv pc (.int i0 :: .ref (gad (xz x) 122) :: st) := g_callV X (n := 1) (As := [.int i0]) (rest := st) hM ht (by decide) (gE_11 ht) rfl q_1280 q_1282 q_23 q_63 q_1283 (by decide +kernel) rfl hd (by decide) rfl hsum dec go
theorem dX11_corners_0 : decode cX11_corners 0 = .ok (.aload_n 0, 1) := by decide +kernel
theorem dX11_corners_1 : decode cX11_corners 1 = .ok (.aload_n 0, 1) := by decide +kernel
theorem dX11_corners_2 : decode cX11_corners 2 = .ok (.getfield 122, 3) := by decide +kernel
theorem dX11_corners_5 : decode cX11_corners 5 = .ok (.invokevirtual 167, 3) := by decide +kernel
theorem dX11_corners_8 : decode cX11_corners 8 = .ok (.ireturn, 1) := by decide +kernel
def f_X11_corners (F : Nat) (M : GM) : Option (Int32 × GM) := bndO (f_X11_ok F (gI M 122 1) M) (fun (v2, M3) => some (v2, M3))
set_option maxHeartbeats 4000000 in
set_option maxRecDepth 100000 in
theorem w_X11_corners {x : GX} (X : GC x cX11_corners 1 RX11 1)   {F : Nat} {M : GM} {r9 : (Int32 × GM)} (hR : ∀ (v9 : Int32) (M9 : GM) (lv9 : List (Nat × Value)) (pc9 : Nat), r9 = (v9, M9) → decode cX11_corners pc9 = .ok (.ireturn, 1) → WG x M9 lv9 pc9 [.int v9]) (h : f_X11_corners F M = some r9) : WG x M [(0, .ref (gad (xz x) 122))] 0 [] := by
  unfold f_X11_corners at h
  refine g_aload_n X (j := 0) dX11_corners_0 rfl rfl ?_
  refine g_aload_n X (j := 0) dX11_corners_1 rfl rfl ?_
  refine gf_X11_122 X gT_c122 dX11_corners_2 ?_
  obtain ⟨⟨v2, M3⟩, hc1, h⟩ := bndO_e h
  refine gc_X11_167 X gT_c122 (ct_X11_ok X.htr  hc1) (by decide) (Nat.le_of_ble_eq_true rfl) dX11_corners_5 ?_
  exact hR v2 M3 _ _ (Option.some.inj h).symm dX11_corners_8
theorem ct_X11_corners {l : Launch} {z : GZ} (htr : l.stackTraces = false)   {M : GM} {F : Nat} {v : Int32} {M1 : GM} (h : f_X11_corners F M = some (v, M1)) : gMet l z yX11_corners cX11_corners 1 (some .int) 1 [.ref (gad z 122)] M (some (.int v)) M1 := gMet_ofI (by decide +kernel) (Nat.le_of_ble_eq_true rfl) htr rfl (fun x X ez el hR => by subst ez; subst el; exact w_X11_corners X  (fun v9 M9 lv9 pc9 e9 d9 => by cases e9; exact hR lv9 pc9 d9) h)
theorem dX11_panes_0 : decode cX11_panes 0 = .ok (.aload_n 0, 1) := by decide +kernel
theorem dX11_panes_1 : decode cX11_panes 1 = .ok (.aload_n 0, 1) := by decide +kernel
theorem dX11_panes_2 : decode cX11_panes 2 = .ok (.getfield 125, 3) := by decide +kernel
theorem dX11_panes_5 : decode cX11_panes 5 = .ok (.invokevirtual 167, 3) := by decide +kernel
theorem dX11_panes_8 : decode cX11_panes 8 = .ok (.ireturn, 1) := by decide +kernel
def f_X11_panes (F : Nat) (M : GM) : Option (Int32 × GM) := bndO (f_X11_ok F (gI M 122 2) M) (fun (v2, M3) => some (v2, M3))
set_option maxHeartbeats 4000000 in
set_option maxRecDepth 100000 in
theorem w_X11_panes {x : GX} (X : GC x cX11_panes 1 RX11 1)   {F : Nat} {M : GM} {r9 : (Int32 × GM)} (hR : ∀ (v9 : Int32) (M9 : GM) (lv9 : List (Nat × Value)) (pc9 : Nat), r9 = (v9, M9) → decode cX11_panes pc9 = .ok (.ireturn, 1) → WG x M9 lv9 pc9 [.int v9]) (h : f_X11_panes F M = some r9) : WG x M [(0, .ref (gad (xz x) 122))] 0 [] := by
  unfold f_X11_panes at h
  refine g_aload_n X (j := 0) dX11_panes_0 rfl rfl ?_
  refine g_aload_n X (j := 0) dX11_panes_1 rfl rfl ?_
  refine gf_X11_125 X gT_c122 dX11_panes_2 ?_
  obtain ⟨⟨v2, M3⟩, hc1, h⟩ := bndO_e h
  refine gc_X11_167 X gT_c122 (ct_X11_ok X.htr  hc1) (by decide) (Nat.le_of_ble_eq_true rfl) dX11_panes_5 ?_
  exact hR v2 M3 _ _ (Option.some.inj h).symm dX11_panes_8
theorem ct_X11_panes {l : Launch} {z : GZ} (htr : l.stackTraces = false)   {M : GM} {F : Nat} {v : Int32} {M1 : GM} (h : f_X11_panes F M = some (v, M1)) : gMet l z yX11_panes cX11_panes 1 (some .int) 1 [.ref (gad z 122)] M (some (.int v)) M1 := gMet_ofI (by decide +kernel) (Nat.le_of_ble_eq_true rfl) htr rfl (fun x X ez el hR => by subst ez; subst el; exact w_X11_panes X  (fun v9 M9 lv9 pc9 e9 d9 => by cases e9; exact hR lv9 pc9 d9) h)
theorem gc_X11_170 {x : GX} {cc : ByteArray} {nL d pc : Nat} {M : GM} {lv : List (Nat × Value)} {st : List Value} (X : GC x cc nL RX11 d) {i0 : Int32} {M1 : GM} {r : Int32} (hM : gMet (xl x) (xz x) yX11_red cX11_red 1 (some .int) 0 [.int i0] M (some (.int r)) M1) (hd : 1 ≤ d) (hsum : (st.map fun v => v.category).sum ≤ 8) (dec : decode cc pc = .ok (.invokestatic 170, 3)) (go : WG x M1 lv (pc + 3) (.int r :: st)) : WG x M lv pc (.int i0 :: st) := g_callS X (n := 1) (As := [.int i0]) (rest := st) hM q_1308 q_1309 q_63 q_1310 (by decide +kernel) rfl hd (by decide) rfl hsum dec go
theorem gc_X11_173 {x : GX} {cc : ByteArray} {nL d pc : Nat} {M : GM} {lv : List (Nat × Value)} {st : List Value} (X : GC x cc nL RX11 d) {i0 : Int32} {M1 : GM} {r : Int32} (hM : gMet (xl x) (xz x) yX11_green cX11_green 1 (some .int) 0 [.int i0] M (some (.int r)) M1) (hd : 1 ≤ d) (hsum : (st.map fun v => v.category).sum ≤ 8) (dec : decode cc pc = .ok (.invokestatic 173, 3)) (go : WG x M1 lv (pc + 3) (.int r :: st)) : WG x M lv pc (.int i0 :: st) := g_callS X (n := 1) (As := [.int i0]) (rest := st) hM q_1311 q_1312 q_63 q_1313 (by decide +kernel) rfl hd (by decide) rfl hsum dec go
theorem gc_X11_176 {x : GX} {cc : ByteArray} {nL d pc : Nat} {M : GM} {lv : List (Nat × Value)} {st : List Value} (X : GC x cc nL RX11 d) {i0 : Int32} {M1 : GM} {r : Int32} (hM : gMet (xl x) (xz x) yX11_blue cX11_blue 1 (some .int) 0 [.int i0] M (some (.int r)) M1) (hd : 1 ≤ d) (hsum : (st.map fun v => v.category).sum ≤ 8) (dec : decode cc pc = .ok (.invokestatic 176, 3)) (go : WG x M1 lv (pc + 3) (.int r :: st)) : WG x M lv pc (.int i0 :: st) := g_callS X (n := 1) (As := [.int i0]) (rest := st) hM q_1314 q_1315 q_63 q_1316 (by decide +kernel) rfl hd (by decide) rfl hsum dec go
theorem dX11_take_0 : decode cX11_take 0 = .ok (.iconst 0, 1) := by decide +kernel
theorem dX11_take_1 : decode cX11_take 1 = .ok (.istore_n 3, 1) := by decide +kernel
theorem dX11_take_2 : decode cX11_take 2 = .ok (.iload_n 3, 1) := by decide +kernel
theorem dX11_take_3 : decode cX11_take 3 = .ok (.iconst 3, 1) := by decide +kernel
theorem dX11_take_4 : decode cX11_take 4 = .ok (.if_icmp .ge 18, 3) := by decide +kernel
theorem dX11_take_7 : decode cX11_take 7 = .ok (.aload_n 2, 1) := by decide +kernel
theorem dX11_take_8 : decode cX11_take 8 = .ok (.iload_n 3, 1) := by decide +kernel
theorem dX11_take_9 : decode cX11_take 9 = .ok (.aload_n 0, 1) := by decide +kernel
theorem dX11_take_10 : decode cX11_take 10 = .ok (.iload_n 1, 1) := by decide +kernel
theorem dX11_take_11 : decode cX11_take 11 = .ok (.iload_n 3, 1) := by decide +kernel
theorem dX11_take_12 : decode cX11_take 12 = .ok (.invokevirtual 159, 3) := by decide +kernel
theorem dX11_take_15 : decode cX11_take 15 = .ok (.iastore, 1) := by decide +kernel
theorem dX11_take_16 : decode cX11_take 16 = .ok (.iinc 3 1, 3) := by decide +kernel
theorem dX11_take_19 : decode cX11_take 19 = .ok (.goto (-17), 3) := by decide +kernel
theorem dX11_take_22 : decode cX11_take 22 = .ok (.aload_n 2, 1) := by decide +kernel
theorem dX11_take_23 : decode cX11_take 23 = .ok (.iconst 3, 1) := by decide +kernel
theorem dX11_take_24 : decode cX11_take 24 = .ok (.aload_n 0, 1) := by decide +kernel
theorem dX11_take_25 : decode cX11_take 25 = .ok (.getfield 25, 3) := by decide +kernel
theorem dX11_take_28 : decode cX11_take 28 = .ok (.iload_n 1, 1) := by decide +kernel
theorem dX11_take_29 : decode cX11_take 29 = .ok (.iaload, 1) := by decide +kernel
theorem dX11_take_30 : decode cX11_take 30 = .ok (.iastore, 1) := by decide +kernel
theorem dX11_take_31 : decode cX11_take 31 = .ok (.aload_n 2, 1) := by decide +kernel
theorem dX11_take_32 : decode cX11_take 32 = .ok (.iconst 4, 1) := by decide +kernel
theorem dX11_take_33 : decode cX11_take 33 = .ok (.aload_n 0, 1) := by decide +kernel
theorem dX11_take_34 : decode cX11_take 34 = .ok (.getfield 28, 3) := by decide +kernel
theorem dX11_take_37 : decode cX11_take 37 = .ok (.iload_n 1, 1) := by decide +kernel
theorem dX11_take_38 : decode cX11_take 38 = .ok (.iaload, 1) := by decide +kernel
theorem dX11_take_39 : decode cX11_take 39 = .ok (.iastore, 1) := by decide +kernel
theorem dX11_take_40 : decode cX11_take 40 = .ok (.aload_n 2, 1) := by decide +kernel
theorem dX11_take_41 : decode cX11_take 41 = .ok (.iconst 5, 1) := by decide +kernel
theorem dX11_take_42 : decode cX11_take 42 = .ok (.aload_n 0, 1) := by decide +kernel
theorem dX11_take_43 : decode cX11_take 43 = .ok (.getfield 21, 3) := by decide +kernel
theorem dX11_take_46 : decode cX11_take 46 = .ok (.iload_n 1, 1) := by decide +kernel
theorem dX11_take_47 : decode cX11_take 47 = .ok (.iaload, 1) := by decide +kernel
theorem dX11_take_48 : decode cX11_take 48 = .ok (.invokestatic 170, 3) := by decide +kernel
theorem dX11_take_51 : decode cX11_take 51 = .ok (.iastore, 1) := by decide +kernel
theorem dX11_take_52 : decode cX11_take 52 = .ok (.aload_n 2, 1) := by decide +kernel
theorem dX11_take_53 : decode cX11_take 53 = .ok (.bipush 6, 2) := by decide +kernel
theorem dX11_take_55 : decode cX11_take 55 = .ok (.aload_n 0, 1) := by decide +kernel
theorem dX11_take_56 : decode cX11_take 56 = .ok (.getfield 21, 3) := by decide +kernel
theorem dX11_take_59 : decode cX11_take 59 = .ok (.iload_n 1, 1) := by decide +kernel
theorem dX11_take_60 : decode cX11_take 60 = .ok (.iaload, 1) := by decide +kernel
theorem dX11_take_61 : decode cX11_take 61 = .ok (.invokestatic 173, 3) := by decide +kernel
theorem dX11_take_64 : decode cX11_take 64 = .ok (.iastore, 1) := by decide +kernel
theorem dX11_take_65 : decode cX11_take 65 = .ok (.aload_n 2, 1) := by decide +kernel
theorem dX11_take_66 : decode cX11_take 66 = .ok (.bipush 7, 2) := by decide +kernel
theorem dX11_take_68 : decode cX11_take 68 = .ok (.aload_n 0, 1) := by decide +kernel
theorem dX11_take_69 : decode cX11_take 69 = .ok (.getfield 21, 3) := by decide +kernel
theorem dX11_take_72 : decode cX11_take 72 = .ok (.iload_n 1, 1) := by decide +kernel
theorem dX11_take_73 : decode cX11_take 73 = .ok (.iaload, 1) := by decide +kernel
theorem dX11_take_74 : decode cX11_take 74 = .ok (.invokestatic 176, 3) := by decide +kernel
theorem dX11_take_77 : decode cX11_take 77 = .ok (.iastore, 1) := by decide +kernel
theorem dX11_take_78 : decode cX11_take 78 = .ok (.return_, 1) := by decide +kernel
def st_X11_take_2 (F : Nat) (a3 : Int32) (p4 : Nat) (rec : Int32 → GM → Option GM) (a6 : Int32) (M : GM) : Option GM := if (3 : Int32) ≤ a6 then (some M) else (bndO (f_X11_seenBy F a3 a6 M) (fun v8 => grd (gIn a6 (gN p4)) (bnd (sI M p4 a6.toNatClampNeg v8) (fun M10 => bnd (a6 + (1 : Int32)) (fun v12 => rec v12 M10)))))
def lp_X11_take_2 (F : Nat) (a3 : Int32) (p4 : Nat) : Nat → Int32 → GM → Option GM
  | 0 => fun _ _ => none
  | f + 1 => fun a6 M => st_X11_take_2 F a3 p4 (lp_X11_take_2 F a3 p4 f) a6 M
set_option maxHeartbeats 4000000 in
set_option maxRecDepth 100000 in
theorem lw_X11_take_2 {x : GX} (X : GC x cX11_take 4 RX11 1) {a3 : Int32} {p4 : Nat} (k5 : gT p4 = 20) {F : Nat} {r9 : GM} (hE : ∀  (M9 : GM), r9 = M9 → WG x M9 [(0, .ref (gad (xz x) 122)), (1, .int a3), (2, .ref (gad (xz x) p4))] 22 []) : ∀ (f : Nat) (a6 : Int32) (M : GM), lp_X11_take_2 F a3 p4 f a6 M = some r9 → WG x M [(0, .ref (gad (xz x) 122)), (1, .int a3), (2, .ref (gad (xz x) p4)), (3, .int a6)] 2 [] := by
  intro f
  induction f with
  | zero => intro a6 M h; cases h
  | succ f ih =>
    intro a6 M h
    have hrec := ih
    have h : st_X11_take_2 F a3 p4 (lp_X11_take_2 F a3 p4 f) a6 M = some r9 := h
    generalize lp_X11_take_2 F a3 p4 f = rec at h hrec
    unfold st_X11_take_2 at h
    refine g_iload_n X (j := 3) dX11_take_2 rfl rfl ?_
    refine g_iconst X (v := 3) dX11_take_3 (by decide) ?_
    refine g_icmp_ge X (tgt := 22) dX11_take_4 (by decide) (fun hb => ?_) (fun hb => ?_)
    · have h := ite_t hb h
      refine g_lv [0, 1, 2] rfl ?_
      exact hE M (Option.some.inj h).symm
    · have h := ite_f hb h
      refine g_aload_n X (j := 2) dX11_take_7 rfl rfl ?_
      refine g_iload_n X (j := 3) dX11_take_8 rfl rfl ?_
      refine g_aload_n X (j := 0) dX11_take_9 rfl rfl ?_
      refine g_iload_n X (j := 1) dX11_take_10 rfl rfl ?_
      refine g_iload_n X (j := 3) dX11_take_11 rfl rfl ?_
      obtain ⟨v8, hc7, h⟩ := bndO_e h
      refine gc_X11_159 X gT_c122 (ct_X11_seenBy X.htr  hc7) (by decide) (Nat.le_of_ble_eq_true rfl) dX11_take_12 ?_
      obtain ⟨hg9, h⟩ := grd_e h
      refine g_iast X k5 hg9 dX11_take_15 ?_
      refine g_mem (fun M10 e11 => ?_)
      have h := bnd_e e11 h
      refine g_iinc X (j := 3) (w := a6 + (1 : Int32)) (lv' := [(0, .ref (gad (xz x) 122)), (1, .int a3), (2, .ref (gad (xz x) p4))]) dX11_take_16 rfl (by rw [ii_1]) (by decide) (fun _ => rfl) (fun v12 e13 => ?_)
      have h := bnd_e e13 h
      refine g_goto X (tgt := 2) dX11_take_19 (by decide) ?_
      refine g_lv [1, 2, 3, 0] rfl ?_
      exact hrec v12 M10 h
def f_X11_take (F : Nat) (i0 : Int32) (p1 : Nat) (M : GM) : Option GM := bnd (0 : Int32) (fun v1 => bndO (lp_X11_take_2 F i0 p1 F v1 M) (fun M14 => grd (gIn i0 (gN 128)) (grd (gIn (3 : Int32) (gN p1)) (bnd (sI M14 p1 3 (gI M14 128 i0.toNatClampNeg)) (fun M18 => grd (gIn i0 (gN 129)) (grd (gIn (4 : Int32) (gN p1)) (bnd (sI M18 p1 4 (gI M18 129 i0.toNatClampNeg)) (fun M22 => grd (gIn i0 (gN 127)) (grd (gIn (5 : Int32) (gN p1)) (bnd (sI M22 p1 5 (f_X11_red (gI M22 127 i0.toNatClampNeg))) (fun M26 => grd (gIn i0 (gN 127)) (grd (gIn (6 : Int32) (gN p1)) (bnd (sI M26 p1 6 (f_X11_green (gI M26 127 i0.toNatClampNeg))) (fun M30 => grd (gIn i0 (gN 127)) (grd (gIn (7 : Int32) (gN p1)) (bnd (sI M30 p1 7 (f_X11_blue (gI M30 127 i0.toNatClampNeg))) (fun M34 => some M34)))))))))))))))))
set_option maxHeartbeats 4000000 in
set_option maxRecDepth 100000 in
theorem w_X11_take {x : GX} (X : GC x cX11_take 4 RX11 1) {i0 : Int32} {p1 : Nat} (h2 : gT p1 = 20) {F : Nat} {M : GM} {r9 : GM} (hR : ∀ (M9 : GM) (lv9 : List (Nat × Value)) (pc9 : Nat), r9 = M9 → decode cX11_take pc9 = .ok (.return_, 1) → WG x M9 lv9 pc9 []) (h : f_X11_take F i0 p1 M = some r9) : WG x M [(0, .ref (gad (xz x) 122)), (1, .int i0), (2, .ref (gad (xz x) p1))] 0 [] := by
  unfold f_X11_take at h
  refine g_iconst X (v := 0) dX11_take_0 (by decide) ?_
  refine g_topi (fun v1 e2 => ?_)
  have h := bnd_e e2 h
  refine g_istore_n X (lv' := [(3, .int v1), (0, .ref (gad (xz x) 122)), (1, .int i0), (2, .ref (gad (xz x) p1))]) dX11_take_1 rfl (by decide) rfl ?_
  refine g_lv [1, 2, 3, 0] rfl ?_
  obtain ⟨M14, hl15, h⟩ := bndO_e h
  refine lw_X11_take_2 X h2 (fun M14_ e9 => ?_) F v1 M hl15
  cases e9
  refine g_aload_n X (j := 2) dX11_take_22 rfl rfl ?_
  refine g_iconst X (v := 3) dX11_take_23 (by decide) ?_
  refine g_aload_n X (j := 0) dX11_take_24 rfl rfl ?_
  refine gf_X11_25 X gT_c122 dX11_take_25 ?_
  refine g_iload_n X (j := 1) dX11_take_28 rfl rfl ?_
  obtain ⟨hg16, h⟩ := grd_e h
  refine g_iald X gT_c128 hg16 dX11_take_29 ?_
  obtain ⟨hg17, h⟩ := grd_e h
  refine g_iast X h2 hg17 dX11_take_30 ?_
  rw [tn_3]
  refine g_mem (fun M18 e19 => ?_)
  have h := bnd_e e19 h
  refine g_aload_n X (j := 2) dX11_take_31 rfl rfl ?_
  refine g_iconst X (v := 4) dX11_take_32 (by decide) ?_
  refine g_aload_n X (j := 0) dX11_take_33 rfl rfl ?_
  refine gf_X11_28 X gT_c122 dX11_take_34 ?_
  refine g_iload_n X (j := 1) dX11_take_37 rfl rfl ?_
  obtain ⟨hg20, h⟩ := grd_e h
  refine g_iald X gT_c129 hg20 dX11_take_38 ?_
  obtain ⟨hg21, h⟩ := grd_e h
  refine g_iast X h2 hg21 dX11_take_39 ?_
  rw [tn_4]
  refine g_mem (fun M22 e23 => ?_)
  have h := bnd_e e23 h
  refine g_aload_n X (j := 2) dX11_take_40 rfl rfl ?_
  refine g_iconst X (v := 5) dX11_take_41 (by decide) ?_
  refine g_aload_n X (j := 0) dX11_take_42 rfl rfl ?_
  refine gf_X11_21 X gT_c122 dX11_take_43 ?_
  refine g_iload_n X (j := 1) dX11_take_46 rfl rfl ?_
  obtain ⟨hg24, h⟩ := grd_e h
  refine g_iald X gT_c127 hg24 dX11_take_47 ?_
  refine gc_X11_170 X (ct_X11_red X.htr ) (by decide) (Nat.le_of_ble_eq_true rfl) dX11_take_48 ?_
  obtain ⟨hg25, h⟩ := grd_e h
  refine g_iast X h2 hg25 dX11_take_51 ?_
  rw [tn_5]
  refine g_mem (fun M26 e27 => ?_)
  have h := bnd_e e27 h
  refine g_aload_n X (j := 2) dX11_take_52 rfl rfl ?_
  refine g_bipush X (v := 6) dX11_take_53 (by decide) ?_
  refine g_aload_n X (j := 0) dX11_take_55 rfl rfl ?_
  refine gf_X11_21 X gT_c122 dX11_take_56 ?_
  refine g_iload_n X (j := 1) dX11_take_59 rfl rfl ?_
  obtain ⟨hg28, h⟩ := grd_e h
  refine g_iald X gT_c127 hg28 dX11_take_60 ?_
  refine gc_X11_173 X (ct_X11_green X.htr ) (by decide) (Nat.le_of_ble_eq_true rfl) dX11_take_61 ?_
  obtain ⟨hg29, h⟩ := grd_e h
  refine g_iast X h2 hg29 dX11_take_64 ?_
  rw [tn_6]
  refine g_mem (fun M30 e31 => ?_)
  have h := bnd_e e31 h
  refine g_aload_n X (j := 2) dX11_take_65 rfl rfl ?_
  refine g_bipush X (v := 7) dX11_take_66 (by decide) ?_
  refine g_aload_n X (j := 0) dX11_take_68 rfl rfl ?_
  refine gf_X11_21 X gT_c122 dX11_take_69 ?_
  refine g_iload_n X (j := 1) dX11_take_72 rfl rfl ?_
  obtain ⟨hg32, h⟩ := grd_e h
  refine g_iald X gT_c127 hg32 dX11_take_73 ?_
  refine gc_X11_176 X (ct_X11_blue X.htr ) (by decide) (Nat.le_of_ble_eq_true rfl) dX11_take_74 ?_
  obtain ⟨hg33, h⟩ := grd_e h
  refine g_iast X h2 hg33 dX11_take_77 ?_
  rw [tn_7]
  refine g_mem (fun M34 e35 => ?_)
  have h := bnd_e e35 h
  exact hR M34 _ _ (Option.some.inj h).symm dX11_take_78
theorem ct_X11_take {l : Launch} {z : GZ} (htr : l.stackTraces = false) {i0 : Int32} {p1 : Nat} (h2 : gT p1 = 20) {M : GM} {F : Nat} {M1 : GM} (h : f_X11_take F i0 p1 M = some M1) : gMet l z yX11_take cX11_take 4 none 1 [.ref (gad z 122), .int i0, .ref (gad z p1)] M (none) M1 := gMet_ofV (by decide +kernel) (Nat.le_of_ble_eq_true rfl) htr (fun x X ez el hR => by subst ez; subst el; exact w_X11_take X h2 (fun M9 lv9 pc9 e9 d9 => by cases e9; exact hR lv9 pc9 d9) h)
