/-! 19.m -/
theorem dX11_thrown_0 : decode cX11_thrown 0 = .ok (.aload_n 0, 1) := by decide +kernel
theorem dX11_thrown_1 : decode cX11_thrown 1 = .ok (.getfield 114, 3) := by decide +kernel
theorem dX11_thrown_4 : decode cX11_thrown 4 = .ok (.ireturn, 1) := by decide +kernel
def f_X11_thrown (M : GM) : Int32 := (gI M 122 0)
set_option maxHeartbeats 4000000 in
set_option maxRecDepth 100000 in
theorem w_X11_thrown {x : GX} (X : GC x cX11_thrown 1 RX11 0)   {M : GM} {r9 : Int32} (hR : ∀ (v9 : Int32) (lv9 : List (Nat × Value)) (pc9 : Nat), r9 = v9 → decode cX11_thrown pc9 = .ok (.ireturn, 1) → WG x M lv9 pc9 [.int v9]) (h : f_X11_thrown M = r9) : WG x M [(0, .ref (gad (xz x) 122))] 0 [] := by
  unfold f_X11_thrown at h
  refine g_aload_n X (j := 0) dX11_thrown_0 rfl rfl ?_
  refine gf_X11_114 X gT_c122 dX11_thrown_1 ?_
  exact hR (gI M 122 0) _ _ h.symm dX11_thrown_4
theorem ct_X11_thrown {l : Launch} {z : GZ} (htr : l.stackTraces = false)   {M : GM} : gMet l z yX11_thrown cX11_thrown 1 (some .int) 0 [.ref (gad z 122)] M (some (.int (f_X11_thrown M))) M := gMet_ofI (by decide +kernel) (Nat.le_of_ble_eq_true rfl) htr rfl (fun x X ez el hR => by subst ez; subst el; exact w_X11_thrown X  (fun v9 lv9 pc9 e9 d9 => by cases e9; exact hR lv9 pc9 d9) rfl)
theorem dX11_no_0 : decode cX11_no 0 = .ok (.aload_n 0, 1) := by decide +kernel
theorem dX11_no_1 : decode cX11_no 1 = .ok (.iload_n 1, 1) := by decide +kernel
theorem dX11_no_2 : decode cX11_no 2 = .ok (.putfield 114, 3) := by decide +kernel
theorem dX11_no_5 : decode cX11_no 5 = .ok (.iconst 0, 1) := by decide +kernel
theorem dX11_no_6 : decode cX11_no 6 = .ok (.ireturn, 1) := by decide +kernel
def f_X11_no (F : Nat) (i0 : Int32) (M : GM) : Option (Int32 × GM) := bnd (sI M 122 0 i0) (fun M1 => some ((0 : Int32), M1))
set_option maxHeartbeats 4000000 in
set_option maxRecDepth 100000 in
theorem w_X11_no {x : GX} (X : GC x cX11_no 2 RX11 0) {i0 : Int32}  {F : Nat} {M : GM} {r9 : (Int32 × GM)} (hR : ∀ (v9 : Int32) (M9 : GM) (lv9 : List (Nat × Value)) (pc9 : Nat), r9 = (v9, M9) → decode cX11_no pc9 = .ok (.ireturn, 1) → WG x M9 lv9 pc9 [.int v9]) (h : f_X11_no F i0 M = some r9) : WG x M [(0, .ref (gad (xz x) 122)), (1, .int i0)] 0 [] := by
  unfold f_X11_no at h
  refine g_aload_n X (j := 0) dX11_no_0 rfl rfl ?_
  refine g_iload_n X (j := 1) dX11_no_1 rfl rfl ?_
  refine gp_X11_114 X gT_c122 dX11_no_2 ?_
  refine g_mem (fun M1 e2 => ?_)
  have h := bnd_e e2 h
  refine g_iconst X (v := 0) dX11_no_5 (by decide) ?_
  exact hR (0 : Int32) M1 _ _ (Option.some.inj h).symm dX11_no_6
theorem ct_X11_no {l : Launch} {z : GZ} (htr : l.stackTraces = false) {i0 : Int32}  {M : GM} {F : Nat} {v : Int32} {M1 : GM} (h : f_X11_no F i0 M = some (v, M1)) : gMet l z yX11_no cX11_no 2 (some .int) 0 [.ref (gad z 122), .int i0] M (some (.int v)) M1 := gMet_ofI (by decide +kernel) (Nat.le_of_ble_eq_true rfl) htr rfl (fun x X ez el hR => by subst ez; subst el; exact w_X11_no X  (fun v9 M9 lv9 pc9 e9 d9 => by cases e9; exact hR lv9 pc9 d9) h)
theorem dX11_isNot_0 : decode cX11_isNot 0 = .ok (.aload_n 0, 1) := by decide +kernel
theorem dX11_isNot_1 : decode cX11_isNot 1 = .ok (.iload_n 1, 1) := by decide +kernel
theorem dX11_isNot_2 : decode cX11_isNot 2 = .ok (.putfield 114, 3) := by decide +kernel
theorem dX11_isNot_5 : decode cX11_isNot 5 = .ok (.iconst 0, 1) := by decide +kernel
theorem dX11_isNot_6 : decode cX11_isNot 6 = .ok (.ireturn, 1) := by decide +kernel
def f_X11_isNot (F : Nat) (i0 : Int32) (M : GM) : Option (Int32 × GM) := bnd (sI M 122 0 i0) (fun M1 => some ((0 : Int32), M1))
set_option maxHeartbeats 4000000 in
set_option maxRecDepth 100000 in
theorem w_X11_isNot {x : GX} (X : GC x cX11_isNot 2 RX11 0) {i0 : Int32}  {F : Nat} {M : GM} {r9 : (Int32 × GM)} (hR : ∀ (v9 : Int32) (M9 : GM) (lv9 : List (Nat × Value)) (pc9 : Nat), r9 = (v9, M9) → (v9 = 0 ∨ v9 = 1) → decode cX11_isNot pc9 = .ok (.ireturn, 1) → WG x M9 lv9 pc9 [.int v9]) (h : f_X11_isNot F i0 M = some r9) : WG x M [(0, .ref (gad (xz x) 122)), (1, .int i0)] 0 [] := by
  unfold f_X11_isNot at h
  refine g_aload_n X (j := 0) dX11_isNot_0 rfl rfl ?_
  refine g_iload_n X (j := 1) dX11_isNot_1 rfl rfl ?_
  refine gp_X11_114 X gT_c122 dX11_isNot_2 ?_
  refine g_mem (fun M1 e2 => ?_)
  have h := bnd_e e2 h
  refine g_iconst X (v := 0) dX11_isNot_5 (by decide) ?_
  exact hR (0 : Int32) M1 _ _ (Option.some.inj h).symm (Or.inl rfl) dX11_isNot_6
theorem ct_X11_isNot {l : Launch} {z : GZ} (htr : l.stackTraces = false) {i0 : Int32}  {M : GM} {F : Nat} {v : Int32} {M1 : GM} (h : f_X11_isNot F i0 M = some (v, M1)) : gMet l z yX11_isNot cX11_isNot 2 (some .boolean) 0 [.ref (gad z 122), .int i0] M (some (.int v)) M1 := gMet_ofZ (by decide +kernel) (Nat.le_of_ble_eq_true rfl) htr (fun x X ez el hR => by subst ez; subst el; exact w_X11_isNot X  (fun v9 M9 lv9 pc9 e9 z9 d9 => by cases e9; exact hR lv9 pc9 z9 d9) h)
theorem dX11_ok_0 : decode cX11_ok 0 = .ok (.aload_n 0, 1) := by decide +kernel
theorem dX11_ok_1 : decode cX11_ok 1 = .ok (.iconst 0, 1) := by decide +kernel
theorem dX11_ok_2 : decode cX11_ok 2 = .ok (.putfield 114, 3) := by decide +kernel
theorem dX11_ok_5 : decode cX11_ok 5 = .ok (.iload_n 1, 1) := by decide +kernel
theorem dX11_ok_6 : decode cX11_ok 6 = .ok (.ireturn, 1) := by decide +kernel
def f_X11_ok (F : Nat) (i0 : Int32) (M : GM) : Option (Int32 × GM) := bnd (sI M 122 0 (0 : Int32)) (fun M1 => some (i0, M1))
set_option maxHeartbeats 4000000 in
set_option maxRecDepth 100000 in
theorem w_X11_ok {x : GX} (X : GC x cX11_ok 2 RX11 0) {i0 : Int32}  {F : Nat} {M : GM} {r9 : (Int32 × GM)} (hR : ∀ (v9 : Int32) (M9 : GM) (lv9 : List (Nat × Value)) (pc9 : Nat), r9 = (v9, M9) → decode cX11_ok pc9 = .ok (.ireturn, 1) → WG x M9 lv9 pc9 [.int v9]) (h : f_X11_ok F i0 M = some r9) : WG x M [(0, .ref (gad (xz x) 122)), (1, .int i0)] 0 [] := by
  unfold f_X11_ok at h
  refine g_aload_n X (j := 0) dX11_ok_0 rfl rfl ?_
  refine g_iconst X (v := 0) dX11_ok_1 (by decide) ?_
  refine gp_X11_114 X gT_c122 dX11_ok_2 ?_
  refine g_mem (fun M1 e2 => ?_)
  have h := bnd_e e2 h
  refine g_iload_n X (j := 1) dX11_ok_5 rfl rfl ?_
  exact hR i0 M1 _ _ (Option.some.inj h).symm dX11_ok_6
theorem ct_X11_ok {l : Launch} {z : GZ} (htr : l.stackTraces = false) {i0 : Int32}  {M : GM} {F : Nat} {v : Int32} {M1 : GM} (h : f_X11_ok F i0 M = some (v, M1)) : gMet l z yX11_ok cX11_ok 2 (some .int) 0 [.ref (gad z 122), .int i0] M (some (.int v)) M1 := gMet_ofI (by decide +kernel) (Nat.le_of_ble_eq_true rfl) htr rfl (fun x X ez el hR => by subst ez; subst el; exact w_X11_ok X  (fun v9 M9 lv9 pc9 e9 d9 => by cases e9; exact hR lv9 pc9 d9) h)
theorem dX11_isIn_0 : decode cX11_isIn 0 = .ok (.iload_n 0, 1) := by decide +kernel
theorem dX11_isIn_1 : decode cX11_isIn 1 = .ok (.iload_n 1, 1) := by decide +kernel
theorem dX11_isIn_2 : decode cX11_isIn 2 = .ok (.if_icmp .lt 12, 3) := by decide +kernel
theorem dX11_isIn_5 : decode cX11_isIn 5 = .ok (.iload_n 0, 1) := by decide +kernel
theorem dX11_isIn_6 : decode cX11_isIn 6 = .ok (.iload_n 2, 1) := by decide +kernel
theorem dX11_isIn_7 : decode cX11_isIn 7 = .ok (.if_icmp .gt 7, 3) := by decide +kernel
theorem dX11_isIn_10 : decode cX11_isIn 10 = .ok (.iconst 1, 1) := by decide +kernel
theorem dX11_isIn_11 : decode cX11_isIn 11 = .ok (.goto 4, 3) := by decide +kernel
theorem dX11_isIn_14 : decode cX11_isIn 14 = .ok (.iconst 0, 1) := by decide +kernel
theorem dX11_isIn_15 : decode cX11_isIn 15 = .ok (.ireturn, 1) := by decide +kernel
def f_X11_isIn (i0 : Int32) (i1 : Int32) (i2 : Int32) : Int32 := if i0 < i1 then ((0 : Int32)) else (if i2 < i0 then ((0 : Int32)) else ((1 : Int32)))
set_option maxHeartbeats 4000000 in
set_option maxRecDepth 100000 in
theorem w_X11_isIn {x : GX} (X : GC x cX11_isIn 3 RX11 0) {i0 : Int32} {i1 : Int32} {i2 : Int32}  {M : GM} {r9 : Int32} (hR : ∀ (v9 : Int32) (lv9 : List (Nat × Value)) (pc9 : Nat), r9 = v9 → (v9 = 0 ∨ v9 = 1) → decode cX11_isIn pc9 = .ok (.ireturn, 1) → WG x M lv9 pc9 [.int v9]) (h : f_X11_isIn i0 i1 i2 = r9) : WG x M [(0, .int i0), (1, .int i1), (2, .int i2)] 0 [] := by
  unfold f_X11_isIn at h
  refine g_iload_n X (j := 0) dX11_isIn_0 rfl rfl ?_
  refine g_iload_n X (j := 1) dX11_isIn_1 rfl rfl ?_
  refine g_icmp_lt X (tgt := 14) dX11_isIn_2 (by decide) (fun hb => ?_) (fun hb => ?_)
  · have h := ite_t hb h
    refine g_iconst X (v := 0) dX11_isIn_14 (by decide) ?_
    exact hR (0 : Int32) _ _ h.symm (Or.inl rfl) dX11_isIn_15
  · have h := ite_f hb h
    refine g_iload_n X (j := 0) dX11_isIn_5 rfl rfl ?_
    refine g_iload_n X (j := 2) dX11_isIn_6 rfl rfl ?_
    refine g_icmp_gt X (tgt := 14) dX11_isIn_7 (by decide) (fun hb => ?_) (fun hb => ?_)
    · have h := ite_t hb h
      refine g_iconst X (v := 0) dX11_isIn_14 (by decide) ?_
      exact hR (0 : Int32) _ _ h.symm (Or.inl rfl) dX11_isIn_15
    · have h := ite_f hb h
      refine g_iconst X (v := 1) dX11_isIn_10 (by decide) ?_
      refine g_goto X (tgt := 15) dX11_isIn_11 (by decide) ?_
      exact hR (1 : Int32) _ _ h.symm (Or.inr rfl) dX11_isIn_15
theorem ct_X11_isIn {l : Launch} {z : GZ} (htr : l.stackTraces = false) {i0 : Int32} {i1 : Int32} {i2 : Int32}  {M : GM} : gMet l z yX11_isIn cX11_isIn 3 (some .boolean) 0 [.int i0, .int i1, .int i2] M (some (.int (f_X11_isIn i0 i1 i2))) M := gMet_ofZ (by decide +kernel) (Nat.le_of_ble_eq_true rfl) htr (fun x X ez el hR => by subst ez; subst el; exact w_X11_isIn X  (fun v9 lv9 pc9 e9 z9 d9 => by cases e9; exact hR lv9 pc9 z9 d9) rfl)
theorem fz_X11_isIn (i0 : Int32) (i1 : Int32) (i2 : Int32) : f_X11_isIn i0 i1 i2 = 0 ∨ f_X11_isIn i0 i1 i2 = 1 := by
  unfold f_X11_isIn
  repeat' split
  all_goals first | exact Or.inl rfl | exact Or.inr rfl | exact fz_X11_isIn _ _ _
theorem gc_X11_118 {x : GX} {cc : ByteArray} {nL d pc : Nat} {M : GM} {lv : List (Nat × Value)} {st : List Value} (X : GC x cc nL RX11 d) {i0 : Int32} {i1 : Int32} {i2 : Int32} {M1 : GM} {r : Int32} (hM : gMet (xl x) (xz x) yX11_isIn cX11_isIn 3 (some .boolean) 0 [.int i0, .int i1, .int i2] M (some (.int r)) M1) (hd : 1 ≤ d) (hsum : (st.map fun v => v.category).sum ≤ 8) (dec : decode cc pc = .ok (.invokestatic 118, 3)) (go : WG x M1 lv (pc + 3) (.int r :: st)) : WG x M lv pc (.int i2 :: .int i1 :: .int i0 :: st) := g_callS X (n := 3) (As := [.int i0, .int i1, .int i2]) (rest := st) hM q_1202 q_1203 q_63 q_1204 (by decide +kernel) rfl hd (by decide) rfl hsum dec go
theorem dX11_isColour_0 : decode cX11_isColour 0 = .ok (.iload_n 0, 1) := by decide +kernel
theorem dX11_isColour_1 : decode cX11_isColour 1 = .ok (.iconst 0, 1) := by decide +kernel
theorem dX11_isColour_2 : decode cX11_isColour 2 = .ok (.ldc 117, 2) := by decide +kernel
theorem dX11_isColour_4 : decode cX11_isColour 4 = .ok (.invokestatic 118, 3) := by decide +kernel
theorem dX11_isColour_7 : decode cX11_isColour 7 = .ok (.ireturn, 1) := by decide +kernel
def f_X11_isColour (i0 : Int32) : Int32 := (f_X11_isIn i0 (0 : Int32) (16777215 : Int32))
set_option maxHeartbeats 4000000 in
set_option maxRecDepth 100000 in
theorem w_X11_isColour {x : GX} (X : GC x cX11_isColour 1 RX11 1) {i0 : Int32}  {M : GM} {r9 : Int32} (hR : ∀ (v9 : Int32) (lv9 : List (Nat × Value)) (pc9 : Nat), r9 = v9 → (v9 = 0 ∨ v9 = 1) → decode cX11_isColour pc9 = .ok (.ireturn, 1) → WG x M lv9 pc9 [.int v9]) (h : f_X11_isColour i0 = r9) : WG x M [(0, .int i0)] 0 [] := by
  unfold f_X11_isColour at h
  refine g_iload_n X (j := 0) dX11_isColour_0 rfl rfl ?_
  refine g_iconst X (v := 0) dX11_isColour_1 (by decide) ?_
  refine g_ldc X q_1208 dX11_isColour_2 ?_
  refine gc_X11_118 X (ct_X11_isIn X.htr ) (by decide) (Nat.le_of_ble_eq_true rfl) dX11_isColour_4 ?_
  exact hR (f_X11_isIn i0 (0 : Int32) (16777215 : Int32)) _ _ h.symm (fz_X11_isIn _ _ _) dX11_isColour_7
theorem ct_X11_isColour {l : Launch} {z : GZ} (htr : l.stackTraces = false) {i0 : Int32}  {M : GM} : gMet l z yX11_isColour cX11_isColour 1 (some .boolean) 1 [.int i0] M (some (.int (f_X11_isColour i0))) M := gMet_ofZ (by decide +kernel) (Nat.le_of_ble_eq_true rfl) htr (fun x X ez el hR => by subst ez; subst el; exact w_X11_isColour X  (fun v9 lv9 pc9 e9 z9 d9 => by cases e9; exact hR lv9 pc9 z9 d9) rfl)
theorem fz_X11_isColour (i0 : Int32) : f_X11_isColour i0 = 0 ∨ f_X11_isColour i0 = 1 := by
  unfold f_X11_isColour
  repeat' split
  all_goals first | exact Or.inl rfl | exact Or.inr rfl | exact fz_X11_isIn _ _ _
theorem dX11_isPlace_0 : decode cX11_isPlace 0 = .ok (.iload_n 0, 1) := by decide +kernel
theorem dX11_isPlace_1 : decode cX11_isPlace 1 = .ok (.sipush (-2000), 3) := by decide +kernel
theorem dX11_isPlace_4 : decode cX11_isPlace 4 = .ok (.sipush 2000, 3) := by decide +kernel
theorem dX11_isPlace_7 : decode cX11_isPlace 7 = .ok (.invokestatic 118, 3) := by decide +kernel
theorem dX11_isPlace_10 : decode cX11_isPlace 10 = .ok (.ifCond .eq 33, 3) := by decide +kernel
theorem dX11_isPlace_13 : decode cX11_isPlace 13 = .ok (.iload_n 1, 1) := by decide +kernel
theorem dX11_isPlace_14 : decode cX11_isPlace 14 = .ok (.sipush (-2000), 3) := by decide +kernel
theorem dX11_isPlace_17 : decode cX11_isPlace 17 = .ok (.sipush 2000, 3) := by decide +kernel
theorem dX11_isPlace_20 : decode cX11_isPlace 20 = .ok (.invokestatic 118, 3) := by decide +kernel
theorem dX11_isPlace_23 : decode cX11_isPlace 23 = .ok (.ifCond .eq 20, 3) := by decide +kernel
theorem dX11_isPlace_26 : decode cX11_isPlace 26 = .ok (.iload_n 2, 1) := by decide +kernel
theorem dX11_isPlace_27 : decode cX11_isPlace 27 = .ok (.sipush (-2000), 3) := by decide +kernel
theorem dX11_isPlace_30 : decode cX11_isPlace 30 = .ok (.sipush 2000, 3) := by decide +kernel
theorem dX11_isPlace_33 : decode cX11_isPlace 33 = .ok (.invokestatic 118, 3) := by decide +kernel
theorem dX11_isPlace_36 : decode cX11_isPlace 36 = .ok (.ifCond .eq 7, 3) := by decide +kernel
theorem dX11_isPlace_39 : decode cX11_isPlace 39 = .ok (.iconst 1, 1) := by decide +kernel
theorem dX11_isPlace_40 : decode cX11_isPlace 40 = .ok (.goto 4, 3) := by decide +kernel
theorem dX11_isPlace_43 : decode cX11_isPlace 43 = .ok (.iconst 0, 1) := by decide +kernel
theorem dX11_isPlace_44 : decode cX11_isPlace 44 = .ok (.ireturn, 1) := by decide +kernel
def f_X11_isPlace (i0 : Int32) (i1 : Int32) (i2 : Int32) : Int32 := if (f_X11_isIn i0 ((-2000) : Int32) (2000 : Int32)) = 0 then ((0 : Int32)) else (if (f_X11_isIn i1 ((-2000) : Int32) (2000 : Int32)) = 0 then ((0 : Int32)) else (if (f_X11_isIn i2 ((-2000) : Int32) (2000 : Int32)) = 0 then ((0 : Int32)) else ((1 : Int32))))
set_option maxHeartbeats 4000000 in
set_option maxRecDepth 100000 in
theorem w_X11_isPlace {x : GX} (X : GC x cX11_isPlace 3 RX11 1) {i0 : Int32} {i1 : Int32} {i2 : Int32}  {M : GM} {r9 : Int32} (hR : ∀ (v9 : Int32) (lv9 : List (Nat × Value)) (pc9 : Nat), r9 = v9 → (v9 = 0 ∨ v9 = 1) → decode cX11_isPlace pc9 = .ok (.ireturn, 1) → WG x M lv9 pc9 [.int v9]) (h : f_X11_isPlace i0 i1 i2 = r9) : WG x M [(0, .int i0), (1, .int i1), (2, .int i2)] 0 [] := by
  unfold f_X11_isPlace at h
  refine g_iload_n X (j := 0) dX11_isPlace_0 rfl rfl ?_
  refine g_sipush X (v := (-2000)) dX11_isPlace_1 (by decide) ?_
  refine g_sipush X (v := 2000) dX11_isPlace_4 (by decide) ?_
  refine gc_X11_118 X (ct_X11_isIn X.htr ) (by decide) (Nat.le_of_ble_eq_true rfl) dX11_isPlace_7 ?_
  refine g_if_eq X (tgt := 43) dX11_isPlace_10 (by decide) (fun hb => ?_) (fun hb => ?_)
  · have h := ite_t hb h
    refine g_iconst X (v := 0) dX11_isPlace_43 (by decide) ?_
    exact hR (0 : Int32) _ _ h.symm (Or.inl rfl) dX11_isPlace_44
  · have h := ite_f hb h
    refine g_iload_n X (j := 1) dX11_isPlace_13 rfl rfl ?_
    refine g_sipush X (v := (-2000)) dX11_isPlace_14 (by decide) ?_
    refine g_sipush X (v := 2000) dX11_isPlace_17 (by decide) ?_
    refine gc_X11_118 X (ct_X11_isIn X.htr ) (by decide) (Nat.le_of_ble_eq_true rfl) dX11_isPlace_20 ?_
    refine g_if_eq X (tgt := 43) dX11_isPlace_23 (by decide) (fun hb => ?_) (fun hb => ?_)
    · have h := ite_t hb h
      refine g_iconst X (v := 0) dX11_isPlace_43 (by decide) ?_
      exact hR (0 : Int32) _ _ h.symm (Or.inl rfl) dX11_isPlace_44
    · have h := ite_f hb h
      refine g_iload_n X (j := 2) dX11_isPlace_26 rfl rfl ?_
      refine g_sipush X (v := (-2000)) dX11_isPlace_27 (by decide) ?_
      refine g_sipush X (v := 2000) dX11_isPlace_30 (by decide) ?_
      refine gc_X11_118 X (ct_X11_isIn X.htr ) (by decide) (Nat.le_of_ble_eq_true rfl) dX11_isPlace_33 ?_
      refine g_if_eq X (tgt := 43) dX11_isPlace_36 (by decide) (fun hb => ?_) (fun hb => ?_)
      · have h := ite_t hb h
        refine g_iconst X (v := 0) dX11_isPlace_43 (by decide) ?_
        exact hR (0 : Int32) _ _ h.symm (Or.inl rfl) dX11_isPlace_44
      · have h := ite_f hb h
        refine g_iconst X (v := 1) dX11_isPlace_39 (by decide) ?_
        refine g_goto X (tgt := 44) dX11_isPlace_40 (by decide) ?_
        exact hR (1 : Int32) _ _ h.symm (Or.inr rfl) dX11_isPlace_44
theorem ct_X11_isPlace {l : Launch} {z : GZ} (htr : l.stackTraces = false) {i0 : Int32} {i1 : Int32} {i2 : Int32}  {M : GM} : gMet l z yX11_isPlace cX11_isPlace 3 (some .boolean) 1 [.int i0, .int i1, .int i2] M (some (.int (f_X11_isPlace i0 i1 i2))) M := gMet_ofZ (by decide +kernel) (Nat.le_of_ble_eq_true rfl) htr (fun x X ez el hR => by subst ez; subst el; exact w_X11_isPlace X  (fun v9 lv9 pc9 e9 z9 d9 => by cases e9; exact hR lv9 pc9 z9 d9) rfl)
theorem fz_X11_isPlace (i0 : Int32) (i1 : Int32) (i2 : Int32) : f_X11_isPlace i0 i1 i2 = 0 ∨ f_X11_isPlace i0 i1 i2 = 1 := by
  unfold f_X11_isPlace
  repeat' split
  all_goals first | exact Or.inl rfl | exact Or.inr rfl | exact fz_X11_isIn _ _ _
theorem dX11_isCorner_0 : decode cX11_isCorner 0 = .ok (.iload_n 1, 1) := by decide +kernel
theorem dX11_isCorner_1 : decode cX11_isCorner 1 = .ok (.iconst 0, 1) := by decide +kernel
theorem dX11_isCorner_2 : decode cX11_isCorner 2 = .ok (.aload_n 0, 1) := by decide +kernel
theorem dX11_isCorner_3 : decode cX11_isCorner 3 = .ok (.getfield 122, 3) := by decide +kernel
theorem dX11_isCorner_6 : decode cX11_isCorner 6 = .ok (.iconst 1, 1) := by decide +kernel
theorem dX11_isCorner_7 : decode cX11_isCorner 7 = .ok (.isub, 1) := by decide +kernel
theorem dX11_isCorner_8 : decode cX11_isCorner 8 = .ok (.invokestatic 118, 3) := by decide +kernel
theorem dX11_isCorner_11 : decode cX11_isCorner 11 = .ok (.ireturn, 1) := by decide +kernel
def f_X11_isCorner (i0 : Int32) (M : GM) : Int32 := (f_X11_isIn i0 (0 : Int32) ((gI M 122 1) - (1 : Int32)))
set_option maxHeartbeats 4000000 in
set_option maxRecDepth 100000 in
theorem w_X11_isCorner {x : GX} (X : GC x cX11_isCorner 2 RX11 1) {i0 : Int32}  {M : GM} {r9 : Int32} (hR : ∀ (v9 : Int32) (lv9 : List (Nat × Value)) (pc9 : Nat), r9 = v9 → (v9 = 0 ∨ v9 = 1) → decode cX11_isCorner pc9 = .ok (.ireturn, 1) → WG x M lv9 pc9 [.int v9]) (h : f_X11_isCorner i0 M = r9) : WG x M [(0, .ref (gad (xz x) 122)), (1, .int i0)] 0 [] := by
  unfold f_X11_isCorner at h
  refine g_iload_n X (j := 1) dX11_isCorner_0 rfl rfl ?_
  refine g_iconst X (v := 0) dX11_isCorner_1 (by decide) ?_
  refine g_aload_n X (j := 0) dX11_isCorner_2 rfl rfl ?_
  refine gf_X11_122 X gT_c122 dX11_isCorner_3 ?_
  refine g_iconst X (v := 1) dX11_isCorner_6 (by decide) ?_
  refine g_isub X dX11_isCorner_7 ?_
  refine gc_X11_118 X (ct_X11_isIn X.htr ) (by decide) (Nat.le_of_ble_eq_true rfl) dX11_isCorner_8 ?_
  exact hR (f_X11_isIn i0 (0 : Int32) ((gI M 122 1) - (1 : Int32))) _ _ h.symm (fz_X11_isIn _ _ _) dX11_isCorner_11
theorem ct_X11_isCorner {l : Launch} {z : GZ} (htr : l.stackTraces = false) {i0 : Int32}  {M : GM} : gMet l z yX11_isCorner cX11_isCorner 2 (some .boolean) 1 [.ref (gad z 122), .int i0] M (some (.int (f_X11_isCorner i0 M))) M := gMet_ofZ (by decide +kernel) (Nat.le_of_ble_eq_true rfl) htr (fun x X ez el hR => by subst ez; subst el; exact w_X11_isCorner X  (fun v9 lv9 pc9 e9 z9 d9 => by cases e9; exact hR lv9 pc9 z9 d9) rfl)
theorem fz_X11_isCorner (i0 : Int32) (M : GM) : f_X11_isCorner i0 M = 0 ∨ f_X11_isCorner i0 M = 1 := by
  unfold f_X11_isCorner
  repeat' split
  all_goals first | exact Or.inl rfl | exact Or.inr rfl | exact fz_X11_isIn _ _ _
theorem dX11_isPane_0 : decode cX11_isPane 0 = .ok (.iload_n 1, 1) := by decide +kernel
theorem dX11_isPane_1 : decode cX11_isPane 1 = .ok (.iconst 0, 1) := by decide +kernel
theorem dX11_isPane_2 : decode cX11_isPane 2 = .ok (.aload_n 0, 1) := by decide +kernel
theorem dX11_isPane_3 : decode cX11_isPane 3 = .ok (.getfield 125, 3) := by decide +kernel
theorem dX11_isPane_6 : decode cX11_isPane 6 = .ok (.iconst 1, 1) := by decide +kernel
theorem dX11_isPane_7 : decode cX11_isPane 7 = .ok (.isub, 1) := by decide +kernel
theorem dX11_isPane_8 : decode cX11_isPane 8 = .ok (.invokestatic 118, 3) := by decide +kernel
theorem dX11_isPane_11 : decode cX11_isPane 11 = .ok (.ireturn, 1) := by decide +kernel
def f_X11_isPane (i0 : Int32) (M : GM) : Int32 := (f_X11_isIn i0 (0 : Int32) ((gI M 122 2) - (1 : Int32)))
set_option maxHeartbeats 4000000 in
set_option maxRecDepth 100000 in
theorem w_X11_isPane {x : GX} (X : GC x cX11_isPane 2 RX11 1) {i0 : Int32}  {M : GM} {r9 : Int32} (hR : ∀ (v9 : Int32) (lv9 : List (Nat × Value)) (pc9 : Nat), r9 = v9 → (v9 = 0 ∨ v9 = 1) → decode cX11_isPane pc9 = .ok (.ireturn, 1) → WG x M lv9 pc9 [.int v9]) (h : f_X11_isPane i0 M = r9) : WG x M [(0, .ref (gad (xz x) 122)), (1, .int i0)] 0 [] := by
  unfold f_X11_isPane at h
  refine g_iload_n X (j := 1) dX11_isPane_0 rfl rfl ?_
  refine g_iconst X (v := 0) dX11_isPane_1 (by decide) ?_
  refine g_aload_n X (j := 0) dX11_isPane_2 rfl rfl ?_
  refine gf_X11_125 X gT_c122 dX11_isPane_3 ?_
  refine g_iconst X (v := 1) dX11_isPane_6 (by decide) ?_
  refine g_isub X dX11_isPane_7 ?_
  refine gc_X11_118 X (ct_X11_isIn X.htr ) (by decide) (Nat.le_of_ble_eq_true rfl) dX11_isPane_8 ?_
  exact hR (f_X11_isIn i0 (0 : Int32) ((gI M 122 2) - (1 : Int32))) _ _ h.symm (fz_X11_isIn _ _ _) dX11_isPane_11
theorem ct_X11_isPane {l : Launch} {z : GZ} (htr : l.stackTraces = false) {i0 : Int32}  {M : GM} : gMet l z yX11_isPane cX11_isPane 2 (some .boolean) 1 [.ref (gad z 122), .int i0] M (some (.int (f_X11_isPane i0 M))) M := gMet_ofZ (by decide +kernel) (Nat.le_of_ble_eq_true rfl) htr (fun x X ez el hR => by subst ez; subst el; exact w_X11_isPane X  (fun v9 lv9 pc9 e9 z9 d9 => by cases e9; exact hR lv9 pc9 z9 d9) rfl)
theorem fz_X11_isPane (i0 : Int32) (M : GM) : f_X11_isPane i0 M = 0 ∨ f_X11_isPane i0 M = 1 := by
  unfold f_X11_isPane
  repeat' split
  all_goals first | exact Or.inl rfl | exact Or.inr rfl | exact fz_X11_isIn _ _ _
theorem dX11_isPoint_0 : decode cX11_isPoint 0 = .ok (.iload_n 0, 1) := by decide +kernel
theorem dX11_isPoint_1 : decode cX11_isPoint 1 = .ok (.iconst 0, 1) := by decide +kernel
theorem dX11_isPoint_2 : decode cX11_isPoint 2 = .ok (.bipush 39, 2) := by decide +kernel
theorem dX11_isPoint_4 : decode cX11_isPoint 4 = .ok (.invokestatic 118, 3) := by decide +kernel
theorem dX11_isPoint_7 : decode cX11_isPoint 7 = .ok (.ifCond .eq 17, 3) := by decide +kernel
theorem dX11_isPoint_10 : decode cX11_isPoint 10 = .ok (.iload_n 1, 1) := by decide +kernel
theorem dX11_isPoint_11 : decode cX11_isPoint 11 = .ok (.iconst 0, 1) := by decide +kernel
theorem dX11_isPoint_12 : decode cX11_isPoint 12 = .ok (.bipush 23, 2) := by decide +kernel
theorem dX11_isPoint_14 : decode cX11_isPoint 14 = .ok (.invokestatic 118, 3) := by decide +kernel
theorem dX11_isPoint_17 : decode cX11_isPoint 17 = .ok (.ifCond .eq 7, 3) := by decide +kernel
theorem dX11_isPoint_20 : decode cX11_isPoint 20 = .ok (.iconst 1, 1) := by decide +kernel
theorem dX11_isPoint_21 : decode cX11_isPoint 21 = .ok (.goto 4, 3) := by decide +kernel
theorem dX11_isPoint_24 : decode cX11_isPoint 24 = .ok (.iconst 0, 1) := by decide +kernel
theorem dX11_isPoint_25 : decode cX11_isPoint 25 = .ok (.ireturn, 1) := by decide +kernel
def f_X11_isPoint (i0 : Int32) (i1 : Int32) : Int32 := if (f_X11_isIn i0 (0 : Int32) (39 : Int32)) = 0 then ((0 : Int32)) else (if (f_X11_isIn i1 (0 : Int32) (23 : Int32)) = 0 then ((0 : Int32)) else ((1 : Int32)))
set_option maxHeartbeats 4000000 in
set_option maxRecDepth 100000 in
theorem w_X11_isPoint {x : GX} (X : GC x cX11_isPoint 2 RX11 1) {i0 : Int32} {i1 : Int32}  {M : GM} {r9 : Int32} (hR : ∀ (v9 : Int32) (lv9 : List (Nat × Value)) (pc9 : Nat), r9 = v9 → (v9 = 0 ∨ v9 = 1) → decode cX11_isPoint pc9 = .ok (.ireturn, 1) → WG x M lv9 pc9 [.int v9]) (h : f_X11_isPoint i0 i1 = r9) : WG x M [(0, .int i0), (1, .int i1)] 0 [] := by
  unfold f_X11_isPoint at h
  refine g_iload_n X (j := 0) dX11_isPoint_0 rfl rfl ?_
  refine g_iconst X (v := 0) dX11_isPoint_1 (by decide) ?_
  refine g_bipush X (v := 39) dX11_isPoint_2 (by decide) ?_
  refine gc_X11_118 X (ct_X11_isIn X.htr ) (by decide) (Nat.le_of_ble_eq_true rfl) dX11_isPoint_4 ?_
  refine g_if_eq X (tgt := 24) dX11_isPoint_7 (by decide) (fun hb => ?_) (fun hb => ?_)
  · have h := ite_t hb h
    refine g_iconst X (v := 0) dX11_isPoint_24 (by decide) ?_
    exact hR (0 : Int32) _ _ h.symm (Or.inl rfl) dX11_isPoint_25
  · have h := ite_f hb h
    refine g_iload_n X (j := 1) dX11_isPoint_10 rfl rfl ?_
    refine g_iconst X (v := 0) dX11_isPoint_11 (by decide) ?_
    refine g_bipush X (v := 23) dX11_isPoint_12 (by decide) ?_
    refine gc_X11_118 X (ct_X11_isIn X.htr ) (by decide) (Nat.le_of_ble_eq_true rfl) dX11_isPoint_14 ?_
    refine g_if_eq X (tgt := 24) dX11_isPoint_17 (by decide) (fun hb => ?_) (fun hb => ?_)
    · have h := ite_t hb h
      refine g_iconst X (v := 0) dX11_isPoint_24 (by decide) ?_
      exact hR (0 : Int32) _ _ h.symm (Or.inl rfl) dX11_isPoint_25
    · have h := ite_f hb h
      refine g_iconst X (v := 1) dX11_isPoint_20 (by decide) ?_
      refine g_goto X (tgt := 25) dX11_isPoint_21 (by decide) ?_
      exact hR (1 : Int32) _ _ h.symm (Or.inr rfl) dX11_isPoint_25
theorem ct_X11_isPoint {l : Launch} {z : GZ} (htr : l.stackTraces = false) {i0 : Int32} {i1 : Int32}  {M : GM} : gMet l z yX11_isPoint cX11_isPoint 2 (some .boolean) 1 [.int i0, .int i1] M (some (.int (f_X11_isPoint i0 i1))) M := gMet_ofZ (by decide +kernel) (Nat.le_of_ble_eq_true rfl) htr (fun x X ez el hR => by subst ez; subst el; exact w_X11_isPoint X  (fun v9 lv9 pc9 e9 z9 d9 => by cases e9; exact hR lv9 pc9 z9 d9) rfl)
theorem fz_X11_isPoint (i0 : Int32) (i1 : Int32) : f_X11_isPoint i0 i1 = 0 ∨ f_X11_isPoint i0 i1 = 1 := by
  unfold f_X11_isPoint
  repeat' split
  all_goals first | exact Or.inl rfl | exact Or.inr rfl | exact fz_X11_isIn _ _ _
theorem dX11_down_0 : decode cX11_down 0 = .ok (.lload_n 0, 1) := by decide +kernel
theorem dX11_down_1 : decode cX11_down 1 = .ok (.lload_n 2, 1) := by decide +kernel
theorem dX11_down_2 : decode cX11_down 2 = .ok (.ldiv, 1) := by decide +kernel
theorem dX11_down_3 : decode cX11_down 3 = .ok (.lstore 4, 2) := by decide +kernel
theorem dX11_down_5 : decode cX11_down 5 = .ok (.lload_n 0, 1) := by decide +kernel
theorem dX11_down_6 : decode cX11_down 6 = .ok (.lload_n 2, 1) := by decide +kernel
theorem dX11_down_7 : decode cX11_down 7 = .ok (.lrem, 1) := by decide +kernel
theorem dX11_down_8 : decode cX11_down 8 = .ok (.lconst 0, 1) := by decide +kernel
theorem dX11_down_9 : decode cX11_down 9 = .ok (.lcmp, 1) := by decide +kernel
theorem dX11_down_10 : decode cX11_down 10 = .ok (.ifCond .ge 10, 3) := by decide +kernel
theorem dX11_down_13 : decode cX11_down 13 = .ok (.lload 4, 2) := by decide +kernel
theorem dX11_down_15 : decode cX11_down 15 = .ok (.lconst 1, 1) := by decide +kernel
theorem dX11_down_16 : decode cX11_down 16 = .ok (.lsub, 1) := by decide +kernel
theorem dX11_down_17 : decode cX11_down 17 = .ok (.goto 5, 3) := by decide +kernel
theorem dX11_down_20 : decode cX11_down 20 = .ok (.lload 4, 2) := by decide +kernel
theorem dX11_down_22 : decode cX11_down 22 = .ok (.lreturn, 1) := by decide +kernel
def f_X11_down (F : Nat) (j0 : Int64) (j1 : Int64) (M : GM) : Option Int64 := grd (decide (¬ j1 = 0)) (bnd (j0 / j1) (fun w2 => grd (decide (¬ j1 = 0)) (if 0 ≤ (lg_cmp (j0 - j0 / j1 * j1) (0 : Int64)) then (some w2) else (some (w2 - (1 : Int64))))))
set_option maxHeartbeats 4000000 in
set_option maxRecDepth 100000 in
theorem w_X11_down {x : GX} (X : GC x cX11_down 6 RX11 0) {j0 : Int64} {j1 : Int64}  {F : Nat} {M : GM} {r9 : Int64} (hR : ∀ (v9 : Int64) (lv9 : List (Nat × Value)) (pc9 : Nat), r9 = v9 → decode cX11_down pc9 = .ok (.lreturn, 1) → WG x M lv9 pc9 [.long v9]) (h : f_X11_down F j0 j1 M = some r9) : WG x M [(0, .long j0), (2, .long j1)] 0 [] := by
  unfold f_X11_down at h
  refine g_lload_n X (j := 0) dX11_down_0 rfl rfl ?_
  refine g_lload_n X (j := 1) dX11_down_1 rfl rfl ?_
  obtain ⟨hg1, h⟩ := grd_e h
  refine g_ldiv X dX11_down_2 (of_decide_eq_true hg1) ?_
  refine g_topl (fun w2 e3 => ?_)
  have h := bnd_e e3 h
  refine g_lstore X (lv' := [(4, .long w2), (0, .long j0), (2, .long j1)]) dX11_down_3 (by decide) rfl ?_
  refine g_lload_n X (j := 1) dX11_down_5 rfl rfl ?_
  refine g_lload_n X (j := 2) dX11_down_6 rfl rfl ?_
  obtain ⟨hg4, h⟩ := grd_e h
  refine g_lrem X dX11_down_7 (of_decide_eq_true hg4) ?_
  refine g_lconst X (v := 0) dX11_down_8 (by decide) ?_
  refine g_lcmp X dX11_down_9 ?_
  refine g_if_ge X (tgt := 20) dX11_down_10 (by decide) (fun hb => ?_) (fun hb => ?_)
  · have h := ite_t hb h
    refine g_lload X (j := 0) dX11_down_20 rfl ?_
    exact hR w2 _ _ (Option.some.inj h).symm dX11_down_22
  · have h := ite_f hb h
    refine g_lload X (j := 0) dX11_down_13 rfl ?_
    refine g_lconst X (v := 1) dX11_down_15 (by decide) ?_
    refine g_lsub X dX11_down_16 ?_
    refine g_goto X (tgt := 22) dX11_down_17 (by decide) ?_
    exact hR (w2 - (1 : Int64)) _ _ (Option.some.inj h).symm dX11_down_22
theorem ct_X11_down {l : Launch} {z : GZ} (htr : l.stackTraces = false) {j0 : Int64} {j1 : Int64}  {M : GM} {F : Nat} {v : Int64} (h : f_X11_down F j0 j1 M = some v) : gMet l z yX11_down cX11_down 6 (some .long) 0 [.long j0, .long j1] M (some (.long v)) M := gMet_ofL (by decide +kernel) (Nat.le_of_ble_eq_true rfl) htr (fun x X ez el hR => by subst ez; subst el; exact w_X11_down X  (fun v9 lv9 pc9 e9 d9 => by cases e9; exact hR lv9 pc9 d9) h)
theorem dX11_red_0 : decode cX11_red 0 = .ok (.iload_n 0, 1) := by decide +kernel
theorem dX11_red_1 : decode cX11_red 1 = .ok (.bipush 16, 2) := by decide +kernel
theorem dX11_red_3 : decode cX11_red 3 = .ok (.ishr, 1) := by decide +kernel
theorem dX11_red_4 : decode cX11_red 4 = .ok (.ireturn, 1) := by decide +kernel
def f_X11_red (i0 : Int32) : Int32 := (i0 >>> ((16 : Int32) &&& 31))
set_option maxHeartbeats 4000000 in
set_option maxRecDepth 100000 in
theorem w_X11_red {x : GX} (X : GC x cX11_red 1 RX11 0) {i0 : Int32}  {M : GM} {r9 : Int32} (hR : ∀ (v9 : Int32) (lv9 : List (Nat × Value)) (pc9 : Nat), r9 = v9 → decode cX11_red pc9 = .ok (.ireturn, 1) → WG x M lv9 pc9 [.int v9]) (h : f_X11_red i0 = r9) : WG x M [(0, .int i0)] 0 [] := by
  unfold f_X11_red at h
  refine g_iload_n X (j := 0) dX11_red_0 rfl rfl ?_
  refine g_bipush X (v := 16) dX11_red_1 (by decide) ?_
  refine g_ishr X dX11_red_3 ?_
  exact hR (i0 >>> ((16 : Int32) &&& 31)) _ _ h.symm dX11_red_4
theorem ct_X11_red {l : Launch} {z : GZ} (htr : l.stackTraces = false) {i0 : Int32}  {M : GM} : gMet l z yX11_red cX11_red 1 (some .int) 0 [.int i0] M (some (.int (f_X11_red i0))) M := gMet_ofI (by decide +kernel) (Nat.le_of_ble_eq_true rfl) htr rfl (fun x X ez el hR => by subst ez; subst el; exact w_X11_red X  (fun v9 lv9 pc9 e9 d9 => by cases e9; exact hR lv9 pc9 d9) rfl)
theorem dX11_green_0 : decode cX11_green 0 = .ok (.iload_n 0, 1) := by decide +kernel
theorem dX11_green_1 : decode cX11_green 1 = .ok (.bipush 8, 2) := by decide +kernel
theorem dX11_green_3 : decode cX11_green 3 = .ok (.ishr, 1) := by decide +kernel
theorem dX11_green_4 : decode cX11_green 4 = .ok (.sipush 255, 3) := by decide +kernel
theorem dX11_green_7 : decode cX11_green 7 = .ok (.iand, 1) := by decide +kernel
theorem dX11_green_8 : decode cX11_green 8 = .ok (.ireturn, 1) := by decide +kernel
def f_X11_green (i0 : Int32) : Int32 := ((i0 >>> ((8 : Int32) &&& 31)) &&& (255 : Int32))
set_option maxHeartbeats 4000000 in
set_option maxRecDepth 100000 in
theorem w_X11_green {x : GX} (X : GC x cX11_green 1 RX11 0) {i0 : Int32}  {M : GM} {r9 : Int32} (hR : ∀ (v9 : Int32) (lv9 : List (Nat × Value)) (pc9 : Nat), r9 = v9 → decode cX11_green pc9 = .ok (.ireturn, 1) → WG x M lv9 pc9 [.int v9]) (h : f_X11_green i0 = r9) : WG x M [(0, .int i0)] 0 [] := by
  unfold f_X11_green at h
  refine g_iload_n X (j := 0) dX11_green_0 rfl rfl ?_
  refine g_bipush X (v := 8) dX11_green_1 (by decide) ?_
  refine g_ishr X dX11_green_3 ?_
  refine g_sipush X (v := 255) dX11_green_4 (by decide) ?_
  refine g_iand X dX11_green_7 ?_
  exact hR ((i0 >>> ((8 : Int32) &&& 31)) &&& (255 : Int32)) _ _ h.symm dX11_green_8
theorem ct_X11_green {l : Launch} {z : GZ} (htr : l.stackTraces = false) {i0 : Int32}  {M : GM} : gMet l z yX11_green cX11_green 1 (some .int) 0 [.int i0] M (some (.int (f_X11_green i0))) M := gMet_ofI (by decide +kernel) (Nat.le_of_ble_eq_true rfl) htr rfl (fun x X ez el hR => by subst ez; subst el; exact w_X11_green X  (fun v9 lv9 pc9 e9 d9 => by cases e9; exact hR lv9 pc9 d9) rfl)
theorem dX11_blue_0 : decode cX11_blue 0 = .ok (.iload_n 0, 1) := by decide +kernel
theorem dX11_blue_1 : decode cX11_blue 1 = .ok (.sipush 255, 3) := by decide +kernel
theorem dX11_blue_4 : decode cX11_blue 4 = .ok (.iand, 1) := by decide +kernel
theorem dX11_blue_5 : decode cX11_blue 5 = .ok (.ireturn, 1) := by decide +kernel
def f_X11_blue (i0 : Int32) : Int32 := (i0 &&& (255 : Int32))
set_option maxHeartbeats 4000000 in
set_option maxRecDepth 100000 in
theorem w_X11_blue {x : GX} (X : GC x cX11_blue 1 RX11 0) {i0 : Int32}  {M : GM} {r9 : Int32} (hR : ∀ (v9 : Int32) (lv9 : List (Nat × Value)) (pc9 : Nat), r9 = v9 → decode cX11_blue pc9 = .ok (.ireturn, 1) → WG x M lv9 pc9 [.int v9]) (h : f_X11_blue i0 = r9) : WG x M [(0, .int i0)] 0 [] := by
  unfold f_X11_blue at h
  refine g_iload_n X (j := 0) dX11_blue_0 rfl rfl ?_
  refine g_sipush X (v := 255) dX11_blue_1 (by decide) ?_
  refine g_iand X dX11_blue_4 ?_
  exact hR (i0 &&& (255 : Int32)) _ _ h.symm dX11_blue_5
theorem ct_X11_blue {l : Launch} {z : GZ} (htr : l.stackTraces = false) {i0 : Int32}  {M : GM} : gMet l z yX11_blue cX11_blue 1 (some .int) 0 [.int i0] M (some (.int (f_X11_blue i0))) M := gMet_ofI (by decide +kernel) (Nat.le_of_ble_eq_true rfl) htr rfl (fun x X ez el hR => by subst ez; subst el; exact w_X11_blue X  (fun v9 lv9 pc9 e9 d9 => by cases e9; exact hR lv9 pc9 d9) rfl)
theorem dX11_mixed_0 : decode cX11_mixed 0 = .ok (.iload_n 0, 1) := by decide +kernel
theorem dX11_mixed_1 : decode cX11_mixed 1 = .ok (.bipush 16, 2) := by decide +kernel
theorem dX11_mixed_3 : decode cX11_mixed 3 = .ok (.ishl, 1) := by decide +kernel
theorem dX11_mixed_4 : decode cX11_mixed 4 = .ok (.iload_n 1, 1) := by decide +kernel
theorem dX11_mixed_5 : decode cX11_mixed 5 = .ok (.bipush 8, 2) := by decide +kernel
theorem dX11_mixed_7 : decode cX11_mixed 7 = .ok (.ishl, 1) := by decide +kernel
theorem dX11_mixed_8 : decode cX11_mixed 8 = .ok (.ior, 1) := by decide +kernel
theorem dX11_mixed_9 : decode cX11_mixed 9 = .ok (.iload_n 2, 1) := by decide +kernel
theorem dX11_mixed_10 : decode cX11_mixed 10 = .ok (.ior, 1) := by decide +kernel
theorem dX11_mixed_11 : decode cX11_mixed 11 = .ok (.ireturn, 1) := by decide +kernel
def f_X11_mixed (i0 : Int32) (i1 : Int32) (i2 : Int32) : Int32 := (((i0 <<< ((16 : Int32) &&& 31)) ||| (i1 <<< ((8 : Int32) &&& 31))) ||| i2)
set_option maxHeartbeats 4000000 in
set_option maxRecDepth 100000 in
theorem w_X11_mixed {x : GX} (X : GC x cX11_mixed 3 RX11 0) {i0 : Int32} {i1 : Int32} {i2 : Int32}  {M : GM} {r9 : Int32} (hR : ∀ (v9 : Int32) (lv9 : List (Nat × Value)) (pc9 : Nat), r9 = v9 → decode cX11_mixed pc9 = .ok (.ireturn, 1) → WG x M lv9 pc9 [.int v9]) (h : f_X11_mixed i0 i1 i2 = r9) : WG x M [(0, .int i0), (1, .int i1), (2, .int i2)] 0 [] := by
  unfold f_X11_mixed at h
  refine g_iload_n X (j := 0) dX11_mixed_0 rfl rfl ?_
  refine g_bipush X (v := 16) dX11_mixed_1 (by decide) ?_
  refine g_ishl X dX11_mixed_3 ?_
  refine g_iload_n X (j := 1) dX11_mixed_4 rfl rfl ?_
  refine g_bipush X (v := 8) dX11_mixed_5 (by decide) ?_
  refine g_ishl X dX11_mixed_7 ?_
  refine g_ior X dX11_mixed_8 ?_
  refine g_iload_n X (j := 2) dX11_mixed_9 rfl rfl ?_
  refine g_ior X dX11_mixed_10 ?_
  exact hR (((i0 <<< ((16 : Int32) &&& 31)) ||| (i1 <<< ((8 : Int32) &&& 31))) ||| i2) _ _ h.symm dX11_mixed_11
theorem ct_X11_mixed {l : Launch} {z : GZ} (htr : l.stackTraces = false) {i0 : Int32} {i1 : Int32} {i2 : Int32}  {M : GM} : gMet l z yX11_mixed cX11_mixed 3 (some .int) 0 [.int i0, .int i1, .int i2] M (some (.int (f_X11_mixed i0 i1 i2))) M := gMet_ofI (by decide +kernel) (Nat.le_of_ble_eq_true rfl) htr rfl (fun x X ez el hR => by subst ez; subst el; exact w_X11_mixed X  (fun v9 lv9 pc9 e9 d9 => by cases e9; exact hR lv9 pc9 d9) rfl)
theorem dX11_empty_0 : decode cX11_empty 0 = .ok (.iconst 0, 1) := by decide +kernel
theorem dX11_empty_1 : decode cX11_empty 1 = .ok (.istore_n 1, 1) := by decide +kernel
theorem dX11_empty_2 : decode cX11_empty 2 = .ok (.iload_n 1, 1) := by decide +kernel
theorem dX11_empty_3 : decode cX11_empty 3 = .ok (.sipush 960, 3) := by decide +kernel
theorem dX11_empty_6 : decode cX11_empty 6 = .ok (.if_icmp .ge 34, 3) := by decide +kernel
theorem dX11_empty_9 : decode cX11_empty 9 = .ok (.aload_n 0, 1) := by decide +kernel
theorem dX11_empty_10 : decode cX11_empty 10 = .ok (.getfield 56, 3) := by decide +kernel
theorem dX11_empty_13 : decode cX11_empty 13 = .ok (.iload_n 1, 1) := by decide +kernel
theorem dX11_empty_14 : decode cX11_empty 14 = .ok (.aload_n 0, 1) := by decide +kernel
theorem dX11_empty_15 : decode cX11_empty 15 = .ok (.getfield 128, 3) := by decide +kernel
theorem dX11_empty_18 : decode cX11_empty 18 = .ok (.iastore, 1) := by decide +kernel
theorem dX11_empty_19 : decode cX11_empty 19 = .ok (.aload_n 0, 1) := by decide +kernel
theorem dX11_empty_20 : decode cX11_empty 20 = .ok (.getfield 59, 3) := by decide +kernel
theorem dX11_empty_23 : decode cX11_empty 23 = .ok (.iload_n 1, 1) := by decide +kernel
theorem dX11_empty_24 : decode cX11_empty 24 = .ok (.ldc 131, 2) := by decide +kernel
theorem dX11_empty_26 : decode cX11_empty 26 = .ok (.iastore, 1) := by decide +kernel
theorem dX11_empty_27 : decode cX11_empty 27 = .ok (.aload_n 0, 1) := by decide +kernel
theorem dX11_empty_28 : decode cX11_empty 28 = .ok (.getfield 62, 3) := by decide +kernel
theorem dX11_empty_31 : decode cX11_empty 31 = .ok (.iload_n 1, 1) := by decide +kernel
theorem dX11_empty_32 : decode cX11_empty 32 = .ok (.iconst (-1), 1) := by decide +kernel
theorem dX11_empty_33 : decode cX11_empty 33 = .ok (.iastore, 1) := by decide +kernel
theorem dX11_empty_34 : decode cX11_empty 34 = .ok (.iinc 1 1, 3) := by decide +kernel
theorem dX11_empty_37 : decode cX11_empty 37 = .ok (.goto (-35), 3) := by decide +kernel
theorem dX11_empty_40 : decode cX11_empty 40 = .ok (.return_, 1) := by decide +kernel
def st_X11_empty_2 (F : Nat)  (rec : Int32 → GM → Option GM) (a3 : Int32) (M : GM) : Option GM := if (960 : Int32) ≤ a3 then (some M) else (grd (gIn a3 (gN 138)) (bnd (sI M 138 a3.toNatClampNeg (gI M 122 5)) (fun M5 => grd (gIn a3 (gN 139)) (bnd (sI M5 139 a3.toNatClampNeg (65535 : Int32)) (fun M8 => grd (gIn a3 (gN 140)) (bnd (sI M8 140 a3.toNatClampNeg ((-1) : Int32)) (fun M11 => bnd (a3 + (1 : Int32)) (fun v13 => rec v13 M11))))))))
def lp_X11_empty_2 (F : Nat)  : Nat → Int32 → GM → Option GM
  | 0 => fun _ _ => none
  | f + 1 => fun a3 M => st_X11_empty_2 F  (lp_X11_empty_2 F  f) a3 M
set_option maxHeartbeats 4000000 in
set_option maxRecDepth 100000 in
theorem lw_X11_empty_2 {x : GX} (X : GC x cX11_empty 2 RX11 0)   {F : Nat} {r9 : GM} (hE : ∀  (M9 : GM), r9 = M9 → WG x M9 [] 40 []) : ∀ (f : Nat) (a3 : Int32) (M : GM), lp_X11_empty_2 F  f a3 M = some r9 → WG x M [(0, .ref (gad (xz x) 122)), (1, .int a3)] 2 [] := by
  intro f
  induction f with
  | zero => intro a3 M h; cases h
  | succ f ih =>
    intro a3 M h
    have hrec := ih
    have h : st_X11_empty_2 F  (lp_X11_empty_2 F  f) a3 M = some r9 := h
    generalize lp_X11_empty_2 F  f = rec at h hrec
    unfold st_X11_empty_2 at h
    refine g_iload_n X (j := 1) dX11_empty_2 rfl rfl ?_
    refine g_sipush X (v := 960) dX11_empty_3 (by decide) ?_
    refine g_icmp_ge X (tgt := 40) dX11_empty_6 (by decide) (fun hb => ?_) (fun hb => ?_)
    · have h := ite_t hb h
      refine g_lv [] rfl ?_
      exact hE M (Option.some.inj h).symm
    · have h := ite_f hb h
      refine g_aload_n X (j := 0) dX11_empty_9 rfl rfl ?_
      refine gf_X11_56 X gT_c122 dX11_empty_10 ?_
      refine g_iload_n X (j := 1) dX11_empty_13 rfl rfl ?_
      refine g_aload_n X (j := 0) dX11_empty_14 rfl rfl ?_
      refine gf_X11_128 X gT_c122 dX11_empty_15 ?_
      obtain ⟨hg4, h⟩ := grd_e h
      refine g_iast X gT_c138 hg4 dX11_empty_18 ?_
      refine g_mem (fun M5 e6 => ?_)
      have h := bnd_e e6 h
      refine g_aload_n X (j := 0) dX11_empty_19 rfl rfl ?_
      refine gf_X11_59 X gT_c122 dX11_empty_20 ?_
      refine g_iload_n X (j := 1) dX11_empty_23 rfl rfl ?_
      refine g_ldc X q_1058 dX11_empty_24 ?_
      obtain ⟨hg7, h⟩ := grd_e h
      refine g_iast X gT_c139 hg7 dX11_empty_26 ?_
      refine g_mem (fun M8 e9 => ?_)
      have h := bnd_e e9 h
      refine g_aload_n X (j := 0) dX11_empty_27 rfl rfl ?_
      refine gf_X11_62 X gT_c122 dX11_empty_28 ?_
      refine g_iload_n X (j := 1) dX11_empty_31 rfl rfl ?_
      refine g_iconst X (v := (-1)) dX11_empty_32 (by decide) ?_
      obtain ⟨hg10, h⟩ := grd_e h
      refine g_iast X gT_c140 hg10 dX11_empty_33 ?_
      refine g_mem (fun M11 e12 => ?_)
      have h := bnd_e e12 h
      refine g_iinc X (j := 1) (w := a3 + (1 : Int32)) (lv' := [(0, .ref (gad (xz x) 122))]) dX11_empty_34 rfl (by rw [ii_1]) (by decide) (fun _ => rfl) (fun v13 e14 => ?_)
      have h := bnd_e e14 h
      refine g_goto X (tgt := 2) dX11_empty_37 (by decide) ?_
      refine g_lv [1, 0] rfl ?_
      exact hrec v13 M11 h
def f_X11_empty (F : Nat) (M : GM) : Option GM := bnd (0 : Int32) (fun v1 => bndO (lp_X11_empty_2 F  F v1 M) (fun M15 => some M15))
set_option maxHeartbeats 4000000 in
set_option maxRecDepth 100000 in
theorem w_X11_empty {x : GX} (X : GC x cX11_empty 2 RX11 0)   {F : Nat} {M : GM} {r9 : GM} (hR : ∀ (M9 : GM) (lv9 : List (Nat × Value)) (pc9 : Nat), r9 = M9 → decode cX11_empty pc9 = .ok (.return_, 1) → WG x M9 lv9 pc9 []) (h : f_X11_empty F M = some r9) : WG x M [(0, .ref (gad (xz x) 122))] 0 [] := by
  unfold f_X11_empty at h
  refine g_iconst X (v := 0) dX11_empty_0 (by decide) ?_
  refine g_topi (fun v1 e2 => ?_)
  have h := bnd_e e2 h
  refine g_istore_n X (lv' := [(1, .int v1), (0, .ref (gad (xz x) 122))]) dX11_empty_1 rfl (by decide) rfl ?_
  refine g_lv [1, 0] rfl ?_
  obtain ⟨M15, hl16, h⟩ := bndO_e h
  refine lw_X11_empty_2 X  (fun M15_ e9 => ?_) F v1 M hl16
  cases e9
  exact hR M15 _ _ (Option.some.inj h).symm dX11_empty_40
theorem ct_X11_empty {l : Launch} {z : GZ} (htr : l.stackTraces = false)   {M : GM} {F : Nat} {M1 : GM} (h : f_X11_empty F M = some M1) : gMet l z yX11_empty cX11_empty 2 none 0 [.ref (gad z 122)] M (none) M1 := gMet_ofV (by decide +kernel) (Nat.le_of_ble_eq_true rfl) htr (fun x X ez el hR => by subst ez; subst el; exact w_X11_empty X  (fun M9 lv9 pc9 e9 d9 => by cases e9; exact hR lv9 pc9 d9) h)
theorem dX11_put_0 : decode cX11_put 0 = .ok (.aload_n 0, 1) := by decide +kernel
theorem dX11_put_1 : decode cX11_put 1 = .ok (.getfield 18, 3) := by decide +kernel
theorem dX11_put_4 : decode cX11_put 4 = .ok (.iconst 0, 1) := by decide +kernel
theorem dX11_put_5 : decode cX11_put 5 = .ok (.aaload, 1) := by decide +kernel
theorem dX11_put_6 : decode cX11_put 6 = .ok (.iload_n 1, 1) := by decide +kernel
theorem dX11_put_7 : decode cX11_put 7 = .ok (.iload_n 2, 1) := by decide +kernel
theorem dX11_put_8 : decode cX11_put 8 = .ok (.iastore, 1) := by decide +kernel
theorem dX11_put_9 : decode cX11_put 9 = .ok (.aload_n 0, 1) := by decide +kernel
theorem dX11_put_10 : decode cX11_put 10 = .ok (.getfield 18, 3) := by decide +kernel
theorem dX11_put_13 : decode cX11_put 13 = .ok (.iconst 1, 1) := by decide +kernel
theorem dX11_put_14 : decode cX11_put 14 = .ok (.aaload, 1) := by decide +kernel
theorem dX11_put_15 : decode cX11_put 15 = .ok (.iload_n 1, 1) := by decide +kernel
theorem dX11_put_16 : decode cX11_put 16 = .ok (.iload_n 3, 1) := by decide +kernel
theorem dX11_put_17 : decode cX11_put 17 = .ok (.iastore, 1) := by decide +kernel
theorem dX11_put_18 : decode cX11_put 18 = .ok (.aload_n 0, 1) := by decide +kernel
theorem dX11_put_19 : decode cX11_put 19 = .ok (.getfield 18, 3) := by decide +kernel
theorem dX11_put_22 : decode cX11_put 22 = .ok (.iconst 2, 1) := by decide +kernel
theorem dX11_put_23 : decode cX11_put 23 = .ok (.aaload, 1) := by decide +kernel
theorem dX11_put_24 : decode cX11_put 24 = .ok (.iload_n 1, 1) := by decide +kernel
theorem dX11_put_25 : decode cX11_put 25 = .ok (.iload 4, 2) := by decide +kernel
theorem dX11_put_27 : decode cX11_put 27 = .ok (.iastore, 1) := by decide +kernel
theorem dX11_put_28 : decode cX11_put 28 = .ok (.return_, 1) := by decide +kernel
def f_X11_put (F : Nat) (i0 : Int32) (i1 : Int32) (i2 : Int32) (i3 : Int32) (M : GM) : Option GM := grd (gIn i0 (gN 124)) (bnd (sI M 124 i0.toNatClampNeg i1) (fun M2 => grd (gIn i0 (gN 125)) (bnd (sI M2 125 i0.toNatClampNeg i2) (fun M5 => grd (gIn i0 (gN 126)) (bnd (sI M5 126 i0.toNatClampNeg i3) (fun M8 => some M8))))))
set_option maxHeartbeats 4000000 in
set_option maxRecDepth 100000 in
theorem w_X11_put {x : GX} (X : GC x cX11_put 5 RX11 0) {i0 : Int32} {i1 : Int32} {i2 : Int32} {i3 : Int32}  {F : Nat} {M : GM} {r9 : GM} (hR : ∀ (M9 : GM) (lv9 : List (Nat × Value)) (pc9 : Nat), r9 = M9 → decode cX11_put pc9 = .ok (.return_, 1) → WG x M9 lv9 pc9 []) (h : f_X11_put F i0 i1 i2 i3 M = some r9) : WG x M [(0, .ref (gad (xz x) 122)), (1, .int i0), (2, .int i1), (3, .int i2), (4, .int i3)] 0 [] := by
  unfold f_X11_put at h
  refine g_aload_n X (j := 0) dX11_put_0 rfl rfl ?_
  refine gf_X11_18 X gT_c122 dX11_put_1 ?_
  refine g_iconst X (v := 0) dX11_put_4 (by decide) ?_
  refine g_aald_28 X gT_c123 (by decide +kernel) dX11_put_5 ?_
  rw [show gR 123 (Int32.toNatClampNeg 0) = 124 by decide +kernel]
  refine g_iload_n X (j := 1) dX11_put_6 rfl rfl ?_
  refine g_iload_n X (j := 2) dX11_put_7 rfl rfl ?_
  obtain ⟨hg1, h⟩ := grd_e h
  refine g_iast X gT_c124 hg1 dX11_put_8 ?_
  refine g_mem (fun M2 e3 => ?_)
  have h := bnd_e e3 h
  refine g_aload_n X (j := 0) dX11_put_9 rfl rfl ?_
  refine gf_X11_18 X gT_c122 dX11_put_10 ?_
  refine g_iconst X (v := 1) dX11_put_13 (by decide) ?_
  refine g_aald_28 X gT_c123 (by decide +kernel) dX11_put_14 ?_
  rw [show gR 123 (Int32.toNatClampNeg 1) = 125 by decide +kernel]
  refine g_iload_n X (j := 1) dX11_put_15 rfl rfl ?_
  refine g_iload_n X (j := 3) dX11_put_16 rfl rfl ?_
  obtain ⟨hg4, h⟩ := grd_e h
  refine g_iast X gT_c125 hg4 dX11_put_17 ?_
  refine g_mem (fun M5 e6 => ?_)
  have h := bnd_e e6 h
  refine g_aload_n X (j := 0) dX11_put_18 rfl rfl ?_
  refine gf_X11_18 X gT_c122 dX11_put_19 ?_
  refine g_iconst X (v := 2) dX11_put_22 (by decide) ?_
  refine g_aald_28 X gT_c123 (by decide +kernel) dX11_put_23 ?_
  rw [show gR 123 (Int32.toNatClampNeg 2) = 126 by decide +kernel]
  refine g_iload_n X (j := 1) dX11_put_24 rfl rfl ?_
  refine g_iload X (j := 4) dX11_put_25 rfl ?_
  obtain ⟨hg7, h⟩ := grd_e h
  refine g_iast X gT_c126 hg7 dX11_put_27 ?_
  refine g_mem (fun M8 e9 => ?_)
  have h := bnd_e e9 h
  exact hR M8 _ _ (Option.some.inj h).symm dX11_put_28
theorem ct_X11_put {l : Launch} {z : GZ} (htr : l.stackTraces = false) {i0 : Int32} {i1 : Int32} {i2 : Int32} {i3 : Int32}  {M : GM} {F : Nat} {M1 : GM} (h : f_X11_put F i0 i1 i2 i3 M = some M1) : gMet l z yX11_put cX11_put 5 none 0 [.ref (gad z 122), .int i0, .int i1, .int i2, .int i3] M (none) M1 := gMet_ofV (by decide +kernel) (Nat.le_of_ble_eq_true rfl) htr (fun x X ez el hR => by subst ez; subst el; exact w_X11_put X  (fun M9 lv9 pc9 e9 d9 => by cases e9; exact hR lv9 pc9 d9) h)
theorem gc_X11_132 {x : GX} {cc : ByteArray} {nL d pc : Nat} {M : GM} {lv : List (Nat × Value)} {st : List Value} (X : GC x cc nL RX11 d) {i0 : Int32} {i1 : Int32} {i2 : Int32} {M1 : GM} {r : Int32} (hM : gMet (xl x) (xz x) yX11_isPlace cX11_isPlace 3 (some .boolean) 1 [.int i0, .int i1, .int i2] M (some (.int r)) M1) (hd : 2 ≤ d) (hsum : (st.map fun v => v.category).sum ≤ 8) (dec : decode cc pc = .ok (.invokestatic 132, 3)) (go : WG x M1 lv (pc + 3) (.int r :: st)) : WG x M lv pc (.int i2 :: .int i1 :: .int i0 :: st) := g_callS X (n := 3) (As := [.int i0, .int i1, .int i2]) (rest := st) hM q_1199 q_1200 q_63 q_1201 (by decide +kernel) rfl hd (by decide) rfl hsum dec go
theorem gc_X11_135 {x : GX} {cc : ByteArray} {nL d pc : Nat} {M : GM} {lv : List (Nat × Value)} {st : List Value} (X : GC x cc nL RX11 d) {i0 : Int32} {M1 : GM} {r : Int32} (hM : gMet (xl x) (xz x) yX11_isColour cX11_isColour 1 (some .boolean) 1 [.int i0] M (some (.int r)) M1) (hd : 2 ≤ d) (hsum : (st.map fun v => v.category).sum ≤ 8) (dec : decode cc pc = .ok (.invokestatic 135, 3)) (go : WG x M1 lv (pc + 3) (.int r :: st)) : WG x M lv pc (.int i0 :: st) := g_callS X (n := 1) (As := [.int i0]) (rest := st) hM q_1205 q_1206 q_63 q_1207 (by decide +kernel) rfl hd (by decide) rfl hsum dec go
theorem gc_X11_139 {x : GX} {cc : ByteArray} {nL d pc : Nat} {M : GM} {lv : List (Nat × Value)} {st : List Value} (X : GC x cc nL RX11 d) {i0 : Int32} {M1 : GM} {r : Int32} (ht : gT 122 = 11) (hM : gMet (xl x) (xz x) yX11_no cX11_no 2 (some .int) 0 [.ref (gad (xz x) 122), .int i0] M (some (.int r)) M1) (hd : 1 ≤ d) (hsum : (st.map fun v => v.category).sum ≤ 8) (dec : decode cc pc = .ok (.invokevirtual 139, 3)) (go : WG x M1 lv (pc + 3) (.int r :: st)) : WG x M lv pc (.int i0 :: .ref (gad (xz x) 122) :: st) := g_callV X (n := 1) (As := [.int i0]) (rest := st) hM ht (by decide) (gE_11 ht) rfl q_1209 q_1211 q_16 q_63 q_1212 (by decide +kernel) rfl hd (by decide) rfl hsum dec go
theorem gc_X11_143 {x : GX} {cc : ByteArray} {nL d pc : Nat} {M : GM} {lv : List (Nat × Value)} {st : List Value} (X : GC x cc nL RX11 d) {i0 : Int32} {i1 : Int32} {i2 : Int32} {i3 : Int32} {M1 : GM} (ht : gT 122 = 11) (hM : gMet (xl x) (xz x) yX11_put cX11_put 5 none 0 [.ref (gad (xz x) 122), .int i0, .int i1, .int i2, .int i3] M (none) M1) (hd : 1 ≤ d) (hsum : (st.map fun v => v.category).sum ≤ 8) (dec : decode cc pc = .ok (.invokevirtual 143, 3)) (go : WG x M1 lv (pc + 3) (st)) : WG x M lv pc (.int i3 :: .int i2 :: .int i1 :: .int i0 :: .ref (gad (xz x) 122) :: st) := g_callV X (n := 4) (As := [.int i0, .int i1, .int i2, .int i3]) (rest := st) hM ht (by decide) (gE_11 ht) rfl q_1213 q_1215 q_17 q_63 q_1216 (by decide +kernel) rfl hd (by decide) rfl hsum dec go
theorem dX11_addCorner_0 : decode cX11_addCorner 0 = .ok (.aload_n 0, 1) := by decide +kernel
theorem dX11_addCorner_1 : decode cX11_addCorner 1 = .ok (.iconst 0, 1) := by decide +kernel
theorem dX11_addCorner_2 : decode cX11_addCorner 2 = .ok (.putfield 114, 3) := by decide +kernel
theorem dX11_addCorner_5 : decode cX11_addCorner 5 = .ok (.iload_n 1, 1) := by decide +kernel
theorem dX11_addCorner_6 : decode cX11_addCorner 6 = .ok (.iload_n 2, 1) := by decide +kernel
theorem dX11_addCorner_7 : decode cX11_addCorner 7 = .ok (.iload_n 3, 1) := by decide +kernel
theorem dX11_addCorner_8 : decode cX11_addCorner 8 = .ok (.invokestatic 132, 3) := by decide +kernel
theorem dX11_addCorner_11 : decode cX11_addCorner 11 = .ok (.ifCond .eq 35, 3) := by decide +kernel
theorem dX11_addCorner_14 : decode cX11_addCorner 14 = .ok (.iload 4, 2) := by decide +kernel
theorem dX11_addCorner_16 : decode cX11_addCorner 16 = .ok (.invokestatic 135, 3) := by decide +kernel
theorem dX11_addCorner_19 : decode cX11_addCorner 19 = .ok (.ifCond .eq 27, 3) := by decide +kernel
theorem dX11_addCorner_22 : decode cX11_addCorner 22 = .ok (.iload 5, 2) := by decide +kernel
theorem dX11_addCorner_24 : decode cX11_addCorner 24 = .ok (.iconst 0, 1) := by decide +kernel
theorem dX11_addCorner_25 : decode cX11_addCorner 25 = .ok (.sipush 2047, 3) := by decide +kernel
theorem dX11_addCorner_28 : decode cX11_addCorner 28 = .ok (.invokestatic 118, 3) := by decide +kernel
theorem dX11_addCorner_31 : decode cX11_addCorner 31 = .ok (.ifCond .eq 15, 3) := by decide +kernel
theorem dX11_addCorner_34 : decode cX11_addCorner 34 = .ok (.iload 6, 2) := by decide +kernel
theorem dX11_addCorner_36 : decode cX11_addCorner 36 = .ok (.iconst 0, 1) := by decide +kernel
theorem dX11_addCorner_37 : decode cX11_addCorner 37 = .ok (.sipush 2047, 3) := by decide +kernel
theorem dX11_addCorner_40 : decode cX11_addCorner 40 = .ok (.invokestatic 118, 3) := by decide +kernel
theorem dX11_addCorner_43 : decode cX11_addCorner 43 = .ok (.ifCond .ne 9, 3) := by decide +kernel
theorem dX11_addCorner_46 : decode cX11_addCorner 46 = .ok (.aload_n 0, 1) := by decide +kernel
theorem dX11_addCorner_47 : decode cX11_addCorner 47 = .ok (.iconst 1, 1) := by decide +kernel
theorem dX11_addCorner_48 : decode cX11_addCorner 48 = .ok (.invokevirtual 139, 3) := by decide +kernel
theorem dX11_addCorner_51 : decode cX11_addCorner 51 = .ok (.ireturn, 1) := by decide +kernel
theorem dX11_addCorner_52 : decode cX11_addCorner 52 = .ok (.aload_n 0, 1) := by decide +kernel
theorem dX11_addCorner_53 : decode cX11_addCorner 53 = .ok (.getfield 122, 3) := by decide +kernel
theorem dX11_addCorner_56 : decode cX11_addCorner 56 = .ok (.bipush 40, 2) := by decide +kernel
theorem dX11_addCorner_58 : decode cX11_addCorner 58 = .ok (.if_icmp .ne 9, 3) := by decide +kernel
theorem dX11_addCorner_61 : decode cX11_addCorner 61 = .ok (.aload_n 0, 1) := by decide +kernel
theorem dX11_addCorner_62 : decode cX11_addCorner 62 = .ok (.iconst 2, 1) := by decide +kernel
theorem dX11_addCorner_63 : decode cX11_addCorner 63 = .ok (.invokevirtual 139, 3) := by decide +kernel
theorem dX11_addCorner_66 : decode cX11_addCorner 66 = .ok (.ireturn, 1) := by decide +kernel
theorem dX11_addCorner_67 : decode cX11_addCorner 67 = .ok (.aload_n 0, 1) := by decide +kernel
theorem dX11_addCorner_68 : decode cX11_addCorner 68 = .ok (.aload_n 0, 1) := by decide +kernel
theorem dX11_addCorner_69 : decode cX11_addCorner 69 = .ok (.getfield 122, 3) := by decide +kernel
theorem dX11_addCorner_72 : decode cX11_addCorner 72 = .ok (.iload_n 1, 1) := by decide +kernel
theorem dX11_addCorner_73 : decode cX11_addCorner 73 = .ok (.iload_n 2, 1) := by decide +kernel
theorem dX11_addCorner_74 : decode cX11_addCorner 74 = .ok (.iload_n 3, 1) := by decide +kernel
theorem dX11_addCorner_75 : decode cX11_addCorner 75 = .ok (.invokevirtual 143, 3) := by decide +kernel
theorem dX11_addCorner_78 : decode cX11_addCorner 78 = .ok (.aload_n 0, 1) := by decide +kernel
theorem dX11_addCorner_79 : decode cX11_addCorner 79 = .ok (.getfield 21, 3) := by decide +kernel
theorem dX11_addCorner_82 : decode cX11_addCorner 82 = .ok (.aload_n 0, 1) := by decide +kernel
theorem dX11_addCorner_83 : decode cX11_addCorner 83 = .ok (.getfield 122, 3) := by decide +kernel
theorem dX11_addCorner_86 : decode cX11_addCorner 86 = .ok (.iload 4, 2) := by decide +kernel
theorem dX11_addCorner_88 : decode cX11_addCorner 88 = .ok (.iastore, 1) := by decide +kernel
theorem dX11_addCorner_89 : decode cX11_addCorner 89 = .ok (.aload_n 0, 1) := by decide +kernel
theorem dX11_addCorner_90 : decode cX11_addCorner 90 = .ok (.getfield 25, 3) := by decide +kernel
theorem dX11_addCorner_93 : decode cX11_addCorner 93 = .ok (.aload_n 0, 1) := by decide +kernel
theorem dX11_addCorner_94 : decode cX11_addCorner 94 = .ok (.getfield 122, 3) := by decide +kernel
theorem dX11_addCorner_97 : decode cX11_addCorner 97 = .ok (.iload 5, 2) := by decide +kernel
theorem dX11_addCorner_99 : decode cX11_addCorner 99 = .ok (.iastore, 1) := by decide +kernel
theorem dX11_addCorner_100 : decode cX11_addCorner 100 = .ok (.aload_n 0, 1) := by decide +kernel
theorem dX11_addCorner_101 : decode cX11_addCorner 101 = .ok (.getfield 28, 3) := by decide +kernel
theorem dX11_addCorner_104 : decode cX11_addCorner 104 = .ok (.aload_n 0, 1) := by decide +kernel
theorem dX11_addCorner_105 : decode cX11_addCorner 105 = .ok (.getfield 122, 3) := by decide +kernel
theorem dX11_addCorner_108 : decode cX11_addCorner 108 = .ok (.iload 6, 2) := by decide +kernel
theorem dX11_addCorner_110 : decode cX11_addCorner 110 = .ok (.iastore, 1) := by decide +kernel
theorem dX11_addCorner_111 : decode cX11_addCorner 111 = .ok (.aload_n 0, 1) := by decide +kernel
theorem dX11_addCorner_112 : decode cX11_addCorner 112 = .ok (.dup, 1) := by decide +kernel
theorem dX11_addCorner_113 : decode cX11_addCorner 113 = .ok (.getfield 122, 3) := by decide +kernel
theorem dX11_addCorner_116 : decode cX11_addCorner 116 = .ok (.dup_x1, 1) := by decide +kernel
theorem dX11_addCorner_117 : decode cX11_addCorner 117 = .ok (.iconst 1, 1) := by decide +kernel
theorem dX11_addCorner_118 : decode cX11_addCorner 118 = .ok (.iadd, 1) := by decide +kernel
theorem dX11_addCorner_119 : decode cX11_addCorner 119 = .ok (.putfield 122, 3) := by decide +kernel
theorem dX11_addCorner_122 : decode cX11_addCorner 122 = .ok (.ireturn, 1) := by decide +kernel
def bk_X11_addCorner_46 (F : Nat) (M : GM) : Option (Int32 × GM) := bndO (f_X11_no F (1 : Int32) M) (fun (v4, M5) => some (v4, M5))
set_option maxHeartbeats 4000000 in
set_option maxRecDepth 100000 in
theorem bw_X11_addCorner_46 {x : GX} (X : GC x cX11_addCorner 7 RX11 2)    {F : Nat} {M : GM} {r9 : (Int32 × GM)} (hR : ∀ (v9 : Int32) (M9 : GM) (lv9 : List (Nat × Value)) (pc9 : Nat), r9 = (v9, M9) → decode cX11_addCorner pc9 = .ok (.ireturn, 1) → WG x M9 lv9 pc9 [.int v9]) (h : bk_X11_addCorner_46 F M = some r9) : WG x M [(0, .ref (gad (xz x) 122))] 46 [] := by
  unfold bk_X11_addCorner_46 at h
  refine g_aload_n X (j := 0) dX11_addCorner_46 rfl rfl ?_
  refine g_iconst X (v := 1) dX11_addCorner_47 (by decide) ?_
  obtain ⟨⟨v4, M5⟩, hc3, h⟩ := bndO_e h
  refine gc_X11_139 X gT_c122 (ct_X11_no X.htr  hc3) (by decide) (Nat.le_of_ble_eq_true rfl) dX11_addCorner_48 ?_
  exact hR v4 M5 _ _ (Option.some.inj h).symm dX11_addCorner_51
def f_X11_addCorner (F : Nat) (i0 : Int32) (i1 : Int32) (i2 : Int32) (i3 : Int32) (i4 : Int32) (i5 : Int32) (M : GM) : Option (Int32 × GM) := bnd (sI M 122 0 (0 : Int32)) (fun M1 => if (f_X11_isPlace i0 i1 i2) = 0 then (bk_X11_addCorner_46 F M1) else (if (f_X11_isColour i3) = 0 then (bk_X11_addCorner_46 F M1) else (if (f_X11_isIn i4 (0 : Int32) (2047 : Int32)) = 0 then (bk_X11_addCorner_46 F M1) else (if (f_X11_isIn i5 (0 : Int32) (2047 : Int32)) = 0 then (bk_X11_addCorner_46 F M1) else (if (gI M1 122 1) = (40 : Int32) then (bndO (f_X11_no F (2 : Int32) M1) (fun (v20, M21) => some (v20, M21))) else (bndO (f_X11_put F (gI M1 122 1) i0 i1 i2 M1) (fun M7 => grd (gIn (gI M7 122 1) (gN 127)) (bnd (sI M7 127 ((gI M7 122 1).toNatClampNeg) i3) (fun M9 => grd (gIn (gI M9 122 1) (gN 128)) (bnd (sI M9 128 ((gI M9 122 1).toNatClampNeg) i4) (fun M12 => grd (gIn (gI M12 122 1) (gN 129)) (bnd (sI M12 129 ((gI M12 122 1).toNatClampNeg) i5) (fun M15 => bnd (sI M15 122 1 ((gI M15 122 1) + (1 : Int32))) (fun M17 => some ((gI M15 122 1), M17)))))))))))))))
set_option maxHeartbeats 4000000 in
set_option maxRecDepth 100000 in
theorem w_X11_addCorner {x : GX} (X : GC x cX11_addCorner 7 RX11 2) {i0 : Int32} {i1 : Int32} {i2 : Int32} {i3 : Int32} {i4 : Int32} {i5 : Int32}  {F : Nat} {M : GM} {r9 : (Int32 × GM)} (hR : ∀ (v9 : Int32) (M9 : GM) (lv9 : List (Nat × Value)) (pc9 : Nat), r9 = (v9, M9) → decode cX11_addCorner pc9 = .ok (.ireturn, 1) → WG x M9 lv9 pc9 [.int v9]) (h : f_X11_addCorner F i0 i1 i2 i3 i4 i5 M = some r9) : WG x M [(0, .ref (gad (xz x) 122)), (1, .int i0), (2, .int i1), (3, .int i2), (4, .int i3), (5, .int i4), (6, .int i5)] 0 [] := by
  unfold f_X11_addCorner at h
  refine g_aload_n X (j := 0) dX11_addCorner_0 rfl rfl ?_
  refine g_iconst X (v := 0) dX11_addCorner_1 (by decide) ?_
  refine gp_X11_114 X gT_c122 dX11_addCorner_2 ?_
  refine g_mem (fun M1 e2 => ?_)
  have h := bnd_e e2 h
  refine g_iload_n X (j := 1) dX11_addCorner_5 rfl rfl ?_
  refine g_iload_n X (j := 2) dX11_addCorner_6 rfl rfl ?_
  refine g_iload_n X (j := 3) dX11_addCorner_7 rfl rfl ?_
  refine gc_X11_132 X (ct_X11_isPlace X.htr ) (by decide) (Nat.le_of_ble_eq_true rfl) dX11_addCorner_8 ?_
  refine g_if_eq X (tgt := 46) dX11_addCorner_11 (by decide) (fun hb => ?_) (fun hb => ?_)
  · have h := ite_t hb h
    refine g_lv [0] rfl ?_
    exact bw_X11_addCorner_46 X  hR h
  · have h := ite_f hb h
    refine g_iload X (j := 4) dX11_addCorner_14 rfl ?_
    refine gc_X11_135 X (ct_X11_isColour X.htr ) (by decide) (Nat.le_of_ble_eq_true rfl) dX11_addCorner_16 ?_
    refine g_if_eq X (tgt := 46) dX11_addCorner_19 (by decide) (fun hb => ?_) (fun hb => ?_)
    · have h := ite_t hb h
      refine g_lv [0] rfl ?_
      exact bw_X11_addCorner_46 X  hR h
    · have h := ite_f hb h
      refine g_iload X (j := 5) dX11_addCorner_22 rfl ?_
      refine g_iconst X (v := 0) dX11_addCorner_24 (by decide) ?_
      refine g_sipush X (v := 2047) dX11_addCorner_25 (by decide) ?_
      refine gc_X11_118 X (ct_X11_isIn X.htr ) (by decide) (Nat.le_of_ble_eq_true rfl) dX11_addCorner_28 ?_
      refine g_if_eq X (tgt := 46) dX11_addCorner_31 (by decide) (fun hb => ?_) (fun hb => ?_)
      · have h := ite_t hb h
        refine g_lv [0] rfl ?_
        exact bw_X11_addCorner_46 X  hR h
      · have h := ite_f hb h
        refine g_iload X (j := 6) dX11_addCorner_34 rfl ?_
        refine g_iconst X (v := 0) dX11_addCorner_36 (by decide) ?_
        refine g_sipush X (v := 2047) dX11_addCorner_37 (by decide) ?_
        refine gc_X11_118 X (ct_X11_isIn X.htr ) (by decide) (Nat.le_of_ble_eq_true rfl) dX11_addCorner_40 ?_
        refine g_if_ne X (tgt := 52) dX11_addCorner_43 (by decide) (fun hb => ?_) (fun hb => ?_)
        · have h := ite_f hb h
          refine g_aload_n X (j := 0) dX11_addCorner_52 rfl rfl ?_
          refine gf_X11_122 X gT_c122 dX11_addCorner_53 ?_
          refine g_bipush X (v := 40) dX11_addCorner_56 (by decide) ?_
          refine g_icmp_ne X (tgt := 67) dX11_addCorner_58 (by decide) (fun hb => ?_) (fun hb => ?_)
          · have h := ite_f hb h
            refine g_aload_n X (j := 0) dX11_addCorner_67 rfl rfl ?_
            refine g_aload_n X (j := 0) dX11_addCorner_68 rfl rfl ?_
            refine gf_X11_122 X gT_c122 dX11_addCorner_69 ?_
            refine g_iload_n X (j := 1) dX11_addCorner_72 rfl rfl ?_
            refine g_iload_n X (j := 2) dX11_addCorner_73 rfl rfl ?_
            refine g_iload_n X (j := 3) dX11_addCorner_74 rfl rfl ?_
            obtain ⟨M7, hc6, h⟩ := bndO_e h
            refine gc_X11_143 X gT_c122 (ct_X11_put X.htr  hc6) (by decide) (Nat.le_of_ble_eq_true rfl) dX11_addCorner_75 ?_
            refine g_aload_n X (j := 0) dX11_addCorner_78 rfl rfl ?_
            refine gf_X11_21 X gT_c122 dX11_addCorner_79 ?_
            refine g_aload_n X (j := 0) dX11_addCorner_82 rfl rfl ?_
            refine gf_X11_122 X gT_c122 dX11_addCorner_83 ?_
            refine g_iload X (j := 4) dX11_addCorner_86 rfl ?_
            obtain ⟨hg8, h⟩ := grd_e h
            refine g_iast X gT_c127 hg8 dX11_addCorner_88 ?_
            refine g_mem (fun M9 e10 => ?_)
            have h := bnd_e e10 h
            refine g_aload_n X (j := 0) dX11_addCorner_89 rfl rfl ?_
            refine gf_X11_25 X gT_c122 dX11_addCorner_90 ?_
            refine g_aload_n X (j := 0) dX11_addCorner_93 rfl rfl ?_
            refine gf_X11_122 X gT_c122 dX11_addCorner_94 ?_
            refine g_iload X (j := 5) dX11_addCorner_97 rfl ?_
            obtain ⟨hg11, h⟩ := grd_e h
            refine g_iast X gT_c128 hg11 dX11_addCorner_99 ?_
            refine g_mem (fun M12 e13 => ?_)
            have h := bnd_e e13 h
            refine g_aload_n X (j := 0) dX11_addCorner_100 rfl rfl ?_
            refine gf_X11_28 X gT_c122 dX11_addCorner_101 ?_
            refine g_aload_n X (j := 0) dX11_addCorner_104 rfl rfl ?_
            refine gf_X11_122 X gT_c122 dX11_addCorner_105 ?_
            refine g_iload X (j := 6) dX11_addCorner_108 rfl ?_
            obtain ⟨hg14, h⟩ := grd_e h
            refine g_iast X gT_c129 hg14 dX11_addCorner_110 ?_
            refine g_mem (fun M15 e16 => ?_)
            have h := bnd_e e16 h
            refine g_aload_n X (j := 0) dX11_addCorner_111 rfl rfl ?_
            refine g_dup X dX11_addCorner_112 rfl ?_
            refine gf_X11_122 X gT_c122 dX11_addCorner_113 ?_
            refine g_dup_x1 X dX11_addCorner_116 rfl rfl ?_
            refine g_iconst X (v := 1) dX11_addCorner_117 (by decide) ?_
            refine g_iadd X dX11_addCorner_118 ?_
            refine gp_X11_122 X gT_c122 dX11_addCorner_119 ?_
            refine g_mem (fun M17 e18 => ?_)
            have h := bnd_e e18 h
            exact hR (gI M15 122 1) M17 _ _ (Option.some.inj h).symm dX11_addCorner_122
          · have h := ite_t hb h
            refine g_aload_n X (j := 0) dX11_addCorner_61 rfl rfl ?_
            refine g_iconst X (v := 2) dX11_addCorner_62 (by decide) ?_
            obtain ⟨⟨v20, M21⟩, hc19, h⟩ := bndO_e h
            refine gc_X11_139 X gT_c122 (ct_X11_no X.htr  hc19) (by decide) (Nat.le_of_ble_eq_true rfl) dX11_addCorner_63 ?_
            exact hR v20 M21 _ _ (Option.some.inj h).symm dX11_addCorner_66
        · have h := ite_t hb h
          refine g_lv [0] rfl ?_
          exact bw_X11_addCorner_46 X  hR h
theorem ct_X11_addCorner {l : Launch} {z : GZ} (htr : l.stackTraces = false) {i0 : Int32} {i1 : Int32} {i2 : Int32} {i3 : Int32} {i4 : Int32} {i5 : Int32}  {M : GM} {F : Nat} {v : Int32} {M1 : GM} (h : f_X11_addCorner F i0 i1 i2 i3 i4 i5 M = some (v, M1)) : gMet l z yX11_addCorner cX11_addCorner 7 (some .int) 2 [.ref (gad z 122), .int i0, .int i1, .int i2, .int i3, .int i4, .int i5] M (some (.int v)) M1 := gMet_ofI (by decide +kernel) (Nat.le_of_ble_eq_true rfl) htr rfl (fun x X ez el hR => by subst ez; subst el; exact w_X11_addCorner X  (fun v9 M9 lv9 pc9 e9 d9 => by cases e9; exact hR lv9 pc9 d9) h)
theorem gc_X11_147 {x : GX} {cc : ByteArray} {nL d pc : Nat} {M : GM} {lv : List (Nat × Value)} {st : List Value} (X : GC x cc nL RX11 d) {i0 : Int32} {M1 : GM} {r : Int32} (ht : gT 122 = 11) (hM : gMet (xl x) (xz x) yX11_isCorner cX11_isCorner 2 (some .boolean) 1 [.ref (gad (xz x) 122), .int i0] M (some (.int r)) M1) (hd : 2 ≤ d) (hsum : (st.map fun v => v.category).sum ≤ 8) (dec : decode cc pc = .ok (.invokevirtual 147, 3)) (go : WG x M1 lv (pc + 3) (.int r :: st)) : WG x M lv pc (.int i0 :: .ref (gad (xz x) 122) :: st) := g_callV X (n := 1) (As := [.int i0]) (rest := st) hM ht (by decide) (gE_11 ht) rfl q_1221 q_1223 q_18 q_63 q_1224 (by decide +kernel) rfl hd (by decide) rfl hsum dec go
theorem dX11_moveCorner_0 : decode cX11_moveCorner 0 = .ok (.aload_n 0, 1) := by decide +kernel
theorem dX11_moveCorner_1 : decode cX11_moveCorner 1 = .ok (.iconst 0, 1) := by decide +kernel
theorem dX11_moveCorner_2 : decode cX11_moveCorner 2 = .ok (.putfield 114, 3) := by decide +kernel
theorem dX11_moveCorner_5 : decode cX11_moveCorner 5 = .ok (.aload_n 0, 1) := by decide +kernel
theorem dX11_moveCorner_6 : decode cX11_moveCorner 6 = .ok (.iload_n 1, 1) := by decide +kernel
theorem dX11_moveCorner_7 : decode cX11_moveCorner 7 = .ok (.invokevirtual 147, 3) := by decide +kernel
theorem dX11_moveCorner_10 : decode cX11_moveCorner 10 = .ok (.ifCond .ne 9, 3) := by decide +kernel
theorem dX11_moveCorner_13 : decode cX11_moveCorner 13 = .ok (.aload_n 0, 1) := by decide +kernel
theorem dX11_moveCorner_14 : decode cX11_moveCorner 14 = .ok (.iconst 1, 1) := by decide +kernel
theorem dX11_moveCorner_15 : decode cX11_moveCorner 15 = .ok (.invokevirtual 139, 3) := by decide +kernel
theorem dX11_moveCorner_18 : decode cX11_moveCorner 18 = .ok (.ireturn, 1) := by decide +kernel
theorem dX11_moveCorner_19 : decode cX11_moveCorner 19 = .ok (.iload_n 2, 1) := by decide +kernel
theorem dX11_moveCorner_20 : decode cX11_moveCorner 20 = .ok (.iload_n 3, 1) := by decide +kernel
theorem dX11_moveCorner_21 : decode cX11_moveCorner 21 = .ok (.iload 4, 2) := by decide +kernel
theorem dX11_moveCorner_23 : decode cX11_moveCorner 23 = .ok (.invokestatic 132, 3) := by decide +kernel
theorem dX11_moveCorner_26 : decode cX11_moveCorner 26 = .ok (.ifCond .ne 9, 3) := by decide +kernel
theorem dX11_moveCorner_29 : decode cX11_moveCorner 29 = .ok (.aload_n 0, 1) := by decide +kernel
theorem dX11_moveCorner_30 : decode cX11_moveCorner 30 = .ok (.iconst 2, 1) := by decide +kernel
theorem dX11_moveCorner_31 : decode cX11_moveCorner 31 = .ok (.invokevirtual 139, 3) := by decide +kernel
theorem dX11_moveCorner_34 : decode cX11_moveCorner 34 = .ok (.ireturn, 1) := by decide +kernel
theorem dX11_moveCorner_35 : decode cX11_moveCorner 35 = .ok (.aload_n 0, 1) := by decide +kernel
theorem dX11_moveCorner_36 : decode cX11_moveCorner 36 = .ok (.iload_n 1, 1) := by decide +kernel
theorem dX11_moveCorner_37 : decode cX11_moveCorner 37 = .ok (.iload_n 2, 1) := by decide +kernel
theorem dX11_moveCorner_38 : decode cX11_moveCorner 38 = .ok (.iload_n 3, 1) := by decide +kernel
theorem dX11_moveCorner_39 : decode cX11_moveCorner 39 = .ok (.iload 4, 2) := by decide +kernel
theorem dX11_moveCorner_41 : decode cX11_moveCorner 41 = .ok (.invokevirtual 143, 3) := by decide +kernel
theorem dX11_moveCorner_44 : decode cX11_moveCorner 44 = .ok (.iconst 0, 1) := by decide +kernel
theorem dX11_moveCorner_45 : decode cX11_moveCorner 45 = .ok (.istore 5, 2) := by decide +kernel
theorem dX11_moveCorner_47 : decode cX11_moveCorner 47 = .ok (.iconst 0, 1) := by decide +kernel
theorem dX11_moveCorner_48 : decode cX11_moveCorner 48 = .ok (.istore 6, 2) := by decide +kernel
theorem dX11_moveCorner_50 : decode cX11_moveCorner 50 = .ok (.iload 6, 2) := by decide +kernel
theorem dX11_moveCorner_52 : decode cX11_moveCorner 52 = .ok (.iconst 3, 1) := by decide +kernel
theorem dX11_moveCorner_53 : decode cX11_moveCorner 53 = .ok (.aload_n 0, 1) := by decide +kernel
theorem dX11_moveCorner_54 : decode cX11_moveCorner 54 = .ok (.getfield 125, 3) := by decide +kernel
theorem dX11_moveCorner_57 : decode cX11_moveCorner 57 = .ok (.imul, 1) := by decide +kernel
theorem dX11_moveCorner_58 : decode cX11_moveCorner 58 = .ok (.if_icmp .ge 30, 3) := by decide +kernel
theorem dX11_moveCorner_61 : decode cX11_moveCorner 61 = .ok (.iload 5, 2) := by decide +kernel
theorem dX11_moveCorner_63 : decode cX11_moveCorner 63 = .ok (.aload_n 0, 1) := by decide +kernel
theorem dX11_moveCorner_64 : decode cX11_moveCorner 64 = .ok (.getfield 31, 3) := by decide +kernel
theorem dX11_moveCorner_67 : decode cX11_moveCorner 67 = .ok (.iload 6, 2) := by decide +kernel
theorem dX11_moveCorner_69 : decode cX11_moveCorner 69 = .ok (.iaload, 1) := by decide +kernel
theorem dX11_moveCorner_70 : decode cX11_moveCorner 70 = .ok (.iload_n 1, 1) := by decide +kernel
theorem dX11_moveCorner_71 : decode cX11_moveCorner 71 = .ok (.if_icmp .ne 7, 3) := by decide +kernel
theorem dX11_moveCorner_74 : decode cX11_moveCorner 74 = .ok (.iconst 1, 1) := by decide +kernel
theorem dX11_moveCorner_75 : decode cX11_moveCorner 75 = .ok (.goto 4, 3) := by decide +kernel
theorem dX11_moveCorner_78 : decode cX11_moveCorner 78 = .ok (.iconst 0, 1) := by decide +kernel
theorem dX11_moveCorner_79 : decode cX11_moveCorner 79 = .ok (.iadd, 1) := by decide +kernel
theorem dX11_moveCorner_80 : decode cX11_moveCorner 80 = .ok (.istore 5, 2) := by decide +kernel
theorem dX11_moveCorner_82 : decode cX11_moveCorner 82 = .ok (.iinc 6 1, 3) := by decide +kernel
theorem dX11_moveCorner_85 : decode cX11_moveCorner 85 = .ok (.goto (-35), 3) := by decide +kernel
theorem dX11_moveCorner_88 : decode cX11_moveCorner 88 = .ok (.iload 5, 2) := by decide +kernel
theorem dX11_moveCorner_90 : decode cX11_moveCorner 90 = .ok (.ireturn, 1) := by decide +kernel
def st_X11_moveCorner_50 (F : Nat) (a9 : Int32) (rec : Int32 → Int32 → GM → Option (Int32 × GM)) (a10 : Int32) (a11 : Int32) (M : GM) : Option (Int32 × GM) := if ((3 : Int32) * (gI M 122 2)) ≤ a11 then (some (a10, M)) else (grd (gIn a11 (gN 130)) (if (gI M 130 a11.toNatClampNeg) = a9 then (bnd (a10 + (1 : Int32)) (fun v17 => bnd (a11 + (1 : Int32)) (fun v19 => rec v17 v19 M))) else (bnd (a10 + (0 : Int32)) (fun v13 => bnd (a11 + (1 : Int32)) (fun v15 => rec v13 v15 M)))))
def lp_X11_moveCorner_50 (F : Nat) (a9 : Int32) : Nat → Int32 → Int32 → GM → Option (Int32 × GM)
  | 0 => fun _ _ _ => none
  | f + 1 => fun a10 a11 M => st_X11_moveCorner_50 F a9 (lp_X11_moveCorner_50 F a9 f) a10 a11 M
set_option maxHeartbeats 4000000 in
set_option maxRecDepth 100000 in
theorem lw_X11_moveCorner_50 {x : GX} (X : GC x cX11_moveCorner 7 RX11 2) {a9 : Int32}  {F : Nat} {r9 : (Int32 × GM)} (hE : ∀ (x5_9 : Int32) (M9 : GM), r9 = (x5_9, M9) → WG x M9 [(5, .int x5_9)] 88 []) : ∀ (f : Nat) (a10 : Int32) (a11 : Int32) (M : GM), lp_X11_moveCorner_50 F a9 f a10 a11 M = some r9 → WG x M [(0, .ref (gad (xz x) 122)), (1, .int a9), (5, .int a10), (6, .int a11)] 50 [] := by
  intro f
  induction f with
  | zero => intro a10 a11 M h; cases h
  | succ f ih =>
    intro a10 a11 M h
    have hrec := ih
    have h : st_X11_moveCorner_50 F a9 (lp_X11_moveCorner_50 F a9 f) a10 a11 M = some r9 := h
    generalize lp_X11_moveCorner_50 F a9 f = rec at h hrec
    unfold st_X11_moveCorner_50 at h
    refine g_iload X (j := 3) dX11_moveCorner_50 rfl ?_
    refine g_iconst X (v := 3) dX11_moveCorner_52 (by decide) ?_
    refine g_aload_n X (j := 0) dX11_moveCorner_53 rfl rfl ?_
    refine gf_X11_125 X gT_c122 dX11_moveCorner_54 ?_
    refine g_imul X dX11_moveCorner_57 ?_
    refine g_icmp_ge X (tgt := 88) dX11_moveCorner_58 (by decide) (fun hb => ?_) (fun hb => ?_)
    · have h := ite_t hb h
      refine g_lv [2] rfl ?_
      exact hE a10 M (Option.some.inj h).symm
    · have h := ite_f hb h
      refine g_iload X (j := 2) dX11_moveCorner_61 rfl ?_
      refine g_aload_n X (j := 0) dX11_moveCorner_63 rfl rfl ?_
      refine gf_X11_31 X gT_c122 dX11_moveCorner_64 ?_
      refine g_iload X (j := 3) dX11_moveCorner_67 rfl ?_
      obtain ⟨hg12, h⟩ := grd_e h
      refine g_iald X gT_c130 hg12 dX11_moveCorner_69 ?_
      refine g_iload_n X (j := 1) dX11_moveCorner_70 rfl rfl ?_
      refine g_icmp_ne X (tgt := 78) dX11_moveCorner_71 (by decide) (fun hb => ?_) (fun hb => ?_)
      · have h := ite_f hb h
        refine g_iconst X (v := 0) dX11_moveCorner_78 (by decide) ?_
        refine g_iadd X dX11_moveCorner_79 ?_
        refine g_topi (fun v13 e14 => ?_)
        have h := bnd_e e14 h
        refine g_istore X (lv' := [(5, .int v13), (0, .ref (gad (xz x) 122)), (1, .int a9), (6, .int a11)]) dX11_moveCorner_80 (by decide) rfl ?_
        refine g_iinc X (j := 3) (w := a11 + (1 : Int32)) (lv' := [(5, .int v13), (0, .ref (gad (xz x) 122)), (1, .int a9)]) dX11_moveCorner_82 rfl (by rw [ii_1]) (by decide) (fun _ => rfl) (fun v15 e16 => ?_)
        have h := bnd_e e16 h
        refine g_goto X (tgt := 50) dX11_moveCorner_85 (by decide) ?_
        refine g_lv [2, 3, 1, 0] rfl ?_
        exact hrec v13 v15 M h
      · have h := ite_t hb h
        refine g_iconst X (v := 1) dX11_moveCorner_74 (by decide) ?_
        refine g_goto X (tgt := 79) dX11_moveCorner_75 (by decide) ?_
        refine g_iadd X dX11_moveCorner_79 ?_
        refine g_topi (fun v17 e18 => ?_)
        have h := bnd_e e18 h
        refine g_istore X (lv' := [(5, .int v17), (0, .ref (gad (xz x) 122)), (1, .int a9), (6, .int a11)]) dX11_moveCorner_80 (by decide) rfl ?_
        refine g_iinc X (j := 3) (w := a11 + (1 : Int32)) (lv' := [(5, .int v17), (0, .ref (gad (xz x) 122)), (1, .int a9)]) dX11_moveCorner_82 rfl (by rw [ii_1]) (by decide) (fun _ => rfl) (fun v19 e20 => ?_)
        have h := bnd_e e20 h
        refine g_goto X (tgt := 50) dX11_moveCorner_85 (by decide) ?_
        refine g_lv [2, 3, 1, 0] rfl ?_
        exact hrec v17 v19 M h
def f_X11_moveCorner (F : Nat) (i0 : Int32) (i1 : Int32) (i2 : Int32) (i3 : Int32) (M : GM) : Option (Int32 × GM) := bnd (sI M 122 0 (0 : Int32)) (fun M1 => if (f_X11_isCorner i0 M1) = 0 then (bndO (f_X11_no F (1 : Int32) M1) (fun (v28, M29) => some (v28, M29))) else (if (f_X11_isPlace i1 i2 i3) = 0 then (bndO (f_X11_no F (2 : Int32) M1) (fun (v25, M26) => some (v25, M26))) else (bndO (f_X11_put F i0 i1 i2 i3 M1) (fun M4 => bnd (0 : Int32) (fun v5 => bnd (0 : Int32) (fun v7 => bndO (lp_X11_moveCorner_50 F i0 F v5 v7 M4) (fun (v21, M22) => some (v21, M22))))))))
set_option maxHeartbeats 4000000 in
set_option maxRecDepth 100000 in
theorem w_X11_moveCorner {x : GX} (X : GC x cX11_moveCorner 7 RX11 2) {i0 : Int32} {i1 : Int32} {i2 : Int32} {i3 : Int32}  {F : Nat} {M : GM} {r9 : (Int32 × GM)} (hR : ∀ (v9 : Int32) (M9 : GM) (lv9 : List (Nat × Value)) (pc9 : Nat), r9 = (v9, M9) → decode cX11_moveCorner pc9 = .ok (.ireturn, 1) → WG x M9 lv9 pc9 [.int v9]) (h : f_X11_moveCorner F i0 i1 i2 i3 M = some r9) : WG x M [(0, .ref (gad (xz x) 122)), (1, .int i0), (2, .int i1), (3, .int i2), (4, .int i3)] 0 [] := by
  unfold f_X11_moveCorner at h
  refine g_aload_n X (j := 0) dX11_moveCorner_0 rfl rfl ?_
  refine g_iconst X (v := 0) dX11_moveCorner_1 (by decide) ?_
  refine gp_X11_114 X gT_c122 dX11_moveCorner_2 ?_
  refine g_mem (fun M1 e2 => ?_)
  have h := bnd_e e2 h
  refine g_aload_n X (j := 0) dX11_moveCorner_5 rfl rfl ?_
  refine g_iload_n X (j := 1) dX11_moveCorner_6 rfl rfl ?_
  refine gc_X11_147 X gT_c122 (ct_X11_isCorner X.htr ) (by decide) (Nat.le_of_ble_eq_true rfl) dX11_moveCorner_7 ?_
  refine g_if_ne X (tgt := 19) dX11_moveCorner_10 (by decide) (fun hb => ?_) (fun hb => ?_)
  · have h := ite_f hb h
    refine g_iload_n X (j := 2) dX11_moveCorner_19 rfl rfl ?_
    refine g_iload_n X (j := 3) dX11_moveCorner_20 rfl rfl ?_
    refine g_iload X (j := 4) dX11_moveCorner_21 rfl ?_
    refine gc_X11_132 X (ct_X11_isPlace X.htr ) (by decide) (Nat.le_of_ble_eq_true rfl) dX11_moveCorner_23 ?_
    refine g_if_ne X (tgt := 35) dX11_moveCorner_26 (by decide) (fun hb => ?_) (fun hb => ?_)
    · have h := ite_f hb h
      refine g_aload_n X (j := 0) dX11_moveCorner_35 rfl rfl ?_
      refine g_iload_n X (j := 1) dX11_moveCorner_36 rfl rfl ?_
      refine g_iload_n X (j := 2) dX11_moveCorner_37 rfl rfl ?_
      refine g_iload_n X (j := 3) dX11_moveCorner_38 rfl rfl ?_
      refine g_iload X (j := 4) dX11_moveCorner_39 rfl ?_
      obtain ⟨M4, hc3, h⟩ := bndO_e h
      refine gc_X11_143 X gT_c122 (ct_X11_put X.htr  hc3) (by decide) (Nat.le_of_ble_eq_true rfl) dX11_moveCorner_41 ?_
      refine g_iconst X (v := 0) dX11_moveCorner_44 (by decide) ?_
      refine g_topi (fun v5 e6 => ?_)
      have h := bnd_e e6 h
      refine g_istore X (lv' := [(5, .int v5), (0, .ref (gad (xz x) 122)), (1, .int i0), (2, .int i1), (3, .int i2), (4, .int i3)]) dX11_moveCorner_45 (by decide) rfl ?_
      refine g_iconst X (v := 0) dX11_moveCorner_47 (by decide) ?_
      refine g_topi (fun v7 e8 => ?_)
      have h := bnd_e e8 h
      refine g_istore X (lv' := [(6, .int v7), (5, .int v5), (0, .ref (gad (xz x) 122)), (1, .int i0), (2, .int i1), (3, .int i2), (4, .int i3)]) dX11_moveCorner_48 (by decide) rfl ?_
      refine g_lv [2, 3, 1, 0] rfl ?_
      obtain ⟨⟨v21, M22⟩, hl23, h⟩ := bndO_e h
      refine lw_X11_moveCorner_50 X  (fun v21_ M22_ e9 => ?_) F v5 v7 M4 hl23
      cases e9
      refine g_iload X (j := 0) dX11_moveCorner_88 rfl ?_
      exact hR v21 M22 _ _ (Option.some.inj h).symm dX11_moveCorner_90
    · have h := ite_t hb h
      refine g_aload_n X (j := 0) dX11_moveCorner_29 rfl rfl ?_
      refine g_iconst X (v := 2) dX11_moveCorner_30 (by decide) ?_
      obtain ⟨⟨v25, M26⟩, hc24, h⟩ := bndO_e h
      refine gc_X11_139 X gT_c122 (ct_X11_no X.htr  hc24) (by decide) (Nat.le_of_ble_eq_true rfl) dX11_moveCorner_31 ?_
      exact hR v25 M26 _ _ (Option.some.inj h).symm dX11_moveCorner_34
  · have h := ite_t hb h
    refine g_aload_n X (j := 0) dX11_moveCorner_13 rfl rfl ?_
    refine g_iconst X (v := 1) dX11_moveCorner_14 (by decide) ?_
    obtain ⟨⟨v28, M29⟩, hc27, h⟩ := bndO_e h
    refine gc_X11_139 X gT_c122 (ct_X11_no X.htr  hc27) (by decide) (Nat.le_of_ble_eq_true rfl) dX11_moveCorner_15 ?_
    exact hR v28 M29 _ _ (Option.some.inj h).symm dX11_moveCorner_18
theorem ct_X11_moveCorner {l : Launch} {z : GZ} (htr : l.stackTraces = false) {i0 : Int32} {i1 : Int32} {i2 : Int32} {i3 : Int32}  {M : GM} {F : Nat} {v : Int32} {M1 : GM} (h : f_X11_moveCorner F i0 i1 i2 i3 M = some (v, M1)) : gMet l z yX11_moveCorner cX11_moveCorner 7 (some .int) 2 [.ref (gad z 122), .int i0, .int i1, .int i2, .int i3] M (some (.int v)) M1 := gMet_ofI (by decide +kernel) (Nat.le_of_ble_eq_true rfl) htr rfl (fun x X ez el hR => by subst ez; subst el; exact w_X11_moveCorner X  (fun v9 M9 lv9 pc9 e9 d9 => by cases e9; exact hR lv9 pc9 d9) h)
theorem dX11_setColour_0 : decode cX11_setColour 0 = .ok (.aload_n 0, 1) := by decide +kernel
theorem dX11_setColour_1 : decode cX11_setColour 1 = .ok (.iconst 0, 1) := by decide +kernel
theorem dX11_setColour_2 : decode cX11_setColour 2 = .ok (.putfield 114, 3) := by decide +kernel
theorem dX11_setColour_5 : decode cX11_setColour 5 = .ok (.aload_n 0, 1) := by decide +kernel
theorem dX11_setColour_6 : decode cX11_setColour 6 = .ok (.iload_n 1, 1) := by decide +kernel
theorem dX11_setColour_7 : decode cX11_setColour 7 = .ok (.invokevirtual 147, 3) := by decide +kernel
theorem dX11_setColour_10 : decode cX11_setColour 10 = .ok (.ifCond .ne 9, 3) := by decide +kernel
theorem dX11_setColour_13 : decode cX11_setColour 13 = .ok (.aload_n 0, 1) := by decide +kernel
theorem dX11_setColour_14 : decode cX11_setColour 14 = .ok (.iconst 1, 1) := by decide +kernel
theorem dX11_setColour_15 : decode cX11_setColour 15 = .ok (.invokevirtual 139, 3) := by decide +kernel
theorem dX11_setColour_18 : decode cX11_setColour 18 = .ok (.ireturn, 1) := by decide +kernel
theorem dX11_setColour_19 : decode cX11_setColour 19 = .ok (.iload_n 2, 1) := by decide +kernel
theorem dX11_setColour_20 : decode cX11_setColour 20 = .ok (.invokestatic 135, 3) := by decide +kernel
theorem dX11_setColour_23 : decode cX11_setColour 23 = .ok (.ifCond .ne 9, 3) := by decide +kernel
theorem dX11_setColour_26 : decode cX11_setColour 26 = .ok (.aload_n 0, 1) := by decide +kernel
theorem dX11_setColour_27 : decode cX11_setColour 27 = .ok (.iconst 2, 1) := by decide +kernel
theorem dX11_setColour_28 : decode cX11_setColour 28 = .ok (.invokevirtual 139, 3) := by decide +kernel
theorem dX11_setColour_31 : decode cX11_setColour 31 = .ok (.ireturn, 1) := by decide +kernel
theorem dX11_setColour_32 : decode cX11_setColour 32 = .ok (.aload_n 0, 1) := by decide +kernel
theorem dX11_setColour_33 : decode cX11_setColour 33 = .ok (.getfield 21, 3) := by decide +kernel
theorem dX11_setColour_36 : decode cX11_setColour 36 = .ok (.iload_n 1, 1) := by decide +kernel
theorem dX11_setColour_37 : decode cX11_setColour 37 = .ok (.iaload, 1) := by decide +kernel
theorem dX11_setColour_38 : decode cX11_setColour 38 = .ok (.istore_n 3, 1) := by decide +kernel
theorem dX11_setColour_39 : decode cX11_setColour 39 = .ok (.aload_n 0, 1) := by decide +kernel
theorem dX11_setColour_40 : decode cX11_setColour 40 = .ok (.getfield 21, 3) := by decide +kernel
theorem dX11_setColour_43 : decode cX11_setColour 43 = .ok (.iload_n 1, 1) := by decide +kernel
theorem dX11_setColour_44 : decode cX11_setColour 44 = .ok (.iload_n 2, 1) := by decide +kernel
theorem dX11_setColour_45 : decode cX11_setColour 45 = .ok (.iastore, 1) := by decide +kernel
theorem dX11_setColour_46 : decode cX11_setColour 46 = .ok (.iload_n 3, 1) := by decide +kernel
theorem dX11_setColour_47 : decode cX11_setColour 47 = .ok (.ireturn, 1) := by decide +kernel
def f_X11_setColour (F : Nat) (i0 : Int32) (i1 : Int32) (M : GM) : Option (Int32 × GM) := bnd (sI M 122 0 (0 : Int32)) (fun M1 => if (f_X11_isCorner i0 M1) = 0 then (bndO (f_X11_no F (1 : Int32) M1) (fun (v13, M14) => some (v13, M14))) else (if (f_X11_isColour i1) = 0 then (bndO (f_X11_no F (2 : Int32) M1) (fun (v10, M11) => some (v10, M11))) else (grd (gIn i0 (gN 127)) (bnd (gI M1 127 i0.toNatClampNeg) (fun v4 => grd (gIn i0 (gN 127)) (bnd (sI M1 127 i0.toNatClampNeg i1) (fun M7 => some (v4, M7))))))))
set_option maxHeartbeats 4000000 in
set_option maxRecDepth 100000 in
theorem w_X11_setColour {x : GX} (X : GC x cX11_setColour 4 RX11 2) {i0 : Int32} {i1 : Int32}  {F : Nat} {M : GM} {r9 : (Int32 × GM)} (hR : ∀ (v9 : Int32) (M9 : GM) (lv9 : List (Nat × Value)) (pc9 : Nat), r9 = (v9, M9) → decode cX11_setColour pc9 = .ok (.ireturn, 1) → WG x M9 lv9 pc9 [.int v9]) (h : f_X11_setColour F i0 i1 M = some r9) : WG x M [(0, .ref (gad (xz x) 122)), (1, .int i0), (2, .int i1)] 0 [] := by
  unfold f_X11_setColour at h
  refine g_aload_n X (j := 0) dX11_setColour_0 rfl rfl ?_
  refine g_iconst X (v := 0) dX11_setColour_1 (by decide) ?_
  refine gp_X11_114 X gT_c122 dX11_setColour_2 ?_
  refine g_mem (fun M1 e2 => ?_)
  have h := bnd_e e2 h
  refine g_aload_n X (j := 0) dX11_setColour_5 rfl rfl ?_
  refine g_iload_n X (j := 1) dX11_setColour_6 rfl rfl ?_
  refine gc_X11_147 X gT_c122 (ct_X11_isCorner X.htr ) (by decide) (Nat.le_of_ble_eq_true rfl) dX11_setColour_7 ?_
  refine g_if_ne X (tgt := 19) dX11_setColour_10 (by decide) (fun hb => ?_) (fun hb => ?_)
  · have h := ite_f hb h
    refine g_iload_n X (j := 2) dX11_setColour_19 rfl rfl ?_
    refine gc_X11_135 X (ct_X11_isColour X.htr ) (by decide) (Nat.le_of_ble_eq_true rfl) dX11_setColour_20 ?_
    refine g_if_ne X (tgt := 32) dX11_setColour_23 (by decide) (fun hb => ?_) (fun hb => ?_)
    · have h := ite_f hb h
      refine g_aload_n X (j := 0) dX11_setColour_32 rfl rfl ?_
      refine gf_X11_21 X gT_c122 dX11_setColour_33 ?_
      refine g_iload_n X (j := 1) dX11_setColour_36 rfl rfl ?_
      obtain ⟨hg3, h⟩ := grd_e h
      refine g_iald X gT_c127 hg3 dX11_setColour_37 ?_
      refine g_topi (fun v4 e5 => ?_)
      have h := bnd_e e5 h
      refine g_istore_n X (lv' := [(3, .int v4), (0, .ref (gad (xz x) 122)), (1, .int i0), (2, .int i1)]) dX11_setColour_38 rfl (by decide) rfl ?_
      refine g_aload_n X (j := 1) dX11_setColour_39 rfl rfl ?_
      refine gf_X11_21 X gT_c122 dX11_setColour_40 ?_
      refine g_iload_n X (j := 2) dX11_setColour_43 rfl rfl ?_
      refine g_iload_n X (j := 3) dX11_setColour_44 rfl rfl ?_
      obtain ⟨hg6, h⟩ := grd_e h
      refine g_iast X gT_c127 hg6 dX11_setColour_45 ?_
      refine g_mem (fun M7 e8 => ?_)
      have h := bnd_e e8 h
      refine g_iload_n X (j := 0) dX11_setColour_46 rfl rfl ?_
      exact hR v4 M7 _ _ (Option.some.inj h).symm dX11_setColour_47
    · have h := ite_t hb h
      refine g_aload_n X (j := 0) dX11_setColour_26 rfl rfl ?_
      refine g_iconst X (v := 2) dX11_setColour_27 (by decide) ?_
      obtain ⟨⟨v10, M11⟩, hc9, h⟩ := bndO_e h
      refine gc_X11_139 X gT_c122 (ct_X11_no X.htr  hc9) (by decide) (Nat.le_of_ble_eq_true rfl) dX11_setColour_28 ?_
      exact hR v10 M11 _ _ (Option.some.inj h).symm dX11_setColour_31
  · have h := ite_t hb h
    refine g_aload_n X (j := 0) dX11_setColour_13 rfl rfl ?_
    refine g_iconst X (v := 1) dX11_setColour_14 (by decide) ?_
    obtain ⟨⟨v13, M14⟩, hc12, h⟩ := bndO_e h
    refine gc_X11_139 X gT_c122 (ct_X11_no X.htr  hc12) (by decide) (Nat.le_of_ble_eq_true rfl) dX11_setColour_15 ?_
    exact hR v13 M14 _ _ (Option.some.inj h).symm dX11_setColour_18
theorem ct_X11_setColour {l : Launch} {z : GZ} (htr : l.stackTraces = false) {i0 : Int32} {i1 : Int32}  {M : GM} {F : Nat} {v : Int32} {M1 : GM} (h : f_X11_setColour F i0 i1 M = some (v, M1)) : gMet l z yX11_setColour cX11_setColour 4 (some .int) 2 [.ref (gad z 122), .int i0, .int i1] M (some (.int v)) M1 := gMet_ofI (by decide +kernel) (Nat.le_of_ble_eq_true rfl) htr rfl (fun x X ez el hR => by subst ez; subst el; exact w_X11_setColour X  (fun v9 M9 lv9 pc9 e9 d9 => by cases e9; exact hR lv9 pc9 d9) h)
theorem dX11_addPane_0 : decode cX11_addPane 0 = .ok (.aload_n 0, 1) := by decide +kernel
theorem dX11_addPane_1 : decode cX11_addPane 1 = .ok (.iconst 0, 1) := by decide +kernel
theorem dX11_addPane_2 : decode cX11_addPane 2 = .ok (.putfield 114, 3) := by decide +kernel
theorem dX11_addPane_5 : decode cX11_addPane 5 = .ok (.aload_n 0, 1) := by decide +kernel
theorem dX11_addPane_6 : decode cX11_addPane 6 = .ok (.iload_n 1, 1) := by decide +kernel
theorem dX11_addPane_7 : decode cX11_addPane 7 = .ok (.invokevirtual 147, 3) := by decide +kernel
theorem dX11_addPane_10 : decode cX11_addPane 10 = .ok (.ifCond .eq 19, 3) := by decide +kernel
theorem dX11_addPane_13 : decode cX11_addPane 13 = .ok (.aload_n 0, 1) := by decide +kernel
theorem dX11_addPane_14 : decode cX11_addPane 14 = .ok (.iload_n 2, 1) := by decide +kernel
theorem dX11_addPane_15 : decode cX11_addPane 15 = .ok (.invokevirtual 147, 3) := by decide +kernel
theorem dX11_addPane_18 : decode cX11_addPane 18 = .ok (.ifCond .eq 11, 3) := by decide +kernel
theorem dX11_addPane_21 : decode cX11_addPane 21 = .ok (.aload_n 0, 1) := by decide +kernel
theorem dX11_addPane_22 : decode cX11_addPane 22 = .ok (.iload_n 3, 1) := by decide +kernel
theorem dX11_addPane_23 : decode cX11_addPane 23 = .ok (.invokevirtual 147, 3) := by decide +kernel
theorem dX11_addPane_26 : decode cX11_addPane 26 = .ok (.ifCond .ne 9, 3) := by decide +kernel
theorem dX11_addPane_29 : decode cX11_addPane 29 = .ok (.aload_n 0, 1) := by decide +kernel
theorem dX11_addPane_30 : decode cX11_addPane 30 = .ok (.iconst 1, 1) := by decide +kernel
theorem dX11_addPane_31 : decode cX11_addPane 31 = .ok (.invokevirtual 139, 3) := by decide +kernel
theorem dX11_addPane_34 : decode cX11_addPane 34 = .ok (.ireturn, 1) := by decide +kernel
theorem dX11_addPane_35 : decode cX11_addPane 35 = .ok (.iload_n 1, 1) := by decide +kernel
theorem dX11_addPane_36 : decode cX11_addPane 36 = .ok (.iload_n 2, 1) := by decide +kernel
theorem dX11_addPane_37 : decode cX11_addPane 37 = .ok (.if_icmp .eq 23, 3) := by decide +kernel
theorem dX11_addPane_40 : decode cX11_addPane 40 = .ok (.iload_n 2, 1) := by decide +kernel
theorem dX11_addPane_41 : decode cX11_addPane 41 = .ok (.iload_n 3, 1) := by decide +kernel
theorem dX11_addPane_42 : decode cX11_addPane 42 = .ok (.if_icmp .eq 18, 3) := by decide +kernel
theorem dX11_addPane_45 : decode cX11_addPane 45 = .ok (.iload_n 1, 1) := by decide +kernel
theorem dX11_addPane_46 : decode cX11_addPane 46 = .ok (.iload_n 3, 1) := by decide +kernel
theorem dX11_addPane_47 : decode cX11_addPane 47 = .ok (.if_icmp .eq 13, 3) := by decide +kernel
theorem dX11_addPane_50 : decode cX11_addPane 50 = .ok (.iload 4, 2) := by decide +kernel
theorem dX11_addPane_52 : decode cX11_addPane 52 = .ok (.iconst (-1), 1) := by decide +kernel
theorem dX11_addPane_53 : decode cX11_addPane 53 = .ok (.iconst 3, 1) := by decide +kernel
theorem dX11_addPane_54 : decode cX11_addPane 54 = .ok (.invokestatic 118, 3) := by decide +kernel
theorem dX11_addPane_57 : decode cX11_addPane 57 = .ok (.ifCond .ne 9, 3) := by decide +kernel
theorem dX11_addPane_60 : decode cX11_addPane 60 = .ok (.aload_n 0, 1) := by decide +kernel
theorem dX11_addPane_61 : decode cX11_addPane 61 = .ok (.iconst 2, 1) := by decide +kernel
theorem dX11_addPane_62 : decode cX11_addPane 62 = .ok (.invokevirtual 139, 3) := by decide +kernel
theorem dX11_addPane_65 : decode cX11_addPane 65 = .ok (.ireturn, 1) := by decide +kernel
theorem dX11_addPane_66 : decode cX11_addPane 66 = .ok (.aload_n 0, 1) := by decide +kernel
theorem dX11_addPane_67 : decode cX11_addPane 67 = .ok (.getfield 125, 3) := by decide +kernel
theorem dX11_addPane_70 : decode cX11_addPane 70 = .ok (.bipush 30, 2) := by decide +kernel
theorem dX11_addPane_72 : decode cX11_addPane 72 = .ok (.if_icmp .ne 9, 3) := by decide +kernel
theorem dX11_addPane_75 : decode cX11_addPane 75 = .ok (.aload_n 0, 1) := by decide +kernel
theorem dX11_addPane_76 : decode cX11_addPane 76 = .ok (.iconst 3, 1) := by decide +kernel
theorem dX11_addPane_77 : decode cX11_addPane 77 = .ok (.invokevirtual 139, 3) := by decide +kernel
theorem dX11_addPane_80 : decode cX11_addPane 80 = .ok (.ireturn, 1) := by decide +kernel
theorem dX11_addPane_81 : decode cX11_addPane 81 = .ok (.aload_n 0, 1) := by decide +kernel
theorem dX11_addPane_82 : decode cX11_addPane 82 = .ok (.getfield 31, 3) := by decide +kernel
theorem dX11_addPane_85 : decode cX11_addPane 85 = .ok (.iconst 3, 1) := by decide +kernel
theorem dX11_addPane_86 : decode cX11_addPane 86 = .ok (.aload_n 0, 1) := by decide +kernel
theorem dX11_addPane_87 : decode cX11_addPane 87 = .ok (.getfield 125, 3) := by decide +kernel
theorem dX11_addPane_90 : decode cX11_addPane 90 = .ok (.imul, 1) := by decide +kernel
theorem dX11_addPane_91 : decode cX11_addPane 91 = .ok (.iload_n 1, 1) := by decide +kernel
theorem dX11_addPane_92 : decode cX11_addPane 92 = .ok (.iastore, 1) := by decide +kernel
theorem dX11_addPane_93 : decode cX11_addPane 93 = .ok (.aload_n 0, 1) := by decide +kernel
theorem dX11_addPane_94 : decode cX11_addPane 94 = .ok (.getfield 31, 3) := by decide +kernel
theorem dX11_addPane_97 : decode cX11_addPane 97 = .ok (.iconst 3, 1) := by decide +kernel
theorem dX11_addPane_98 : decode cX11_addPane 98 = .ok (.aload_n 0, 1) := by decide +kernel
theorem dX11_addPane_99 : decode cX11_addPane 99 = .ok (.getfield 125, 3) := by decide +kernel
theorem dX11_addPane_102 : decode cX11_addPane 102 = .ok (.imul, 1) := by decide +kernel
theorem dX11_addPane_103 : decode cX11_addPane 103 = .ok (.iconst 1, 1) := by decide +kernel
theorem dX11_addPane_104 : decode cX11_addPane 104 = .ok (.iadd, 1) := by decide +kernel
theorem dX11_addPane_105 : decode cX11_addPane 105 = .ok (.iload_n 2, 1) := by decide +kernel
theorem dX11_addPane_106 : decode cX11_addPane 106 = .ok (.iastore, 1) := by decide +kernel
theorem dX11_addPane_107 : decode cX11_addPane 107 = .ok (.aload_n 0, 1) := by decide +kernel
theorem dX11_addPane_108 : decode cX11_addPane 108 = .ok (.getfield 31, 3) := by decide +kernel
theorem dX11_addPane_111 : decode cX11_addPane 111 = .ok (.iconst 3, 1) := by decide +kernel
theorem dX11_addPane_112 : decode cX11_addPane 112 = .ok (.aload_n 0, 1) := by decide +kernel
theorem dX11_addPane_113 : decode cX11_addPane 113 = .ok (.getfield 125, 3) := by decide +kernel
theorem dX11_addPane_116 : decode cX11_addPane 116 = .ok (.imul, 1) := by decide +kernel
theorem dX11_addPane_117 : decode cX11_addPane 117 = .ok (.iconst 2, 1) := by decide +kernel
theorem dX11_addPane_118 : decode cX11_addPane 118 = .ok (.iadd, 1) := by decide +kernel
theorem dX11_addPane_119 : decode cX11_addPane 119 = .ok (.iload_n 3, 1) := by decide +kernel
theorem dX11_addPane_120 : decode cX11_addPane 120 = .ok (.iastore, 1) := by decide +kernel
theorem dX11_addPane_121 : decode cX11_addPane 121 = .ok (.aload_n 0, 1) := by decide +kernel
theorem dX11_addPane_122 : decode cX11_addPane 122 = .ok (.getfield 34, 3) := by decide +kernel
theorem dX11_addPane_125 : decode cX11_addPane 125 = .ok (.aload_n 0, 1) := by decide +kernel
theorem dX11_addPane_126 : decode cX11_addPane 126 = .ok (.getfield 125, 3) := by decide +kernel
theorem dX11_addPane_129 : decode cX11_addPane 129 = .ok (.iload 4, 2) := by decide +kernel
theorem dX11_addPane_131 : decode cX11_addPane 131 = .ok (.iastore, 1) := by decide +kernel
theorem dX11_addPane_132 : decode cX11_addPane 132 = .ok (.aload_n 0, 1) := by decide +kernel
theorem dX11_addPane_133 : decode cX11_addPane 133 = .ok (.getfield 37, 3) := by decide +kernel
theorem dX11_addPane_136 : decode cX11_addPane 136 = .ok (.aload_n 0, 1) := by decide +kernel
theorem dX11_addPane_137 : decode cX11_addPane 137 = .ok (.getfield 125, 3) := by decide +kernel
theorem dX11_addPane_140 : decode cX11_addPane 140 = .ok (.iload 5, 2) := by decide +kernel
theorem dX11_addPane_142 : decode cX11_addPane 142 = .ok (.bastore, 1) := by decide +kernel
theorem dX11_addPane_143 : decode cX11_addPane 143 = .ok (.aload_n 0, 1) := by decide +kernel
theorem dX11_addPane_144 : decode cX11_addPane 144 = .ok (.getfield 41, 3) := by decide +kernel
theorem dX11_addPane_147 : decode cX11_addPane 147 = .ok (.aload_n 0, 1) := by decide +kernel
theorem dX11_addPane_148 : decode cX11_addPane 148 = .ok (.getfield 125, 3) := by decide +kernel
theorem dX11_addPane_151 : decode cX11_addPane 151 = .ok (.iload 6, 2) := by decide +kernel
theorem dX11_addPane_153 : decode cX11_addPane 153 = .ok (.bastore, 1) := by decide +kernel
theorem dX11_addPane_154 : decode cX11_addPane 154 = .ok (.aload_n 0, 1) := by decide +kernel
theorem dX11_addPane_155 : decode cX11_addPane 155 = .ok (.getfield 44, 3) := by decide +kernel
theorem dX11_addPane_158 : decode cX11_addPane 158 = .ok (.aload_n 0, 1) := by decide +kernel
theorem dX11_addPane_159 : decode cX11_addPane 159 = .ok (.getfield 125, 3) := by decide +kernel
theorem dX11_addPane_162 : decode cX11_addPane 162 = .ok (.iconst 1, 1) := by decide +kernel
theorem dX11_addPane_163 : decode cX11_addPane 163 = .ok (.bastore, 1) := by decide +kernel
theorem dX11_addPane_164 : decode cX11_addPane 164 = .ok (.aload_n 0, 1) := by decide +kernel
theorem dX11_addPane_165 : decode cX11_addPane 165 = .ok (.dup, 1) := by decide +kernel
theorem dX11_addPane_166 : decode cX11_addPane 166 = .ok (.getfield 125, 3) := by decide +kernel
theorem dX11_addPane_169 : decode cX11_addPane 169 = .ok (.dup_x1, 1) := by decide +kernel
theorem dX11_addPane_170 : decode cX11_addPane 170 = .ok (.iconst 1, 1) := by decide +kernel
theorem dX11_addPane_171 : decode cX11_addPane 171 = .ok (.iadd, 1) := by decide +kernel
theorem dX11_addPane_172 : decode cX11_addPane 172 = .ok (.putfield 125, 3) := by decide +kernel
theorem dX11_addPane_175 : decode cX11_addPane 175 = .ok (.ireturn, 1) := by decide +kernel
def bk_X11_addPane_29 (F : Nat) (M : GM) : Option (Int32 × GM) := bndO (f_X11_no F (1 : Int32) M) (fun (v4, M5) => some (v4, M5))
set_option maxHeartbeats 4000000 in
set_option maxRecDepth 100000 in
theorem bw_X11_addPane_29 {x : GX} (X : GC x cX11_addPane 7 RX11 2)    {F : Nat} {M : GM} {r9 : (Int32 × GM)} (hR : ∀ (v9 : Int32) (M9 : GM) (lv9 : List (Nat × Value)) (pc9 : Nat), r9 = (v9, M9) → decode cX11_addPane pc9 = .ok (.ireturn, 1) → WG x M9 lv9 pc9 [.int v9]) (h : bk_X11_addPane_29 F M = some r9) : WG x M [(0, .ref (gad (xz x) 122))] 29 [] := by
  unfold bk_X11_addPane_29 at h
  refine g_aload_n X (j := 0) dX11_addPane_29 rfl rfl ?_
  refine g_iconst X (v := 1) dX11_addPane_30 (by decide) ?_
  obtain ⟨⟨v4, M5⟩, hc3, h⟩ := bndO_e h
  refine gc_X11_139 X gT_c122 (ct_X11_no X.htr  hc3) (by decide) (Nat.le_of_ble_eq_true rfl) dX11_addPane_31 ?_
  exact hR v4 M5 _ _ (Option.some.inj h).symm dX11_addPane_34
def bk_X11_addPane_60 (F : Nat) (M : GM) : Option (Int32 × GM) := bndO (f_X11_no F (2 : Int32) M) (fun (v7, M8) => some (v7, M8))
set_option maxHeartbeats 4000000 in
set_option maxRecDepth 100000 in
theorem bw_X11_addPane_60 {x : GX} (X : GC x cX11_addPane 7 RX11 2)    {F : Nat} {M : GM} {r9 : (Int32 × GM)} (hR : ∀ (v9 : Int32) (M9 : GM) (lv9 : List (Nat × Value)) (pc9 : Nat), r9 = (v9, M9) → decode cX11_addPane pc9 = .ok (.ireturn, 1) → WG x M9 lv9 pc9 [.int v9]) (h : bk_X11_addPane_60 F M = some r9) : WG x M [(0, .ref (gad (xz x) 122))] 60 [] := by
  unfold bk_X11_addPane_60 at h
  refine g_aload_n X (j := 0) dX11_addPane_60 rfl rfl ?_
  refine g_iconst X (v := 2) dX11_addPane_61 (by decide) ?_
  obtain ⟨⟨v7, M8⟩, hc6, h⟩ := bndO_e h
  refine gc_X11_139 X gT_c122 (ct_X11_no X.htr  hc6) (by decide) (Nat.le_of_ble_eq_true rfl) dX11_addPane_62 ?_
  exact hR v7 M8 _ _ (Option.some.inj h).symm dX11_addPane_65
def f_X11_addPane (F : Nat) (i0 : Int32) (i1 : Int32) (i2 : Int32) (i3 : Int32) (i4 : Int32) (i5 : Int32) (M : GM) : Option (Int32 × GM) := bnd (sI M 122 0 (0 : Int32)) (fun M1 => if (f_X11_isCorner i0 M1) = 0 then (bk_X11_addPane_29 F M1) else (if (f_X11_isCorner i1 M1) = 0 then (bk_X11_addPane_29 F M1) else (if (f_X11_isCorner i2 M1) = 0 then (bk_X11_addPane_29 F M1) else (if i0 = i1 then (bk_X11_addPane_60 F M1) else (if i1 = i2 then (bk_X11_addPane_60 F M1) else (if i0 = i2 then (bk_X11_addPane_60 F M1) else (if (f_X11_isIn i3 ((-1) : Int32) (3 : Int32)) = 0 then (bk_X11_addPane_60 F M1) else (if (gI M1 122 2) = (30 : Int32) then (bndO (f_X11_no F (3 : Int32) M1) (fun (v35, M36) => some (v35, M36))) else (grd (gIn ((3 : Int32) * (gI M1 122 2)) (gN 130)) (bnd (sI M1 130 (((3 : Int32) * (gI M1 122 2)).toNatClampNeg) i0) (fun M10 => grd (gIn (((3 : Int32) * (gI M10 122 2)) + (1 : Int32)) (gN 130)) (bnd (sI M10 130 ((((3 : Int32) * (gI M10 122 2)) + (1 : Int32)).toNatClampNeg) i1) (fun M13 => grd (gIn (((3 : Int32) * (gI M13 122 2)) + (2 : Int32)) (gN 130)) (bnd (sI M13 130 ((((3 : Int32) * (gI M13 122 2)) + (2 : Int32)).toNatClampNeg) i2) (fun M16 => grd (gIn (gI M16 122 2) (gN 131)) (bnd (sI M16 131 ((gI M16 122 2).toNatClampNeg) i3) (fun M19 => grd (gIn (gI M19 122 2) (gN 132)) (grd (gTf i4) (bnd (sI M19 132 ((gI M19 122 2).toNatClampNeg) i4) (fun M23 => grd (gIn (gI M23 122 2) (gN 133)) (grd (gTf i5) (bnd (sI M23 133 ((gI M23 122 2).toNatClampNeg) i5) (fun M27 => grd (gIn (gI M27 122 2) (gN 134)) (bnd (sI M27 134 ((gI M27 122 2).toNatClampNeg) (1 : Int32)) (fun M30 => bnd (sI M30 122 2 ((gI M30 122 2) + (1 : Int32))) (fun M32 => some ((gI M30 122 2), M32)))))))))))))))))))))))))))
set_option maxHeartbeats 4000000 in
set_option maxRecDepth 100000 in
theorem w_X11_addPane {x : GX} (X : GC x cX11_addPane 7 RX11 2) {i0 : Int32} {i1 : Int32} {i2 : Int32} {i3 : Int32} {i4 : Int32} {i5 : Int32}  {F : Nat} {M : GM} {r9 : (Int32 × GM)} (hR : ∀ (v9 : Int32) (M9 : GM) (lv9 : List (Nat × Value)) (pc9 : Nat), r9 = (v9, M9) → decode cX11_addPane pc9 = .ok (.ireturn, 1) → WG x M9 lv9 pc9 [.int v9]) (h : f_X11_addPane F i0 i1 i2 i3 i4 i5 M = some r9) : WG x M [(0, .ref (gad (xz x) 122)), (1, .int i0), (2, .int i1), (3, .int i2), (4, .int i3), (5, .int i4), (6, .int i5)] 0 [] := by
  unfold f_X11_addPane at h
  refine g_aload_n X (j := 0) dX11_addPane_0 rfl rfl ?_
  refine g_iconst X (v := 0) dX11_addPane_1 (by decide) ?_
  refine gp_X11_114 X gT_c122 dX11_addPane_2 ?_
  refine g_mem (fun M1 e2 => ?_)
  have h := bnd_e e2 h
  refine g_aload_n X (j := 0) dX11_addPane_5 rfl rfl ?_
  refine g_iload_n X (j := 1) dX11_addPane_6 rfl rfl ?_
  refine gc_X11_147 X gT_c122 (ct_X11_isCorner X.htr ) (by decide) (Nat.le_of_ble_eq_true rfl) dX11_addPane_7 ?_
  refine g_if_eq X (tgt := 29) dX11_addPane_10 (by decide) (fun hb => ?_) (fun hb => ?_)
  · have h := ite_t hb h
    refine g_lv [0] rfl ?_
    exact bw_X11_addPane_29 X  hR h
  · have h := ite_f hb h
    refine g_aload_n X (j := 0) dX11_addPane_13 rfl rfl ?_
    refine g_iload_n X (j := 2) dX11_addPane_14 rfl rfl ?_
    refine gc_X11_147 X gT_c122 (ct_X11_isCorner X.htr ) (by decide) (Nat.le_of_ble_eq_true rfl) dX11_addPane_15 ?_
    refine g_if_eq X (tgt := 29) dX11_addPane_18 (by decide) (fun hb => ?_) (fun hb => ?_)
    · have h := ite_t hb h
      refine g_lv [0] rfl ?_
      exact bw_X11_addPane_29 X  hR h
    · have h := ite_f hb h
      refine g_aload_n X (j := 0) dX11_addPane_21 rfl rfl ?_
      refine g_iload_n X (j := 3) dX11_addPane_22 rfl rfl ?_
      refine gc_X11_147 X gT_c122 (ct_X11_isCorner X.htr ) (by decide) (Nat.le_of_ble_eq_true rfl) dX11_addPane_23 ?_
      refine g_if_ne X (tgt := 35) dX11_addPane_26 (by decide) (fun hb => ?_) (fun hb => ?_)
      · have h := ite_f hb h
        refine g_iload_n X (j := 1) dX11_addPane_35 rfl rfl ?_
        refine g_iload_n X (j := 2) dX11_addPane_36 rfl rfl ?_
        refine g_icmp_eq X (tgt := 60) dX11_addPane_37 (by decide) (fun hb => ?_) (fun hb => ?_)
        · have h := ite_t hb h
          refine g_lv [0] rfl ?_
          exact bw_X11_addPane_60 X  hR h
        · have h := ite_f hb h
          refine g_iload_n X (j := 2) dX11_addPane_40 rfl rfl ?_
          refine g_iload_n X (j := 3) dX11_addPane_41 rfl rfl ?_
          refine g_icmp_eq X (tgt := 60) dX11_addPane_42 (by decide) (fun hb => ?_) (fun hb => ?_)
          · have h := ite_t hb h
            refine g_lv [0] rfl ?_
            exact bw_X11_addPane_60 X  hR h
          · have h := ite_f hb h
            refine g_iload_n X (j := 1) dX11_addPane_45 rfl rfl ?_
            refine g_iload_n X (j := 3) dX11_addPane_46 rfl rfl ?_
            refine g_icmp_eq X (tgt := 60) dX11_addPane_47 (by decide) (fun hb => ?_) (fun hb => ?_)
            · have h := ite_t hb h
              refine g_lv [0] rfl ?_
              exact bw_X11_addPane_60 X  hR h
            · have h := ite_f hb h
              refine g_iload X (j := 4) dX11_addPane_50 rfl ?_
              refine g_iconst X (v := (-1)) dX11_addPane_52 (by decide) ?_
              refine g_iconst X (v := 3) dX11_addPane_53 (by decide) ?_
              refine gc_X11_118 X (ct_X11_isIn X.htr ) (by decide) (Nat.le_of_ble_eq_true rfl) dX11_addPane_54 ?_
              refine g_if_ne X (tgt := 66) dX11_addPane_57 (by decide) (fun hb => ?_) (fun hb => ?_)
              · have h := ite_f hb h
                refine g_aload_n X (j := 0) dX11_addPane_66 rfl rfl ?_
                refine gf_X11_125 X gT_c122 dX11_addPane_67 ?_
                refine g_bipush X (v := 30) dX11_addPane_70 (by decide) ?_
                refine g_icmp_ne X (tgt := 81) dX11_addPane_72 (by decide) (fun hb => ?_) (fun hb => ?_)
                · have h := ite_f hb h
                  refine g_aload_n X (j := 0) dX11_addPane_81 rfl rfl ?_
                  refine gf_X11_31 X gT_c122 dX11_addPane_82 ?_
                  refine g_iconst X (v := 3) dX11_addPane_85 (by decide) ?_
                  refine g_aload_n X (j := 0) dX11_addPane_86 rfl rfl ?_
                  refine gf_X11_125 X gT_c122 dX11_addPane_87 ?_
                  refine g_imul X dX11_addPane_90 ?_
                  refine g_iload_n X (j := 1) dX11_addPane_91 rfl rfl ?_
                  obtain ⟨hg9, h⟩ := grd_e h
                  refine g_iast X gT_c130 hg9 dX11_addPane_92 ?_
                  refine g_mem (fun M10 e11 => ?_)
                  have h := bnd_e e11 h
                  refine g_aload_n X (j := 0) dX11_addPane_93 rfl rfl ?_
                  refine gf_X11_31 X gT_c122 dX11_addPane_94 ?_
                  refine g_iconst X (v := 3) dX11_addPane_97 (by decide) ?_
                  refine g_aload_n X (j := 0) dX11_addPane_98 rfl rfl ?_
                  refine gf_X11_125 X gT_c122 dX11_addPane_99 ?_
                  refine g_imul X dX11_addPane_102 ?_
                  refine g_iconst X (v := 1) dX11_addPane_103 (by decide) ?_
                  refine g_iadd X dX11_addPane_104 ?_
                  refine g_iload_n X (j := 2) dX11_addPane_105 rfl rfl ?_
                  obtain ⟨hg12, h⟩ := grd_e h
                  refine g_iast X gT_c130 hg12 dX11_addPane_106 ?_
                  refine g_mem (fun M13 e14 => ?_)
                  have h := bnd_e e14 h
                  refine g_aload_n X (j := 0) dX11_addPane_107 rfl rfl ?_
                  refine gf_X11_31 X gT_c122 dX11_addPane_108 ?_
                  refine g_iconst X (v := 3) dX11_addPane_111 (by decide) ?_
                  refine g_aload_n X (j := 0) dX11_addPane_112 rfl rfl ?_
                  refine gf_X11_125 X gT_c122 dX11_addPane_113 ?_
                  refine g_imul X dX11_addPane_116 ?_
                  refine g_iconst X (v := 2) dX11_addPane_117 (by decide) ?_
                  refine g_iadd X dX11_addPane_118 ?_
                  refine g_iload_n X (j := 3) dX11_addPane_119 rfl rfl ?_
                  obtain ⟨hg15, h⟩ := grd_e h
                  refine g_iast X gT_c130 hg15 dX11_addPane_120 ?_
                  refine g_mem (fun M16 e17 => ?_)
                  have h := bnd_e e17 h
                  refine g_aload_n X (j := 0) dX11_addPane_121 rfl rfl ?_
                  refine gf_X11_34 X gT_c122 dX11_addPane_122 ?_
                  refine g_aload_n X (j := 0) dX11_addPane_125 rfl rfl ?_
                  refine gf_X11_125 X gT_c122 dX11_addPane_126 ?_
                  refine g_iload X (j := 4) dX11_addPane_129 rfl ?_
                  obtain ⟨hg18, h⟩ := grd_e h
                  refine g_iast X gT_c131 hg18 dX11_addPane_131 ?_
                  refine g_mem (fun M19 e20 => ?_)
                  have h := bnd_e e20 h
                  refine g_aload_n X (j := 0) dX11_addPane_132 rfl rfl ?_
                  refine gf_X11_37 X gT_c122 dX11_addPane_133 ?_
                  refine g_aload_n X (j := 0) dX11_addPane_136 rfl rfl ?_
                  refine gf_X11_125 X gT_c122 dX11_addPane_137 ?_
                  refine g_iload X (j := 5) dX11_addPane_140 rfl ?_
                  obtain ⟨hg21, h⟩ := grd_e h
                  obtain ⟨hg22, h⟩ := grd_e h
                  refine g_zast X gT_c132 hg21 (gTf_of hg22) dX11_addPane_142 ?_
                  refine g_mem (fun M23 e24 => ?_)
                  have h := bnd_e e24 h
                  refine g_aload_n X (j := 0) dX11_addPane_143 rfl rfl ?_
                  refine gf_X11_41 X gT_c122 dX11_addPane_144 ?_
                  refine g_aload_n X (j := 0) dX11_addPane_147 rfl rfl ?_
                  refine gf_X11_125 X gT_c122 dX11_addPane_148 ?_
                  refine g_iload X (j := 6) dX11_addPane_151 rfl ?_
                  obtain ⟨hg25, h⟩ := grd_e h
                  obtain ⟨hg26, h⟩ := grd_e h
                  refine g_zast X gT_c133 hg25 (gTf_of hg26) dX11_addPane_153 ?_
                  refine g_mem (fun M27 e28 => ?_)
                  have h := bnd_e e28 h
                  refine g_aload_n X (j := 0) dX11_addPane_154 rfl rfl ?_
                  refine gf_X11_44 X gT_c122 dX11_addPane_155 ?_
                  refine g_aload_n X (j := 0) dX11_addPane_158 rfl rfl ?_
                  refine gf_X11_125 X gT_c122 dX11_addPane_159 ?_
                  refine g_iconst X (v := 1) dX11_addPane_162 (by decide) ?_
                  obtain ⟨hg29, h⟩ := grd_e h
                  refine g_zast X gT_c134 hg29 (Or.inr rfl) dX11_addPane_163 ?_
                  refine g_mem (fun M30 e31 => ?_)
                  have h := bnd_e e31 h
                  refine g_aload_n X (j := 0) dX11_addPane_164 rfl rfl ?_
                  refine g_dup X dX11_addPane_165 rfl ?_
                  refine gf_X11_125 X gT_c122 dX11_addPane_166 ?_
                  refine g_dup_x1 X dX11_addPane_169 rfl rfl ?_
                  refine g_iconst X (v := 1) dX11_addPane_170 (by decide) ?_
                  refine g_iadd X dX11_addPane_171 ?_
                  refine gp_X11_125 X gT_c122 dX11_addPane_172 ?_
                  refine g_mem (fun M32 e33 => ?_)
                  have h := bnd_e e33 h
                  exact hR (gI M30 122 2) M32 _ _ (Option.some.inj h).symm dX11_addPane_175
                · have h := ite_t hb h
                  refine g_aload_n X (j := 0) dX11_addPane_75 rfl rfl ?_
                  refine g_iconst X (v := 3) dX11_addPane_76 (by decide) ?_
                  obtain ⟨⟨v35, M36⟩, hc34, h⟩ := bndO_e h
                  refine gc_X11_139 X gT_c122 (ct_X11_no X.htr  hc34) (by decide) (Nat.le_of_ble_eq_true rfl) dX11_addPane_77 ?_
                  exact hR v35 M36 _ _ (Option.some.inj h).symm dX11_addPane_80
              · have h := ite_t hb h
                refine g_lv [0] rfl ?_
                exact bw_X11_addPane_60 X  hR h
      · have h := ite_t hb h
        refine g_lv [0] rfl ?_
        exact bw_X11_addPane_29 X  hR h
theorem ct_X11_addPane {l : Launch} {z : GZ} (htr : l.stackTraces = false) {i0 : Int32} {i1 : Int32} {i2 : Int32} {i3 : Int32} {i4 : Int32} {i5 : Int32}  {M : GM} {F : Nat} {v : Int32} {M1 : GM} (h : f_X11_addPane F i0 i1 i2 i3 i4 i5 M = some (v, M1)) : gMet l z yX11_addPane cX11_addPane 7 (some .int) 2 [.ref (gad z 122), .int i0, .int i1, .int i2, .int i3, .int i4, .int i5] M (some (.int v)) M1 := gMet_ofI (by decide +kernel) (Nat.le_of_ble_eq_true rfl) htr rfl (fun x X ez el hR => by subst ez; subst el; exact w_X11_addPane X  (fun v9 M9 lv9 pc9 e9 d9 => by cases e9; exact hR lv9 pc9 d9) h)
