/-! 23.m -/
theorem gc_X11_269 {x : GX} {cc : ByteArray} {nL d pc : Nat} {M : GM} {lv : List (Nat × Value)} {st : List Value} (X : GC x cc nL RX11 d)  {M1 : GM} {r : Int32} (ht : gT 122 = 11) (hM : gMet (xl x) (xz x) yX11_depthHere cX11_depthHere 1 (some .int) 0 [.ref (gad (xz x) 122)] M (some (.int r)) M1) (hd : 1 ≤ d) (hsum : (st.map fun v => v.category).sum ≤ 8) (dec : decode cc pc = .ok (.invokevirtual 269, 3)) (go : WG x M1 lv (pc + 3) (.int r :: st)) : WG x M lv pc (.ref (gad (xz x) 122) :: st) := g_callV X (n := 0) (As := []) (rest := st) hM ht (by decide) (gE_11 ht) rfl q_1420 q_1422 q_40 q_63 q_1423 (by decide +kernel) rfl hd (by decide) rfl hsum dec go
theorem gc_X11_272 {x : GX} {cc : ByteArray} {nL d pc : Nat} {M : GM} {lv : List (Nat × Value)} {st : List Value} (X : GC x cc nL RX11 d) {i0 : Int32} {M1 : GM} {r : Int32} (ht : gT 122 = 11) (hM : gMet (xl x) (xz x) yX11_colourHere cX11_colourHere 7 (some .int) 1 [.ref (gad (xz x) 122), .int i0] M (some (.int r)) M1) (hd : 2 ≤ d) (hsum : (st.map fun v => v.category).sum ≤ 8) (dec : decode cc pc = .ok (.invokevirtual 272, 3)) (go : WG x M1 lv (pc + 3) (.int r :: st)) : WG x M lv pc (.int i0 :: .ref (gad (xz x) 122) :: st) := g_callV X (n := 1) (As := [.int i0]) (rest := st) hM ht (by decide) (gE_11 ht) rfl q_1428 q_1430 q_41 q_63 q_1431 (by decide +kernel) rfl hd (by decide) rfl hsum dec go
theorem dX11_paintPoint_0 : decode cX11_paintPoint 0 = .ok (.aload_n 0, 1) := by decide +kernel
theorem dX11_paintPoint_1 : decode cX11_paintPoint 1 = .ok (.invokevirtual 269, 3) := by decide +kernel
theorem dX11_paintPoint_4 : decode cX11_paintPoint 4 = .ok (.istore_n 3, 1) := by decide +kernel
theorem dX11_paintPoint_5 : decode cX11_paintPoint 5 = .ok (.iload_n 3, 1) := by decide +kernel
theorem dX11_paintPoint_6 : decode cX11_paintPoint 6 = .ok (.aload_n 0, 1) := by decide +kernel
theorem dX11_paintPoint_7 : decode cX11_paintPoint 7 = .ok (.getfield 68, 3) := by decide +kernel
theorem dX11_paintPoint_10 : decode cX11_paintPoint 10 = .ok (.iload_n 1, 1) := by decide +kernel
theorem dX11_paintPoint_11 : decode cX11_paintPoint 11 = .ok (.iaload, 1) := by decide +kernel
theorem dX11_paintPoint_12 : decode cX11_paintPoint 12 = .ok (.if_icmp .lt 4, 3) := by decide +kernel
theorem dX11_paintPoint_15 : decode cX11_paintPoint 15 = .ok (.return_, 1) := by decide +kernel
theorem dX11_paintPoint_16 : decode cX11_paintPoint 16 = .ok (.aload_n 0, 1) := by decide +kernel
theorem dX11_paintPoint_17 : decode cX11_paintPoint 17 = .ok (.iload_n 2, 1) := by decide +kernel
theorem dX11_paintPoint_18 : decode cX11_paintPoint 18 = .ok (.invokevirtual 272, 3) := by decide +kernel
theorem dX11_paintPoint_21 : decode cX11_paintPoint 21 = .ok (.istore 4, 2) := by decide +kernel
theorem dX11_paintPoint_23 : decode cX11_paintPoint 23 = .ok (.aload_n 0, 1) := by decide +kernel
theorem dX11_paintPoint_24 : decode cX11_paintPoint 24 = .ok (.getfield 37, 3) := by decide +kernel
theorem dX11_paintPoint_27 : decode cX11_paintPoint 27 = .ok (.iload_n 2, 1) := by decide +kernel
theorem dX11_paintPoint_28 : decode cX11_paintPoint 28 = .ok (.baload, 1) := by decide +kernel
theorem dX11_paintPoint_29 : decode cX11_paintPoint 29 = .ok (.ifCond .ne 26, 3) := by decide +kernel
theorem dX11_paintPoint_32 : decode cX11_paintPoint 32 = .ok (.aload_n 0, 1) := by decide +kernel
theorem dX11_paintPoint_33 : decode cX11_paintPoint 33 = .ok (.getfield 65, 3) := by decide +kernel
theorem dX11_paintPoint_36 : decode cX11_paintPoint 36 = .ok (.iload_n 1, 1) := by decide +kernel
theorem dX11_paintPoint_37 : decode cX11_paintPoint 37 = .ok (.iload 4, 2) := by decide +kernel
theorem dX11_paintPoint_39 : decode cX11_paintPoint 39 = .ok (.iastore, 1) := by decide +kernel
theorem dX11_paintPoint_40 : decode cX11_paintPoint 40 = .ok (.aload_n 0, 1) := by decide +kernel
theorem dX11_paintPoint_41 : decode cX11_paintPoint 41 = .ok (.getfield 68, 3) := by decide +kernel
theorem dX11_paintPoint_44 : decode cX11_paintPoint 44 = .ok (.iload_n 1, 1) := by decide +kernel
theorem dX11_paintPoint_45 : decode cX11_paintPoint 45 = .ok (.iload_n 3, 1) := by decide +kernel
theorem dX11_paintPoint_46 : decode cX11_paintPoint 46 = .ok (.iastore, 1) := by decide +kernel
theorem dX11_paintPoint_47 : decode cX11_paintPoint 47 = .ok (.aload_n 0, 1) := by decide +kernel
theorem dX11_paintPoint_48 : decode cX11_paintPoint 48 = .ok (.getfield 71, 3) := by decide +kernel
theorem dX11_paintPoint_51 : decode cX11_paintPoint 51 = .ok (.iload_n 1, 1) := by decide +kernel
theorem dX11_paintPoint_52 : decode cX11_paintPoint 52 = .ok (.iload_n 2, 1) := by decide +kernel
theorem dX11_paintPoint_53 : decode cX11_paintPoint 53 = .ok (.iastore, 1) := by decide +kernel
theorem dX11_paintPoint_54 : decode cX11_paintPoint 54 = .ok (.return_, 1) := by decide +kernel
theorem dX11_paintPoint_55 : decode cX11_paintPoint 55 = .ok (.aload_n 0, 1) := by decide +kernel
theorem dX11_paintPoint_56 : decode cX11_paintPoint 56 = .ok (.getfield 65, 3) := by decide +kernel
theorem dX11_paintPoint_59 : decode cX11_paintPoint 59 = .ok (.iload_n 1, 1) := by decide +kernel
theorem dX11_paintPoint_60 : decode cX11_paintPoint 60 = .ok (.iaload, 1) := by decide +kernel
theorem dX11_paintPoint_61 : decode cX11_paintPoint 61 = .ok (.istore 5, 2) := by decide +kernel
theorem dX11_paintPoint_63 : decode cX11_paintPoint 63 = .ok (.aload_n 0, 1) := by decide +kernel
theorem dX11_paintPoint_64 : decode cX11_paintPoint 64 = .ok (.getfield 65, 3) := by decide +kernel
theorem dX11_paintPoint_67 : decode cX11_paintPoint 67 = .ok (.iload_n 1, 1) := by decide +kernel
theorem dX11_paintPoint_68 : decode cX11_paintPoint 68 = .ok (.iload 5, 2) := by decide +kernel
theorem dX11_paintPoint_70 : decode cX11_paintPoint 70 = .ok (.invokestatic 170, 3) := by decide +kernel
theorem dX11_paintPoint_73 : decode cX11_paintPoint 73 = .ok (.iload 4, 2) := by decide +kernel
theorem dX11_paintPoint_75 : decode cX11_paintPoint 75 = .ok (.invokestatic 170, 3) := by decide +kernel
theorem dX11_paintPoint_78 : decode cX11_paintPoint 78 = .ok (.iadd, 1) := by decide +kernel
theorem dX11_paintPoint_79 : decode cX11_paintPoint 79 = .ok (.iconst 2, 1) := by decide +kernel
theorem dX11_paintPoint_80 : decode cX11_paintPoint 80 = .ok (.idiv, 1) := by decide +kernel
theorem dX11_paintPoint_81 : decode cX11_paintPoint 81 = .ok (.iload 5, 2) := by decide +kernel
theorem dX11_paintPoint_83 : decode cX11_paintPoint 83 = .ok (.invokestatic 173, 3) := by decide +kernel
theorem dX11_paintPoint_86 : decode cX11_paintPoint 86 = .ok (.iload 4, 2) := by decide +kernel
theorem dX11_paintPoint_88 : decode cX11_paintPoint 88 = .ok (.invokestatic 173, 3) := by decide +kernel
theorem dX11_paintPoint_91 : decode cX11_paintPoint 91 = .ok (.iadd, 1) := by decide +kernel
theorem dX11_paintPoint_92 : decode cX11_paintPoint 92 = .ok (.iconst 2, 1) := by decide +kernel
theorem dX11_paintPoint_93 : decode cX11_paintPoint 93 = .ok (.idiv, 1) := by decide +kernel
theorem dX11_paintPoint_94 : decode cX11_paintPoint 94 = .ok (.iload 5, 2) := by decide +kernel
theorem dX11_paintPoint_96 : decode cX11_paintPoint 96 = .ok (.invokestatic 176, 3) := by decide +kernel
theorem dX11_paintPoint_99 : decode cX11_paintPoint 99 = .ok (.iload 4, 2) := by decide +kernel
theorem dX11_paintPoint_101 : decode cX11_paintPoint 101 = .ok (.invokestatic 176, 3) := by decide +kernel
theorem dX11_paintPoint_104 : decode cX11_paintPoint 104 = .ok (.iadd, 1) := by decide +kernel
theorem dX11_paintPoint_105 : decode cX11_paintPoint 105 = .ok (.iconst 2, 1) := by decide +kernel
theorem dX11_paintPoint_106 : decode cX11_paintPoint 106 = .ok (.idiv, 1) := by decide +kernel
theorem dX11_paintPoint_107 : decode cX11_paintPoint 107 = .ok (.invokestatic 259, 3) := by decide +kernel
theorem dX11_paintPoint_110 : decode cX11_paintPoint 110 = .ok (.iastore, 1) := by decide +kernel
theorem dX11_paintPoint_111 : decode cX11_paintPoint 111 = .ok (.iload_n 1, 1) := by decide +kernel
theorem dX11_paintPoint_112 : decode cX11_paintPoint 112 = .ok (.aload_n 0, 1) := by decide +kernel
theorem dX11_paintPoint_113 : decode cX11_paintPoint 113 = .ok (.getfield 74, 3) := by decide +kernel
theorem dX11_paintPoint_116 : decode cX11_paintPoint 116 = .ok (.if_icmp .ne 8, 3) := by decide +kernel
theorem dX11_paintPoint_119 : decode cX11_paintPoint 119 = .ok (.aload_n 0, 1) := by decide +kernel
theorem dX11_paintPoint_120 : decode cX11_paintPoint 120 = .ok (.iconst 1, 1) := by decide +kernel
theorem dX11_paintPoint_121 : decode cX11_paintPoint 121 = .ok (.putfield 275, 3) := by decide +kernel
theorem dX11_paintPoint_124 : decode cX11_paintPoint 124 = .ok (.return_, 1) := by decide +kernel
def f_X11_paintPoint (F : Nat) (i0 : Int32) (i1 : Int32) (M : GM) : Option GM := bndO (f_X11_depthHere F M) (fun v2 => bnd v2 (fun v3 => grd (gIn i0 (gN 142)) (if v3 < (gI M 142 i0.toNatClampNeg) then (bndO (f_X11_colourHere F i1 M) (fun v7 => bnd v7 (fun v8 => grd (gIn i1 (gN 132)) (if (gI M 132 i1.toNatClampNeg) = 0 then (grd (gIn i0 (gN 141)) (bnd (sI M 141 i0.toNatClampNeg v8) (fun M20 => grd (gIn i0 (gN 142)) (bnd (sI M20 142 i0.toNatClampNeg v3) (fun M23 => grd (gIn i0 (gN 143)) (bnd (sI M23 143 i0.toNatClampNeg i1) (fun M26 => some M26))))))) else (grd (gIn i0 (gN 141)) (bnd (gI M 141 i0.toNatClampNeg) (fun v12 => grd (gIn i0 (gN 141)) (bnd (sI M 141 i0.toNatClampNeg (f_X11_mixed (((f_X11_red v12) + (f_X11_red v8)) / (2 : Int32)) (((f_X11_green v12) + (f_X11_green v8)) / (2 : Int32)) (((f_X11_blue v12) + (f_X11_blue v8)) / (2 : Int32)))) (fun M15 => if i0 = (gI M15 122 25) then (bnd (sI M15 122 39 (1 : Int32)) (fun M17 => some M17)) else (some M15)))))))))) else (some M))))
set_option maxHeartbeats 4000000 in
set_option maxRecDepth 100000 in
theorem w_X11_paintPoint {x : GX} (X : GC x cX11_paintPoint 6 RX11 2) {i0 : Int32} {i1 : Int32}  {F : Nat} {M : GM} {r9 : GM} (hR : ∀ (M9 : GM) (lv9 : List (Nat × Value)) (pc9 : Nat), r9 = M9 → decode cX11_paintPoint pc9 = .ok (.return_, 1) → WG x M9 lv9 pc9 []) (h : f_X11_paintPoint F i0 i1 M = some r9) : WG x M [(0, .ref (gad (xz x) 122)), (1, .int i0), (2, .int i1)] 0 [] := by
  unfold f_X11_paintPoint at h
  refine g_aload_n X (j := 0) dX11_paintPoint_0 rfl rfl ?_
  obtain ⟨v2, hc1, h⟩ := bndO_e h
  refine gc_X11_269 X gT_c122 (ct_X11_depthHere X.htr  hc1) (by decide) (Nat.le_of_ble_eq_true rfl) dX11_paintPoint_1 ?_
  refine g_topi (fun v3 e4 => ?_)
  have h := bnd_e e4 h
  refine g_istore_n X (lv' := [(3, .int v3), (0, .ref (gad (xz x) 122)), (1, .int i0), (2, .int i1)]) dX11_paintPoint_4 rfl (by decide) rfl ?_
  refine g_iload_n X (j := 0) dX11_paintPoint_5 rfl rfl ?_
  refine g_aload_n X (j := 1) dX11_paintPoint_6 rfl rfl ?_
  refine gf_X11_68 X gT_c122 dX11_paintPoint_7 ?_
  refine g_iload_n X (j := 2) dX11_paintPoint_10 rfl rfl ?_
  obtain ⟨hg5, h⟩ := grd_e h
  refine g_iald X gT_c142 hg5 dX11_paintPoint_11 ?_
  refine g_icmp_lt X (tgt := 16) dX11_paintPoint_12 (by decide) (fun hb => ?_) (fun hb => ?_)
  · have h := ite_t hb h
    refine g_aload_n X (j := 1) dX11_paintPoint_16 rfl rfl ?_
    refine g_iload_n X (j := 3) dX11_paintPoint_17 rfl rfl ?_
    obtain ⟨v7, hc6, h⟩ := bndO_e h
    refine gc_X11_272 X gT_c122 (ct_X11_colourHere X.htr  hc6) (by decide) (Nat.le_of_ble_eq_true rfl) dX11_paintPoint_18 ?_
    refine g_topi (fun v8 e9 => ?_)
    have h := bnd_e e9 h
    refine g_istore X (lv' := [(4, .int v8), (3, .int v3), (0, .ref (gad (xz x) 122)), (1, .int i0), (2, .int i1)]) dX11_paintPoint_21 (by decide) rfl ?_
    refine g_aload_n X (j := 2) dX11_paintPoint_23 rfl rfl ?_
    refine gf_X11_37 X gT_c122 dX11_paintPoint_24 ?_
    refine g_iload_n X (j := 4) dX11_paintPoint_27 rfl rfl ?_
    obtain ⟨hg10, h⟩ := grd_e h
    refine g_zald X gT_c132 hg10 dX11_paintPoint_28 ?_
    refine g_if_ne X (tgt := 55) dX11_paintPoint_29 (by decide) (fun hb => ?_) (fun hb => ?_)
    · have h := ite_f hb h
      refine g_aload_n X (j := 2) dX11_paintPoint_55 rfl rfl ?_
      refine gf_X11_65 X gT_c122 dX11_paintPoint_56 ?_
      refine g_iload_n X (j := 3) dX11_paintPoint_59 rfl rfl ?_
      obtain ⟨hg11, h⟩ := grd_e h
      refine g_iald X gT_c141 hg11 dX11_paintPoint_60 ?_
      refine g_topi (fun v12 e13 => ?_)
      have h := bnd_e e13 h
      refine g_istore X (lv' := [(5, .int v12), (4, .int v8), (3, .int v3), (0, .ref (gad (xz x) 122)), (1, .int i0), (2, .int i1)]) dX11_paintPoint_61 (by decide) rfl ?_
      refine g_aload_n X (j := 3) dX11_paintPoint_63 rfl rfl ?_
      refine gf_X11_65 X gT_c122 dX11_paintPoint_64 ?_
      refine g_iload_n X (j := 4) dX11_paintPoint_67 rfl rfl ?_
      refine g_iload X (j := 0) dX11_paintPoint_68 rfl ?_
      refine gc_X11_170 X (ct_X11_red X.htr ) (by decide) (Nat.le_of_ble_eq_true rfl) dX11_paintPoint_70 ?_
      refine g_iload X (j := 1) dX11_paintPoint_73 rfl ?_
      refine gc_X11_170 X (ct_X11_red X.htr ) (by decide) (Nat.le_of_ble_eq_true rfl) dX11_paintPoint_75 ?_
      refine g_iadd X dX11_paintPoint_78 ?_
      refine g_iconst X (v := 2) dX11_paintPoint_79 (by decide) ?_
      refine g_idiv X dX11_paintPoint_80 (by decide) ?_
      refine g_iload X (j := 0) dX11_paintPoint_81 rfl ?_
      refine gc_X11_173 X (ct_X11_green X.htr ) (by decide) (Nat.le_of_ble_eq_true rfl) dX11_paintPoint_83 ?_
      refine g_iload X (j := 1) dX11_paintPoint_86 rfl ?_
      refine gc_X11_173 X (ct_X11_green X.htr ) (by decide) (Nat.le_of_ble_eq_true rfl) dX11_paintPoint_88 ?_
      refine g_iadd X dX11_paintPoint_91 ?_
      refine g_iconst X (v := 2) dX11_paintPoint_92 (by decide) ?_
      refine g_idiv X dX11_paintPoint_93 (by decide) ?_
      refine g_iload X (j := 0) dX11_paintPoint_94 rfl ?_
      refine gc_X11_176 X (ct_X11_blue X.htr ) (by decide) (Nat.le_of_ble_eq_true rfl) dX11_paintPoint_96 ?_
      refine g_iload X (j := 1) dX11_paintPoint_99 rfl ?_
      refine gc_X11_176 X (ct_X11_blue X.htr ) (by decide) (Nat.le_of_ble_eq_true rfl) dX11_paintPoint_101 ?_
      refine g_iadd X dX11_paintPoint_104 ?_
      refine g_iconst X (v := 2) dX11_paintPoint_105 (by decide) ?_
      refine g_idiv X dX11_paintPoint_106 (by decide) ?_
      refine gc_X11_259 X (ct_X11_mixed X.htr ) (by decide) (Nat.le_of_ble_eq_true rfl) dX11_paintPoint_107 ?_
      obtain ⟨hg14, h⟩ := grd_e h
      refine g_iast X gT_c141 hg14 dX11_paintPoint_110 ?_
      refine g_mem (fun M15 e16 => ?_)
      have h := bnd_e e16 h
      refine g_iload_n X (j := 4) dX11_paintPoint_111 rfl rfl ?_
      refine g_aload_n X (j := 3) dX11_paintPoint_112 rfl rfl ?_
      refine gf_X11_74 X gT_c122 dX11_paintPoint_113 ?_
      refine g_icmp_ne X (tgt := 124) dX11_paintPoint_116 (by decide) (fun hb => ?_) (fun hb => ?_)
      · have h := ite_f hb h
        exact hR M15 _ _ (Option.some.inj h).symm dX11_paintPoint_124
      · have h := ite_t hb h
        refine g_aload_n X (j := 3) dX11_paintPoint_119 rfl rfl ?_
        refine g_iconst X (v := 1) dX11_paintPoint_120 (by decide) ?_
        refine gp_X11_275 X gT_c122 (Or.inr rfl) dX11_paintPoint_121 ?_
        refine g_mem (fun M17 e18 => ?_)
        have h := bnd_e e18 h
        exact hR M17 _ _ (Option.some.inj h).symm dX11_paintPoint_124
    · have h := ite_t hb h
      refine g_aload_n X (j := 2) dX11_paintPoint_32 rfl rfl ?_
      refine gf_X11_65 X gT_c122 dX11_paintPoint_33 ?_
      refine g_iload_n X (j := 3) dX11_paintPoint_36 rfl rfl ?_
      refine g_iload X (j := 0) dX11_paintPoint_37 rfl ?_
      obtain ⟨hg19, h⟩ := grd_e h
      refine g_iast X gT_c141 hg19 dX11_paintPoint_39 ?_
      refine g_mem (fun M20 e21 => ?_)
      have h := bnd_e e21 h
      refine g_aload_n X (j := 2) dX11_paintPoint_40 rfl rfl ?_
      refine gf_X11_68 X gT_c122 dX11_paintPoint_41 ?_
      refine g_iload_n X (j := 3) dX11_paintPoint_44 rfl rfl ?_
      refine g_iload_n X (j := 1) dX11_paintPoint_45 rfl rfl ?_
      obtain ⟨hg22, h⟩ := grd_e h
      refine g_iast X gT_c142 hg22 dX11_paintPoint_46 ?_
      refine g_mem (fun M23 e24 => ?_)
      have h := bnd_e e24 h
      refine g_aload_n X (j := 2) dX11_paintPoint_47 rfl rfl ?_
      refine gf_X11_71 X gT_c122 dX11_paintPoint_48 ?_
      refine g_iload_n X (j := 3) dX11_paintPoint_51 rfl rfl ?_
      refine g_iload_n X (j := 4) dX11_paintPoint_52 rfl rfl ?_
      obtain ⟨hg25, h⟩ := grd_e h
      refine g_iast X gT_c143 hg25 dX11_paintPoint_53 ?_
      refine g_mem (fun M26 e27 => ?_)
      have h := bnd_e e27 h
      exact hR M26 _ _ (Option.some.inj h).symm dX11_paintPoint_54
  · have h := ite_f hb h
    exact hR M _ _ (Option.some.inj h).symm dX11_paintPoint_15
theorem ct_X11_paintPoint {l : Launch} {z : GZ} (htr : l.stackTraces = false) {i0 : Int32} {i1 : Int32}  {M : GM} {F : Nat} {M1 : GM} (h : f_X11_paintPoint F i0 i1 M = some M1) : gMet l z yX11_paintPoint cX11_paintPoint 6 none 2 [.ref (gad z 122), .int i0, .int i1] M (none) M1 := gMet_ofV (by decide +kernel) (Nat.le_of_ble_eq_true rfl) htr (fun x X ez el hR => by subst ez; subst el; exact w_X11_paintPoint X  (fun M9 lv9 pc9 e9 d9 => by cases e9; exact hR lv9 pc9 d9) h)
theorem gm_X11_297 {x : GX} {cc : ByteArray} {nL d pc : Nat} {M : GM} {lv : List (Nat × Value)} {st : List Value} (X : GC x cc nL RX11 d) {a b : Int64} (hd : 1 ≤ d) (hsum : (st.map fun v => v.category).sum ≤ 8) (dec : decode cc pc = .ok (.invokestatic 297, 3)) (go : WG x M lv (pc + 3) (.long (g_maxl a b) :: st)) : WG x M lv pc (.long b :: .long a :: st) := fun H locs ls hP hO hS hl => va_mmax_long X.1 X.2.1 hl.1.symm X.2.2.2.1 (X.hw q_1463) (X.hw q_1464) (X.hw q_70) (X.hw q_1465) (by have := X.2.2.2.2.2.2.2.1; omega) (by have := X.2.2.2.2.2.2.2.2.1; omega) X.2.2.2.2.2.2.2.2.2.1 X.2.2.2.2.2.2.2.2.2.2.1 dec (go H locs ls hP hO hS hl)
theorem gm_X11_292 {x : GX} {cc : ByteArray} {nL d pc : Nat} {M : GM} {lv : List (Nat × Value)} {st : List Value} (X : GC x cc nL RX11 d) {a b : Int64} (hd : 1 ≤ d) (hsum : (st.map fun v => v.category).sum ≤ 8) (dec : decode cc pc = .ok (.invokestatic 292, 3)) (go : WG x M lv (pc + 3) (.long (g_minl a b) :: st)) : WG x M lv pc (.long b :: .long a :: st) := fun H locs ls hP hO hS hl => va_mmin_long X.1 X.2.1 hl.1.symm X.2.2.2.1 (X.hw q_1466) (X.hw q_1467) (X.hw q_70) (X.hw q_1468) (by have := X.2.2.2.2.2.2.2.1; omega) (by have := X.2.2.2.2.2.2.2.2.1; omega) X.2.2.2.2.2.2.2.2.2.1 X.2.2.2.2.2.2.2.2.2.2.1 dec (go H locs ls hP hO hS hl)
theorem dX11_high_0 : decode cX11_high 0 = .ok (.iload 6, 2) := by decide +kernel
theorem dX11_high_2 : decode cX11_high 2 = .ok (.i2l, 1) := by decide +kernel
theorem dX11_high_3 : decode cX11_high 3 = .ok (.lload_n 0, 1) := by decide +kernel
theorem dX11_high_4 : decode cX11_high 4 = .ok (.lload_n 2, 1) := by decide +kernel
theorem dX11_high_5 : decode cX11_high 5 = .ok (.lload 4, 2) := by decide +kernel
theorem dX11_high_7 : decode cX11_high 7 = .ok (.invokestatic 297, 3) := by decide +kernel
theorem dX11_high_10 : decode cX11_high 10 = .ok (.invokestatic 297, 3) := by decide +kernel
theorem dX11_high_13 : decode cX11_high 13 = .ok (.ldc2_w 202, 3) := by decide +kernel
theorem dX11_high_16 : decode cX11_high 16 = .ok (.invokestatic 179, 3) := by decide +kernel
theorem dX11_high_19 : decode cX11_high 19 = .ok (.lconst 1, 1) := by decide +kernel
theorem dX11_high_20 : decode cX11_high 20 = .ok (.ladd, 1) := by decide +kernel
theorem dX11_high_21 : decode cX11_high 21 = .ok (.invokestatic 292, 3) := by decide +kernel
theorem dX11_high_24 : decode cX11_high 24 = .ok (.l2i, 1) := by decide +kernel
theorem dX11_high_25 : decode cX11_high 25 = .ok (.ireturn, 1) := by decide +kernel
def f_X11_high (F : Nat) (j0 : Int64) (j1 : Int64) (j2 : Int64) (i3 : Int32) (M : GM) : Option Int32 := bndO (f_X11_down F (g_maxl j0 (g_maxl j1 j2)) (16 : Int64) M) (fun w2 => some ((g_minl i3.toInt64 (w2 + (1 : Int64))).toInt32))
set_option maxHeartbeats 4000000 in
set_option maxRecDepth 100000 in
theorem w_X11_high {x : GX} (X : GC x cX11_high 7 RX11 1) {j0 : Int64} {j1 : Int64} {j2 : Int64} {i3 : Int32}  {F : Nat} {M : GM} {r9 : Int32} (hR : ∀ (v9 : Int32) (lv9 : List (Nat × Value)) (pc9 : Nat), r9 = v9 → decode cX11_high pc9 = .ok (.ireturn, 1) → WG x M lv9 pc9 [.int v9]) (h : f_X11_high F j0 j1 j2 i3 M = some r9) : WG x M [(0, .long j0), (2, .long j1), (4, .long j2), (6, .int i3)] 0 [] := by
  unfold f_X11_high at h
  refine g_iload X (j := 3) dX11_high_0 rfl ?_
  refine g_i2l X dX11_high_2 ?_
  refine g_lload_n X (j := 0) dX11_high_3 rfl rfl ?_
  refine g_lload_n X (j := 1) dX11_high_4 rfl rfl ?_
  refine g_lload X (j := 2) dX11_high_5 rfl ?_
  refine gm_X11_297 X (by decide) (Nat.le_of_ble_eq_true rfl) dX11_high_7 ?_
  refine gm_X11_297 X (by decide) (Nat.le_of_ble_eq_true rfl) dX11_high_10 ?_
  refine g_ldc2 X q_1345 dX11_high_13 ?_
  obtain ⟨w2, hc1, h⟩ := bndO_e h
  refine gc_X11_179 X (ct_X11_down X.htr  hc1) (by decide) (Nat.le_of_ble_eq_true rfl) dX11_high_16 ?_
  refine g_lconst X (v := 1) dX11_high_19 (by decide) ?_
  refine g_ladd X dX11_high_20 ?_
  refine gm_X11_292 X (by decide) (Nat.le_of_ble_eq_true rfl) dX11_high_21 ?_
  refine g_l2i X dX11_high_24 ?_
  exact hR ((g_minl i3.toInt64 (w2 + (1 : Int64))).toInt32) _ _ (Option.some.inj h).symm dX11_high_25
theorem ct_X11_high {l : Launch} {z : GZ} (htr : l.stackTraces = false) {j0 : Int64} {j1 : Int64} {j2 : Int64} {i3 : Int32}  {M : GM} {F : Nat} {v : Int32} (h : f_X11_high F j0 j1 j2 i3 M = some v) : gMet l z yX11_high cX11_high 7 (some .int) 1 [.long j0, .long j1, .long j2, .int i3] M (some (.int v)) M := gMet_ofI (by decide +kernel) (Nat.le_of_ble_eq_true rfl) htr rfl (fun x X ez el hR => by subst ez; subst el; exact w_X11_high X  (fun v9 lv9 pc9 e9 d9 => by cases e9; exact hR lv9 pc9 d9) h)
theorem dX11_low_0 : decode cX11_low 0 = .ok (.lconst 0, 1) := by decide +kernel
theorem dX11_low_1 : decode cX11_low 1 = .ok (.lload_n 0, 1) := by decide +kernel
theorem dX11_low_2 : decode cX11_low 2 = .ok (.lload_n 2, 1) := by decide +kernel
theorem dX11_low_3 : decode cX11_low 3 = .ok (.lload 4, 2) := by decide +kernel
theorem dX11_low_5 : decode cX11_low 5 = .ok (.invokestatic 292, 3) := by decide +kernel
theorem dX11_low_8 : decode cX11_low 8 = .ok (.invokestatic 292, 3) := by decide +kernel
theorem dX11_low_11 : decode cX11_low 11 = .ok (.ldc2_w 202, 3) := by decide +kernel
theorem dX11_low_14 : decode cX11_low 14 = .ok (.invokestatic 179, 3) := by decide +kernel
theorem dX11_low_17 : decode cX11_low 17 = .ok (.lconst 1, 1) := by decide +kernel
theorem dX11_low_18 : decode cX11_low 18 = .ok (.lsub, 1) := by decide +kernel
theorem dX11_low_19 : decode cX11_low 19 = .ok (.invokestatic 297, 3) := by decide +kernel
theorem dX11_low_22 : decode cX11_low 22 = .ok (.l2i, 1) := by decide +kernel
theorem dX11_low_23 : decode cX11_low 23 = .ok (.ireturn, 1) := by decide +kernel
def f_X11_low (F : Nat) (j0 : Int64) (j1 : Int64) (j2 : Int64) (M : GM) : Option Int32 := bndO (f_X11_down F (g_minl j0 (g_minl j1 j2)) (16 : Int64) M) (fun w2 => some ((g_maxl (0 : Int64) (w2 - (1 : Int64))).toInt32))
set_option maxHeartbeats 4000000 in
set_option maxRecDepth 100000 in
theorem w_X11_low {x : GX} (X : GC x cX11_low 6 RX11 1) {j0 : Int64} {j1 : Int64} {j2 : Int64}  {F : Nat} {M : GM} {r9 : Int32} (hR : ∀ (v9 : Int32) (lv9 : List (Nat × Value)) (pc9 : Nat), r9 = v9 → decode cX11_low pc9 = .ok (.ireturn, 1) → WG x M lv9 pc9 [.int v9]) (h : f_X11_low F j0 j1 j2 M = some r9) : WG x M [(0, .long j0), (2, .long j1), (4, .long j2)] 0 [] := by
  unfold f_X11_low at h
  refine g_lconst X (v := 0) dX11_low_0 (by decide) ?_
  refine g_lload_n X (j := 0) dX11_low_1 rfl rfl ?_
  refine g_lload_n X (j := 1) dX11_low_2 rfl rfl ?_
  refine g_lload X (j := 2) dX11_low_3 rfl ?_
  refine gm_X11_292 X (by decide) (Nat.le_of_ble_eq_true rfl) dX11_low_5 ?_
  refine gm_X11_292 X (by decide) (Nat.le_of_ble_eq_true rfl) dX11_low_8 ?_
  refine g_ldc2 X q_1345 dX11_low_11 ?_
  obtain ⟨w2, hc1, h⟩ := bndO_e h
  refine gc_X11_179 X (ct_X11_down X.htr  hc1) (by decide) (Nat.le_of_ble_eq_true rfl) dX11_low_14 ?_
  refine g_lconst X (v := 1) dX11_low_17 (by decide) ?_
  refine g_lsub X dX11_low_18 ?_
  refine gm_X11_297 X (by decide) (Nat.le_of_ble_eq_true rfl) dX11_low_19 ?_
  refine g_l2i X dX11_low_22 ?_
  exact hR ((g_maxl (0 : Int64) (w2 - (1 : Int64))).toInt32) _ _ (Option.some.inj h).symm dX11_low_23
theorem ct_X11_low {l : Launch} {z : GZ} (htr : l.stackTraces = false) {j0 : Int64} {j1 : Int64} {j2 : Int64}  {M : GM} {F : Nat} {v : Int32} (h : f_X11_low F j0 j1 j2 M = some v) : gMet l z yX11_low cX11_low 6 (some .int) 1 [.long j0, .long j1, .long j2] M (some (.int v)) M := gMet_ofI (by decide +kernel) (Nat.le_of_ble_eq_true rfl) htr rfl (fun x X ez el hR => by subst ez; subst el; exact w_X11_low X  (fun v9 lv9 pc9 e9 d9 => by cases e9; exact hR lv9 pc9 d9) h)
theorem gc_X11_300 {x : GX} {cc : ByteArray} {nL d pc : Nat} {M : GM} {lv : List (Nat × Value)} {st : List Value} (X : GC x cc nL RX11 d) {i0 : Int64} {i1 : Int64} {i2 : Int64} {i3 : Int32} {M1 : GM} {r : Int32} (hM : gMet (xl x) (xz x) yX11_high cX11_high 7 (some .int) 1 [.long i0, .long i1, .long i2, .int i3] M (some (.int r)) M1) (hd : 2 ≤ d) (hsum : (st.map fun v => v.category).sum ≤ 8) (dec : decode cc pc = .ok (.invokestatic 300, 3)) (go : WG x M1 lv (pc + 3) (.int r :: st)) : WG x M lv pc (.int i3 :: .long i2 :: .long i1 :: .long i0 :: st) := g_callS X (n := 4) (As := [.long i0, .long i1, .long i2, .int i3]) (rest := st) hM q_1460 q_1461 q_63 q_1462 (by decide +kernel) rfl hd (by decide) rfl hsum dec go
theorem gc_X11_304 {x : GX} {cc : ByteArray} {nL d pc : Nat} {M : GM} {lv : List (Nat × Value)} {st : List Value} (X : GC x cc nL RX11 d) {i0 : Int64} {i1 : Int64} {i2 : Int64} {M1 : GM} {r : Int32} (hM : gMet (xl x) (xz x) yX11_low cX11_low 6 (some .int) 1 [.long i0, .long i1, .long i2] M (some (.int r)) M1) (hd : 2 ≤ d) (hsum : (st.map fun v => v.category).sum ≤ 8) (dec : decode cc pc = .ok (.invokestatic 304, 3)) (go : WG x M1 lv (pc + 3) (.int r :: st)) : WG x M lv pc (.long i2 :: .long i1 :: .long i0 :: st) := g_callS X (n := 3) (As := [.long i0, .long i1, .long i2]) (rest := st) hM q_1469 q_1470 q_63 q_1471 (by decide +kernel) rfl hd (by decide) rfl hsum dec go
theorem gc_X11_308 {x : GX} {cc : ByteArray} {nL d pc : Nat} {M : GM} {lv : List (Nat × Value)} {st : List Value} (X : GC x cc nL RX11 d) {i0 : Int32} {i1 : Int32} {M1 : GM} {r : Int32} (ht : gT 122 = 11) (hM : gMet (xl x) (xz x) yX11_isInPiece cX11_isInPiece 7 (some .boolean) 1 [.ref (gad (xz x) 122), .int i0, .int i1] M (some (.int r)) M1) (hd : 2 ≤ d) (hsum : (st.map fun v => v.category).sum ≤ 8) (dec : decode cc pc = .ok (.invokevirtual 308, 3)) (go : WG x M1 lv (pc + 3) (.int r :: st)) : WG x M lv pc (.int i1 :: .int i0 :: .ref (gad (xz x) 122) :: st) := g_callV X (n := 2) (As := [.int i0, .int i1]) (rest := st) hM ht (by decide) (gE_11 ht) rfl q_1396 q_1398 q_37 q_63 q_1399 (by decide +kernel) rfl hd (by decide) rfl hsum dec go
theorem gc_X11_311 {x : GX} {cc : ByteArray} {nL d pc : Nat} {M : GM} {lv : List (Nat × Value)} {st : List Value} (X : GC x cc nL RX11 d) {i0 : Int32} {i1 : Int32} {M1 : GM} (ht : gT 122 = 11) (hM : gMet (xl x) (xz x) yX11_paintPoint cX11_paintPoint 6 none 2 [.ref (gad (xz x) 122), .int i0, .int i1] M (none) M1) (hd : 3 ≤ d) (hsum : (st.map fun v => v.category).sum ≤ 8) (dec : decode cc pc = .ok (.invokevirtual 311, 3)) (go : WG x M1 lv (pc + 3) (st)) : WG x M lv pc (.int i1 :: .int i0 :: .ref (gad (xz x) 122) :: st) := g_callV X (n := 2) (As := [.int i0, .int i1]) (rest := st) hM ht (by decide) (gE_11 ht) rfl q_1472 q_1474 q_48 q_63 q_1475 (by decide +kernel) rfl hd (by decide) rfl hsum dec go
theorem dX11_drawPiece_0 : decode cX11_drawPiece 0 = .ok (.aload_n 0, 1) := by decide +kernel
theorem dX11_drawPiece_1 : decode cX11_drawPiece 1 = .ok (.getfield 83, 3) := by decide +kernel
theorem dX11_drawPiece_4 : decode cX11_drawPiece 4 = .ok (.iconst 0, 1) := by decide +kernel
theorem dX11_drawPiece_5 : decode cX11_drawPiece 5 = .ok (.laload, 1) := by decide +kernel
theorem dX11_drawPiece_6 : decode cX11_drawPiece 6 = .ok (.aload_n 0, 1) := by decide +kernel
theorem dX11_drawPiece_7 : decode cX11_drawPiece 7 = .ok (.getfield 83, 3) := by decide +kernel
theorem dX11_drawPiece_10 : decode cX11_drawPiece 10 = .ok (.iconst 1, 1) := by decide +kernel
theorem dX11_drawPiece_11 : decode cX11_drawPiece 11 = .ok (.laload, 1) := by decide +kernel
theorem dX11_drawPiece_12 : decode cX11_drawPiece 12 = .ok (.aload_n 0, 1) := by decide +kernel
theorem dX11_drawPiece_13 : decode cX11_drawPiece 13 = .ok (.getfield 83, 3) := by decide +kernel
theorem dX11_drawPiece_16 : decode cX11_drawPiece 16 = .ok (.iconst 2, 1) := by decide +kernel
theorem dX11_drawPiece_17 : decode cX11_drawPiece 17 = .ok (.laload, 1) := by decide +kernel
theorem dX11_drawPiece_18 : decode cX11_drawPiece 18 = .ok (.bipush 39, 2) := by decide +kernel
theorem dX11_drawPiece_20 : decode cX11_drawPiece 20 = .ok (.invokestatic 300, 3) := by decide +kernel
theorem dX11_drawPiece_23 : decode cX11_drawPiece 23 = .ok (.istore_n 2, 1) := by decide +kernel
theorem dX11_drawPiece_24 : decode cX11_drawPiece 24 = .ok (.aload_n 0, 1) := by decide +kernel
theorem dX11_drawPiece_25 : decode cX11_drawPiece 25 = .ok (.getfield 87, 3) := by decide +kernel
theorem dX11_drawPiece_28 : decode cX11_drawPiece 28 = .ok (.iconst 0, 1) := by decide +kernel
theorem dX11_drawPiece_29 : decode cX11_drawPiece 29 = .ok (.laload, 1) := by decide +kernel
theorem dX11_drawPiece_30 : decode cX11_drawPiece 30 = .ok (.aload_n 0, 1) := by decide +kernel
theorem dX11_drawPiece_31 : decode cX11_drawPiece 31 = .ok (.getfield 87, 3) := by decide +kernel
theorem dX11_drawPiece_34 : decode cX11_drawPiece 34 = .ok (.iconst 1, 1) := by decide +kernel
theorem dX11_drawPiece_35 : decode cX11_drawPiece 35 = .ok (.laload, 1) := by decide +kernel
theorem dX11_drawPiece_36 : decode cX11_drawPiece 36 = .ok (.aload_n 0, 1) := by decide +kernel
theorem dX11_drawPiece_37 : decode cX11_drawPiece 37 = .ok (.getfield 87, 3) := by decide +kernel
theorem dX11_drawPiece_40 : decode cX11_drawPiece 40 = .ok (.iconst 2, 1) := by decide +kernel
theorem dX11_drawPiece_41 : decode cX11_drawPiece 41 = .ok (.laload, 1) := by decide +kernel
theorem dX11_drawPiece_42 : decode cX11_drawPiece 42 = .ok (.bipush 23, 2) := by decide +kernel
theorem dX11_drawPiece_44 : decode cX11_drawPiece 44 = .ok (.invokestatic 300, 3) := by decide +kernel
theorem dX11_drawPiece_47 : decode cX11_drawPiece 47 = .ok (.istore_n 3, 1) := by decide +kernel
theorem dX11_drawPiece_48 : decode cX11_drawPiece 48 = .ok (.aload_n 0, 1) := by decide +kernel
theorem dX11_drawPiece_49 : decode cX11_drawPiece 49 = .ok (.getfield 87, 3) := by decide +kernel
theorem dX11_drawPiece_52 : decode cX11_drawPiece 52 = .ok (.iconst 0, 1) := by decide +kernel
theorem dX11_drawPiece_53 : decode cX11_drawPiece 53 = .ok (.laload, 1) := by decide +kernel
theorem dX11_drawPiece_54 : decode cX11_drawPiece 54 = .ok (.aload_n 0, 1) := by decide +kernel
theorem dX11_drawPiece_55 : decode cX11_drawPiece 55 = .ok (.getfield 87, 3) := by decide +kernel
theorem dX11_drawPiece_58 : decode cX11_drawPiece 58 = .ok (.iconst 1, 1) := by decide +kernel
theorem dX11_drawPiece_59 : decode cX11_drawPiece 59 = .ok (.laload, 1) := by decide +kernel
theorem dX11_drawPiece_60 : decode cX11_drawPiece 60 = .ok (.aload_n 0, 1) := by decide +kernel
theorem dX11_drawPiece_61 : decode cX11_drawPiece 61 = .ok (.getfield 87, 3) := by decide +kernel
theorem dX11_drawPiece_64 : decode cX11_drawPiece 64 = .ok (.iconst 2, 1) := by decide +kernel
theorem dX11_drawPiece_65 : decode cX11_drawPiece 65 = .ok (.laload, 1) := by decide +kernel
theorem dX11_drawPiece_66 : decode cX11_drawPiece 66 = .ok (.invokestatic 304, 3) := by decide +kernel
theorem dX11_drawPiece_69 : decode cX11_drawPiece 69 = .ok (.istore 4, 2) := by decide +kernel
theorem dX11_drawPiece_71 : decode cX11_drawPiece 71 = .ok (.iload 4, 2) := by decide +kernel
theorem dX11_drawPiece_73 : decode cX11_drawPiece 73 = .ok (.iload_n 3, 1) := by decide +kernel
theorem dX11_drawPiece_74 : decode cX11_drawPiece 74 = .ok (.if_icmp .gt 68, 3) := by decide +kernel
theorem dX11_drawPiece_77 : decode cX11_drawPiece 77 = .ok (.aload_n 0, 1) := by decide +kernel
theorem dX11_drawPiece_78 : decode cX11_drawPiece 78 = .ok (.getfield 83, 3) := by decide +kernel
theorem dX11_drawPiece_81 : decode cX11_drawPiece 81 = .ok (.iconst 0, 1) := by decide +kernel
theorem dX11_drawPiece_82 : decode cX11_drawPiece 82 = .ok (.laload, 1) := by decide +kernel
theorem dX11_drawPiece_83 : decode cX11_drawPiece 83 = .ok (.aload_n 0, 1) := by decide +kernel
theorem dX11_drawPiece_84 : decode cX11_drawPiece 84 = .ok (.getfield 83, 3) := by decide +kernel
theorem dX11_drawPiece_87 : decode cX11_drawPiece 87 = .ok (.iconst 1, 1) := by decide +kernel
theorem dX11_drawPiece_88 : decode cX11_drawPiece 88 = .ok (.laload, 1) := by decide +kernel
theorem dX11_drawPiece_89 : decode cX11_drawPiece 89 = .ok (.aload_n 0, 1) := by decide +kernel
theorem dX11_drawPiece_90 : decode cX11_drawPiece 90 = .ok (.getfield 83, 3) := by decide +kernel
theorem dX11_drawPiece_93 : decode cX11_drawPiece 93 = .ok (.iconst 2, 1) := by decide +kernel
theorem dX11_drawPiece_94 : decode cX11_drawPiece 94 = .ok (.laload, 1) := by decide +kernel
theorem dX11_drawPiece_95 : decode cX11_drawPiece 95 = .ok (.invokestatic 304, 3) := by decide +kernel
theorem dX11_drawPiece_98 : decode cX11_drawPiece 98 = .ok (.istore 5, 2) := by decide +kernel
theorem dX11_drawPiece_100 : decode cX11_drawPiece 100 = .ok (.iload 5, 2) := by decide +kernel
theorem dX11_drawPiece_102 : decode cX11_drawPiece 102 = .ok (.iload_n 2, 1) := by decide +kernel
theorem dX11_drawPiece_103 : decode cX11_drawPiece 103 = .ok (.if_icmp .gt 33, 3) := by decide +kernel
theorem dX11_drawPiece_106 : decode cX11_drawPiece 106 = .ok (.aload_n 0, 1) := by decide +kernel
theorem dX11_drawPiece_107 : decode cX11_drawPiece 107 = .ok (.iload 5, 2) := by decide +kernel
theorem dX11_drawPiece_109 : decode cX11_drawPiece 109 = .ok (.iload 4, 2) := by decide +kernel
theorem dX11_drawPiece_111 : decode cX11_drawPiece 111 = .ok (.invokevirtual 308, 3) := by decide +kernel
theorem dX11_drawPiece_114 : decode cX11_drawPiece 114 = .ok (.ifCond .eq 16, 3) := by decide +kernel
theorem dX11_drawPiece_117 : decode cX11_drawPiece 117 = .ok (.aload_n 0, 1) := by decide +kernel
theorem dX11_drawPiece_118 : decode cX11_drawPiece 118 = .ok (.iload 4, 2) := by decide +kernel
theorem dX11_drawPiece_120 : decode cX11_drawPiece 120 = .ok (.bipush 40, 2) := by decide +kernel
theorem dX11_drawPiece_122 : decode cX11_drawPiece 122 = .ok (.imul, 1) := by decide +kernel
theorem dX11_drawPiece_123 : decode cX11_drawPiece 123 = .ok (.iload 5, 2) := by decide +kernel
theorem dX11_drawPiece_125 : decode cX11_drawPiece 125 = .ok (.iadd, 1) := by decide +kernel
theorem dX11_drawPiece_126 : decode cX11_drawPiece 126 = .ok (.iload_n 1, 1) := by decide +kernel
theorem dX11_drawPiece_127 : decode cX11_drawPiece 127 = .ok (.invokevirtual 311, 3) := by decide +kernel
theorem dX11_drawPiece_130 : decode cX11_drawPiece 130 = .ok (.iinc 5 1, 3) := by decide +kernel
theorem dX11_drawPiece_133 : decode cX11_drawPiece 133 = .ok (.goto (-33), 3) := by decide +kernel
theorem dX11_drawPiece_136 : decode cX11_drawPiece 136 = .ok (.iinc 4 1, 3) := by decide +kernel
theorem dX11_drawPiece_139 : decode cX11_drawPiece 139 = .ok (.goto (-68), 3) := by decide +kernel
theorem dX11_drawPiece_142 : decode cX11_drawPiece 142 = .ok (.return_, 1) := by decide +kernel
def st_X11_drawPiece_100 (F : Nat) (a21 : Int32) (a22 : Int32) (a23 : Int32) (a24 : Int32) (rec : Int32 → GM → Option GM) (a25 : Int32) (M : GM) : Option GM := if a22 < a25 then (some M) else (bndO (f_X11_isInPiece F a25 a24 M) (fun (v27, M28) => if v27 = 0 then (bnd (a25 + (1 : Int32)) (fun v29 => rec v29 M28)) else (bndO (f_X11_paintPoint F ((a24 * (40 : Int32)) + a25) a21 M28) (fun M32 => bnd (a25 + (1 : Int32)) (fun v33 => rec v33 M32)))))
def lp_X11_drawPiece_100 (F : Nat) (a21 : Int32) (a22 : Int32) (a23 : Int32) (a24 : Int32) : Nat → Int32 → GM → Option GM
  | 0 => fun _ _ => none
  | f + 1 => fun a25 M => st_X11_drawPiece_100 F a21 a22 a23 a24 (lp_X11_drawPiece_100 F a21 a22 a23 a24 f) a25 M
set_option maxHeartbeats 4000000 in
set_option maxRecDepth 100000 in
theorem lw_X11_drawPiece_100 {x : GX} (X : GC x cX11_drawPiece 6 RX11 3) {a21 : Int32} {a22 : Int32} {a23 : Int32} {a24 : Int32}  {F : Nat} {r9 : GM} (hE : ∀  (M9 : GM), r9 = M9 → WG x M9 [(0, .ref (gad (xz x) 122)), (1, .int a21), (2, .int a22), (3, .int a23), (4, .int a24)] 136 []) : ∀ (f : Nat) (a25 : Int32) (M : GM), lp_X11_drawPiece_100 F a21 a22 a23 a24 f a25 M = some r9 → WG x M [(0, .ref (gad (xz x) 122)), (1, .int a21), (2, .int a22), (3, .int a23), (4, .int a24), (5, .int a25)] 100 [] := by
  intro f
  induction f with
  | zero => intro a25 M h; cases h
  | succ f ih =>
    intro a25 M h
    have hrec := ih
    have h : st_X11_drawPiece_100 F a21 a22 a23 a24 (lp_X11_drawPiece_100 F a21 a22 a23 a24 f) a25 M = some r9 := h
    generalize lp_X11_drawPiece_100 F a21 a22 a23 a24 f = rec at h hrec
    unfold st_X11_drawPiece_100 at h
    refine g_iload X (j := 5) dX11_drawPiece_100 rfl ?_
    refine g_iload_n X (j := 2) dX11_drawPiece_102 rfl rfl ?_
    refine g_icmp_gt X (tgt := 136) dX11_drawPiece_103 (by decide) (fun hb => ?_) (fun hb => ?_)
    · have h := ite_t hb h
      refine g_lv [0, 1, 2, 3, 4] rfl ?_
      exact hE M (Option.some.inj h).symm
    · have h := ite_f hb h
      refine g_aload_n X (j := 0) dX11_drawPiece_106 rfl rfl ?_
      refine g_iload X (j := 5) dX11_drawPiece_107 rfl ?_
      refine g_iload X (j := 4) dX11_drawPiece_109 rfl ?_
      obtain ⟨⟨v27, M28⟩, hc26, h⟩ := bndO_e h
      refine gc_X11_308 X gT_c122 (ct_X11_isInPiece X.htr  hc26) (by decide) (Nat.le_of_ble_eq_true rfl) dX11_drawPiece_111 ?_
      refine g_if_eq X (tgt := 130) dX11_drawPiece_114 (by decide) (fun hb => ?_) (fun hb => ?_)
      · have h := ite_t hb h
        refine g_iinc X (j := 5) (w := a25 + (1 : Int32)) (lv' := [(0, .ref (gad (xz x) 122)), (1, .int a21), (2, .int a22), (3, .int a23), (4, .int a24)]) dX11_drawPiece_130 rfl (by rw [ii_1]) (by decide) (fun _ => rfl) (fun v29 e30 => ?_)
        have h := bnd_e e30 h
        refine g_goto X (tgt := 100) dX11_drawPiece_133 (by decide) ?_
        refine g_lv [1, 2, 3, 4, 5, 0] rfl ?_
        exact hrec v29 M28 h
      · have h := ite_f hb h
        refine g_aload_n X (j := 0) dX11_drawPiece_117 rfl rfl ?_
        refine g_iload X (j := 4) dX11_drawPiece_118 rfl ?_
        refine g_bipush X (v := 40) dX11_drawPiece_120 (by decide) ?_
        refine g_imul X dX11_drawPiece_122 ?_
        refine g_iload X (j := 5) dX11_drawPiece_123 rfl ?_
        refine g_iadd X dX11_drawPiece_125 ?_
        refine g_iload_n X (j := 1) dX11_drawPiece_126 rfl rfl ?_
        obtain ⟨M32, hc31, h⟩ := bndO_e h
        refine gc_X11_311 X gT_c122 (ct_X11_paintPoint X.htr  hc31) (by decide) (Nat.le_of_ble_eq_true rfl) dX11_drawPiece_127 ?_
        refine g_iinc X (j := 5) (w := a25 + (1 : Int32)) (lv' := [(0, .ref (gad (xz x) 122)), (1, .int a21), (2, .int a22), (3, .int a23), (4, .int a24)]) dX11_drawPiece_130 rfl (by rw [ii_1]) (by decide) (fun _ => rfl) (fun v33 e34 => ?_)
        have h := bnd_e e34 h
        refine g_goto X (tgt := 100) dX11_drawPiece_133 (by decide) ?_
        refine g_lv [1, 2, 3, 4, 5, 0] rfl ?_
        exact hrec v33 M32 h
def st_X11_drawPiece_71 (F : Nat) (a13 : Int32) (a14 : Int32) (a15 : Int32) (rec : Int32 → GM → Option GM) (a16 : Int32) (M : GM) : Option GM := if a15 < a16 then (some M) else (bndO (f_X11_low F (gL M 153 0) (gL M 153 1) (gL M 153 2) M) (fun v18 => bnd v18 (fun v19 => bndO (lp_X11_drawPiece_100 F a13 a14 a15 a16 F v19 M) (fun M35 => bnd (a16 + (1 : Int32)) (fun v37 => rec v37 M35)))))
def lp_X11_drawPiece_71 (F : Nat) (a13 : Int32) (a14 : Int32) (a15 : Int32) : Nat → Int32 → GM → Option GM
  | 0 => fun _ _ => none
  | f + 1 => fun a16 M => st_X11_drawPiece_71 F a13 a14 a15 (lp_X11_drawPiece_71 F a13 a14 a15 f) a16 M
set_option maxHeartbeats 4000000 in
set_option maxRecDepth 100000 in
theorem lw_X11_drawPiece_71 {x : GX} (X : GC x cX11_drawPiece 6 RX11 3) {a13 : Int32} {a14 : Int32} {a15 : Int32}  {F : Nat} {r9 : GM} (hE : ∀  (M9 : GM), r9 = M9 → WG x M9 [] 142 []) : ∀ (f : Nat) (a16 : Int32) (M : GM), lp_X11_drawPiece_71 F a13 a14 a15 f a16 M = some r9 → WG x M [(0, .ref (gad (xz x) 122)), (1, .int a13), (2, .int a14), (3, .int a15), (4, .int a16)] 71 [] := by
  intro f
  induction f with
  | zero => intro a16 M h; cases h
  | succ f ih =>
    intro a16 M h
    have hrec := ih
    have h : st_X11_drawPiece_71 F a13 a14 a15 (lp_X11_drawPiece_71 F a13 a14 a15 f) a16 M = some r9 := h
    generalize lp_X11_drawPiece_71 F a13 a14 a15 f = rec at h hrec
    unfold st_X11_drawPiece_71 at h
    refine g_iload X (j := 4) dX11_drawPiece_71 rfl ?_
    refine g_iload_n X (j := 3) dX11_drawPiece_73 rfl rfl ?_
    refine g_icmp_gt X (tgt := 142) dX11_drawPiece_74 (by decide) (fun hb => ?_) (fun hb => ?_)
    · have h := ite_t hb h
      refine g_lv [] rfl ?_
      exact hE M (Option.some.inj h).symm
    · have h := ite_f hb h
      refine g_aload_n X (j := 0) dX11_drawPiece_77 rfl rfl ?_
      refine gf_X11_83 X gT_c122 dX11_drawPiece_78 ?_
      refine g_iconst X (v := 0) dX11_drawPiece_81 (by decide) ?_
      refine g_lald X gT_c153 (by decide +kernel) dX11_drawPiece_82 ?_
      rw [tn_0]
      refine g_aload_n X (j := 0) dX11_drawPiece_83 rfl rfl ?_
      refine gf_X11_83 X gT_c122 dX11_drawPiece_84 ?_
      refine g_iconst X (v := 1) dX11_drawPiece_87 (by decide) ?_
      refine g_lald X gT_c153 (by decide +kernel) dX11_drawPiece_88 ?_
      rw [tn_1]
      refine g_aload_n X (j := 0) dX11_drawPiece_89 rfl rfl ?_
      refine gf_X11_83 X gT_c122 dX11_drawPiece_90 ?_
      refine g_iconst X (v := 2) dX11_drawPiece_93 (by decide) ?_
      refine g_lald X gT_c153 (by decide +kernel) dX11_drawPiece_94 ?_
      rw [tn_2]
      obtain ⟨v18, hc17, h⟩ := bndO_e h
      refine gc_X11_304 X (ct_X11_low X.htr  hc17) (by decide) (Nat.le_of_ble_eq_true rfl) dX11_drawPiece_95 ?_
      refine g_topi (fun v19 e20 => ?_)
      have h := bnd_e e20 h
      refine g_istore X (lv' := [(5, .int v19), (0, .ref (gad (xz x) 122)), (1, .int a13), (2, .int a14), (3, .int a15), (4, .int a16)]) dX11_drawPiece_98 (by decide) rfl ?_
      refine g_lv [1, 2, 3, 4, 5, 0] rfl ?_
      obtain ⟨M35, hl36, h⟩ := bndO_e h
      refine lw_X11_drawPiece_100 X  (fun M35_ e9 => ?_) F v19 M hl36
      cases e9
      refine g_iinc X (j := 4) (w := a16 + (1 : Int32)) (lv' := [(0, .ref (gad (xz x) 122)), (1, .int a13), (2, .int a14), (3, .int a15)]) dX11_drawPiece_136 rfl (by rw [ii_1]) (by decide) (fun _ => rfl) (fun v37 e38 => ?_)
      have h := bnd_e e38 h
      refine g_goto X (tgt := 71) dX11_drawPiece_139 (by decide) ?_
      refine g_lv [1, 2, 3, 4, 0] rfl ?_
      exact hrec v37 M35 h
def f_X11_drawPiece (F : Nat) (i0 : Int32) (M : GM) : Option GM := bndO (f_X11_high F (gL M 153 0) (gL M 153 1) (gL M 153 2) (39 : Int32) M) (fun v2 => bnd v2 (fun v3 => bndO (f_X11_high F (gL M 154 0) (gL M 154 1) (gL M 154 2) (23 : Int32) M) (fun v6 => bnd v6 (fun v7 => bndO (f_X11_low F (gL M 154 0) (gL M 154 1) (gL M 154 2) M) (fun v10 => bnd v10 (fun v11 => bndO (lp_X11_drawPiece_71 F i0 v3 v7 F v11 M) (fun M39 => some M39)))))))
set_option maxHeartbeats 4000000 in
set_option maxRecDepth 100000 in
theorem w_X11_drawPiece {x : GX} (X : GC x cX11_drawPiece 6 RX11 3) {i0 : Int32}  {F : Nat} {M : GM} {r9 : GM} (hR : ∀ (M9 : GM) (lv9 : List (Nat × Value)) (pc9 : Nat), r9 = M9 → decode cX11_drawPiece pc9 = .ok (.return_, 1) → WG x M9 lv9 pc9 []) (h : f_X11_drawPiece F i0 M = some r9) : WG x M [(0, .ref (gad (xz x) 122)), (1, .int i0)] 0 [] := by
  unfold f_X11_drawPiece at h
  refine g_aload_n X (j := 0) dX11_drawPiece_0 rfl rfl ?_
  refine gf_X11_83 X gT_c122 dX11_drawPiece_1 ?_
  refine g_iconst X (v := 0) dX11_drawPiece_4 (by decide) ?_
  refine g_lald X gT_c153 (by decide +kernel) dX11_drawPiece_5 ?_
  rw [tn_0]
  refine g_aload_n X (j := 0) dX11_drawPiece_6 rfl rfl ?_
  refine gf_X11_83 X gT_c122 dX11_drawPiece_7 ?_
  refine g_iconst X (v := 1) dX11_drawPiece_10 (by decide) ?_
  refine g_lald X gT_c153 (by decide +kernel) dX11_drawPiece_11 ?_
  rw [tn_1]
  refine g_aload_n X (j := 0) dX11_drawPiece_12 rfl rfl ?_
  refine gf_X11_83 X gT_c122 dX11_drawPiece_13 ?_
  refine g_iconst X (v := 2) dX11_drawPiece_16 (by decide) ?_
  refine g_lald X gT_c153 (by decide +kernel) dX11_drawPiece_17 ?_
  rw [tn_2]
  refine g_bipush X (v := 39) dX11_drawPiece_18 (by decide) ?_
  obtain ⟨v2, hc1, h⟩ := bndO_e h
  refine gc_X11_300 X (ct_X11_high X.htr  hc1) (by decide) (Nat.le_of_ble_eq_true rfl) dX11_drawPiece_20 ?_
  refine g_topi (fun v3 e4 => ?_)
  have h := bnd_e e4 h
  refine g_istore_n X (lv' := [(2, .int v3), (0, .ref (gad (xz x) 122)), (1, .int i0)]) dX11_drawPiece_23 rfl (by decide) rfl ?_
  refine g_aload_n X (j := 1) dX11_drawPiece_24 rfl rfl ?_
  refine gf_X11_87 X gT_c122 dX11_drawPiece_25 ?_
  refine g_iconst X (v := 0) dX11_drawPiece_28 (by decide) ?_
  refine g_lald X gT_c154 (by decide +kernel) dX11_drawPiece_29 ?_
  rw [tn_0]
  refine g_aload_n X (j := 1) dX11_drawPiece_30 rfl rfl ?_
  refine gf_X11_87 X gT_c122 dX11_drawPiece_31 ?_
  refine g_iconst X (v := 1) dX11_drawPiece_34 (by decide) ?_
  refine g_lald X gT_c154 (by decide +kernel) dX11_drawPiece_35 ?_
  rw [tn_1]
  refine g_aload_n X (j := 1) dX11_drawPiece_36 rfl rfl ?_
  refine gf_X11_87 X gT_c122 dX11_drawPiece_37 ?_
  refine g_iconst X (v := 2) dX11_drawPiece_40 (by decide) ?_
  refine g_lald X gT_c154 (by decide +kernel) dX11_drawPiece_41 ?_
  rw [tn_2]
  refine g_bipush X (v := 23) dX11_drawPiece_42 (by decide) ?_
  obtain ⟨v6, hc5, h⟩ := bndO_e h
  refine gc_X11_300 X (ct_X11_high X.htr  hc5) (by decide) (Nat.le_of_ble_eq_true rfl) dX11_drawPiece_44 ?_
  refine g_topi (fun v7 e8 => ?_)
  have h := bnd_e e8 h
  refine g_istore_n X (lv' := [(3, .int v7), (2, .int v3), (0, .ref (gad (xz x) 122)), (1, .int i0)]) dX11_drawPiece_47 rfl (by decide) rfl ?_
  refine g_aload_n X (j := 2) dX11_drawPiece_48 rfl rfl ?_
  refine gf_X11_87 X gT_c122 dX11_drawPiece_49 ?_
  refine g_iconst X (v := 0) dX11_drawPiece_52 (by decide) ?_
  refine g_lald X gT_c154 (by decide +kernel) dX11_drawPiece_53 ?_
  rw [tn_0]
  refine g_aload_n X (j := 2) dX11_drawPiece_54 rfl rfl ?_
  refine gf_X11_87 X gT_c122 dX11_drawPiece_55 ?_
  refine g_iconst X (v := 1) dX11_drawPiece_58 (by decide) ?_
  refine g_lald X gT_c154 (by decide +kernel) dX11_drawPiece_59 ?_
  rw [tn_1]
  refine g_aload_n X (j := 2) dX11_drawPiece_60 rfl rfl ?_
  refine gf_X11_87 X gT_c122 dX11_drawPiece_61 ?_
  refine g_iconst X (v := 2) dX11_drawPiece_64 (by decide) ?_
  refine g_lald X gT_c154 (by decide +kernel) dX11_drawPiece_65 ?_
  rw [tn_2]
  obtain ⟨v10, hc9, h⟩ := bndO_e h
  refine gc_X11_304 X (ct_X11_low X.htr  hc9) (by decide) (Nat.le_of_ble_eq_true rfl) dX11_drawPiece_66 ?_
  refine g_topi (fun v11 e12 => ?_)
  have h := bnd_e e12 h
  refine g_istore X (lv' := [(4, .int v11), (3, .int v7), (2, .int v3), (0, .ref (gad (xz x) 122)), (1, .int i0)]) dX11_drawPiece_69 (by decide) rfl ?_
  refine g_lv [3, 4, 2, 1, 0] rfl ?_
  obtain ⟨M39, hl40, h⟩ := bndO_e h
  refine lw_X11_drawPiece_71 X  (fun M39_ e9 => ?_) F v11 M hl40
  cases e9
  exact hR M39 _ _ (Option.some.inj h).symm dX11_drawPiece_142
theorem ct_X11_drawPiece {l : Launch} {z : GZ} (htr : l.stackTraces = false) {i0 : Int32}  {M : GM} {F : Nat} {M1 : GM} (h : f_X11_drawPiece F i0 M = some M1) : gMet l z yX11_drawPiece cX11_drawPiece 6 none 3 [.ref (gad z 122), .int i0] M (none) M1 := gMet_ofV (by decide +kernel) (Nat.le_of_ble_eq_true rfl) htr (fun x X ez el hR => by subst ez; subst el; exact w_X11_drawPiece X  (fun M9 lv9 pc9 e9 d9 => by cases e9; exact hR lv9 pc9 d9) h)
theorem gc_X11_282 {x : GX} {cc : ByteArray} {nL d pc : Nat} {M : GM} {lv : List (Nat × Value)} {st : List Value} (X : GC x cc nL RX11 d) {i0 : Int32} {M1 : GM} (ht : gT 122 = 11) (hM : gMet (xl x) (xz x) yX11_makePolygon cX11_makePolygon 5 none 2 [.ref (gad (xz x) 122), .int i0] M (none) M1) (hd : 3 ≤ d) (hsum : (st.map fun v => v.category).sum ≤ 8) (dec : decode cc pc = .ok (.invokevirtual 282, 3)) (go : WG x M1 lv (pc + 3) (st)) : WG x M lv pc (.int i0 :: .ref (gad (xz x) 122) :: st) := g_callV X (n := 1) (As := [.int i0]) (rest := st) hM ht (by decide) (gE_11 ht) rfl q_1300 q_1302 q_25 q_63 q_1303 (by decide +kernel) rfl hd (by decide) rfl hsum dec go
theorem gc_X11_286 {x : GX} {cc : ByteArray} {nL d pc : Nat} {M : GM} {lv : List (Nat × Value)} {st : List Value} (X : GC x cc nL RX11 d) {i0 : Int32} {i1 : Int32} {M1 : GM} {r : Int32} (ht : gT 122 = 11) (hM : gMet (xl x) (xz x) yX11_layPiece cX11_layPiece 4 (some .boolean) 3 [.ref (gad (xz x) 122), .int i0, .int i1] M (some (.int r)) M1) (hd : 4 ≤ d) (hsum : (st.map fun v => v.category).sum ≤ 8) (dec : decode cc pc = .ok (.invokevirtual 286, 3)) (go : WG x M1 lv (pc + 3) (.int r :: st)) : WG x M lv pc (.int i1 :: .int i0 :: .ref (gad (xz x) 122) :: st) := g_callV X (n := 2) (As := [.int i0, .int i1]) (rest := st) hM ht (by decide) (gE_11 ht) rfl q_1373 q_1375 q_33 q_63 q_1376 (by decide +kernel) rfl hd (by decide) rfl hsum dec go
theorem gc_X11_289 {x : GX} {cc : ByteArray} {nL d pc : Nat} {M : GM} {lv : List (Nat × Value)} {st : List Value} (X : GC x cc nL RX11 d) {i0 : Int32} {M1 : GM} (ht : gT 122 = 11) (hM : gMet (xl x) (xz x) yX11_drawPiece cX11_drawPiece 6 none 3 [.ref (gad (xz x) 122), .int i0] M (none) M1) (hd : 4 ≤ d) (hsum : (st.map fun v => v.category).sum ≤ 8) (dec : decode cc pc = .ok (.invokevirtual 289, 3)) (go : WG x M1 lv (pc + 3) (st)) : WG x M lv pc (.int i0 :: .ref (gad (xz x) 122) :: st) := g_callV X (n := 1) (As := [.int i0]) (rest := st) hM ht (by decide) (gE_11 ht) rfl q_1456 q_1458 q_47 q_63 q_1459 (by decide +kernel) rfl hd (by decide) rfl hsum dec go
theorem dX11_draw_0 : decode cX11_draw 0 = .ok (.aload_n 0, 1) := by decide +kernel
theorem dX11_draw_1 : decode cX11_draw 1 = .ok (.iconst 0, 1) := by decide +kernel
theorem dX11_draw_2 : decode cX11_draw 2 = .ok (.putfield 279, 3) := by decide +kernel
theorem dX11_draw_5 : decode cX11_draw 5 = .ok (.iconst 0, 1) := by decide +kernel
theorem dX11_draw_6 : decode cX11_draw 6 = .ok (.istore_n 2, 1) := by decide +kernel
theorem dX11_draw_7 : decode cX11_draw 7 = .ok (.iload_n 2, 1) := by decide +kernel
theorem dX11_draw_8 : decode cX11_draw 8 = .ok (.sipush 960, 3) := by decide +kernel
theorem dX11_draw_11 : decode cX11_draw 11 = .ok (.if_icmp .ge 34, 3) := by decide +kernel
theorem dX11_draw_14 : decode cX11_draw 14 = .ok (.aload_n 0, 1) := by decide +kernel
theorem dX11_draw_15 : decode cX11_draw 15 = .ok (.getfield 65, 3) := by decide +kernel
theorem dX11_draw_18 : decode cX11_draw 18 = .ok (.iload_n 2, 1) := by decide +kernel
theorem dX11_draw_19 : decode cX11_draw 19 = .ok (.aload_n 0, 1) := by decide +kernel
theorem dX11_draw_20 : decode cX11_draw 20 = .ok (.getfield 128, 3) := by decide +kernel
theorem dX11_draw_23 : decode cX11_draw 23 = .ok (.iastore, 1) := by decide +kernel
theorem dX11_draw_24 : decode cX11_draw 24 = .ok (.aload_n 0, 1) := by decide +kernel
theorem dX11_draw_25 : decode cX11_draw 25 = .ok (.getfield 68, 3) := by decide +kernel
theorem dX11_draw_28 : decode cX11_draw 28 = .ok (.iload_n 2, 1) := by decide +kernel
theorem dX11_draw_29 : decode cX11_draw 29 = .ok (.ldc 131, 2) := by decide +kernel
theorem dX11_draw_31 : decode cX11_draw 31 = .ok (.iastore, 1) := by decide +kernel
theorem dX11_draw_32 : decode cX11_draw 32 = .ok (.aload_n 0, 1) := by decide +kernel
theorem dX11_draw_33 : decode cX11_draw 33 = .ok (.getfield 71, 3) := by decide +kernel
theorem dX11_draw_36 : decode cX11_draw 36 = .ok (.iload_n 2, 1) := by decide +kernel
theorem dX11_draw_37 : decode cX11_draw 37 = .ok (.iconst (-1), 1) := by decide +kernel
theorem dX11_draw_38 : decode cX11_draw 38 = .ok (.iastore, 1) := by decide +kernel
theorem dX11_draw_39 : decode cX11_draw 39 = .ok (.iinc 2 1, 3) := by decide +kernel
theorem dX11_draw_42 : decode cX11_draw 42 = .ok (.goto (-35), 3) := by decide +kernel
theorem dX11_draw_45 : decode cX11_draw 45 = .ok (.iconst 0, 1) := by decide +kernel
theorem dX11_draw_46 : decode cX11_draw 46 = .ok (.istore_n 2, 1) := by decide +kernel
theorem dX11_draw_47 : decode cX11_draw 47 = .ok (.iload_n 2, 1) := by decide +kernel
theorem dX11_draw_48 : decode cX11_draw 48 = .ok (.aload_n 0, 1) := by decide +kernel
theorem dX11_draw_49 : decode cX11_draw 49 = .ok (.getfield 125, 3) := by decide +kernel
theorem dX11_draw_52 : decode cX11_draw 52 = .ok (.if_icmp .ge 84, 3) := by decide +kernel
theorem dX11_draw_55 : decode cX11_draw 55 = .ok (.aload_n 0, 1) := by decide +kernel
theorem dX11_draw_56 : decode cX11_draw 56 = .ok (.getfield 44, 3) := by decide +kernel
theorem dX11_draw_59 : decode cX11_draw 59 = .ok (.iload_n 2, 1) := by decide +kernel
theorem dX11_draw_60 : decode cX11_draw 60 = .ok (.baload, 1) := by decide +kernel
theorem dX11_draw_61 : decode cX11_draw 61 = .ok (.ifCond .eq 69, 3) := by decide +kernel
theorem dX11_draw_64 : decode cX11_draw 64 = .ok (.iload_n 2, 1) := by decide +kernel
theorem dX11_draw_65 : decode cX11_draw 65 = .ok (.iload_n 1, 1) := by decide +kernel
theorem dX11_draw_66 : decode cX11_draw 66 = .ok (.if_icmp .ne 6, 3) := by decide +kernel
theorem dX11_draw_69 : decode cX11_draw 69 = .ok (.goto 61, 3) := by decide +kernel
theorem dX11_draw_72 : decode cX11_draw 72 = .ok (.aload_n 0, 1) := by decide +kernel
theorem dX11_draw_73 : decode cX11_draw 73 = .ok (.iconst 0, 1) := by decide +kernel
theorem dX11_draw_74 : decode cX11_draw 74 = .ok (.putfield 275, 3) := by decide +kernel
theorem dX11_draw_77 : decode cX11_draw 77 = .ok (.aload_n 0, 1) := by decide +kernel
theorem dX11_draw_78 : decode cX11_draw 78 = .ok (.iload_n 2, 1) := by decide +kernel
theorem dX11_draw_79 : decode cX11_draw 79 = .ok (.invokevirtual 282, 3) := by decide +kernel
theorem dX11_draw_82 : decode cX11_draw 82 = .ok (.iconst 0, 1) := by decide +kernel
theorem dX11_draw_83 : decode cX11_draw 83 = .ok (.istore_n 3, 1) := by decide +kernel
theorem dX11_draw_84 : decode cX11_draw 84 = .ok (.iload_n 3, 1) := by decide +kernel
theorem dX11_draw_85 : decode cX11_draw 85 = .ok (.iconst 2, 1) := by decide +kernel
theorem dX11_draw_86 : decode cX11_draw 86 = .ok (.if_icmp .ge 23, 3) := by decide +kernel
theorem dX11_draw_89 : decode cX11_draw 89 = .ok (.aload_n 0, 1) := by decide +kernel
theorem dX11_draw_90 : decode cX11_draw 90 = .ok (.iload_n 2, 1) := by decide +kernel
theorem dX11_draw_91 : decode cX11_draw 91 = .ok (.iload_n 3, 1) := by decide +kernel
theorem dX11_draw_92 : decode cX11_draw 92 = .ok (.invokevirtual 286, 3) := by decide +kernel
theorem dX11_draw_95 : decode cX11_draw 95 = .ok (.ifCond .eq 8, 3) := by decide +kernel
theorem dX11_draw_98 : decode cX11_draw 98 = .ok (.aload_n 0, 1) := by decide +kernel
theorem dX11_draw_99 : decode cX11_draw 99 = .ok (.iload_n 2, 1) := by decide +kernel
theorem dX11_draw_100 : decode cX11_draw 100 = .ok (.invokevirtual 289, 3) := by decide +kernel
theorem dX11_draw_103 : decode cX11_draw 103 = .ok (.iinc 3 1, 3) := by decide +kernel
theorem dX11_draw_106 : decode cX11_draw 106 = .ok (.goto (-22), 3) := by decide +kernel
theorem dX11_draw_109 : decode cX11_draw 109 = .ok (.aload_n 0, 1) := by decide +kernel
theorem dX11_draw_110 : decode cX11_draw 110 = .ok (.dup, 1) := by decide +kernel
theorem dX11_draw_111 : decode cX11_draw 111 = .ok (.getfield 279, 3) := by decide +kernel
theorem dX11_draw_114 : decode cX11_draw 114 = .ok (.aload_n 0, 1) := by decide +kernel
theorem dX11_draw_115 : decode cX11_draw 115 = .ok (.getfield 275, 3) := by decide +kernel
theorem dX11_draw_118 : decode cX11_draw 118 = .ok (.ifCond .eq 7, 3) := by decide +kernel
theorem dX11_draw_121 : decode cX11_draw 121 = .ok (.iconst 1, 1) := by decide +kernel
theorem dX11_draw_122 : decode cX11_draw 122 = .ok (.goto 4, 3) := by decide +kernel
theorem dX11_draw_125 : decode cX11_draw 125 = .ok (.iconst 0, 1) := by decide +kernel
theorem dX11_draw_126 : decode cX11_draw 126 = .ok (.iadd, 1) := by decide +kernel
theorem dX11_draw_127 : decode cX11_draw 127 = .ok (.putfield 279, 3) := by decide +kernel
theorem dX11_draw_130 : decode cX11_draw 130 = .ok (.iinc 2 1, 3) := by decide +kernel
theorem dX11_draw_133 : decode cX11_draw 133 = .ok (.goto (-86), 3) := by decide +kernel
theorem dX11_draw_136 : decode cX11_draw 136 = .ok (.return_, 1) := by decide +kernel
def st_X11_draw_7 (F : Nat) (a5 : Int32) (rec : Int32 → GM → Option GM) (a6 : Int32) (M : GM) : Option GM := if (960 : Int32) ≤ a6 then (some M) else (grd (gIn a6 (gN 141)) (bnd (sI M 141 a6.toNatClampNeg (gI M 122 5)) (fun M8 => grd (gIn a6 (gN 142)) (bnd (sI M8 142 a6.toNatClampNeg (65535 : Int32)) (fun M11 => grd (gIn a6 (gN 143)) (bnd (sI M11 143 a6.toNatClampNeg ((-1) : Int32)) (fun M14 => bnd (a6 + (1 : Int32)) (fun v16 => rec v16 M14))))))))
def lp_X11_draw_7 (F : Nat) (a5 : Int32) : Nat → Int32 → GM → Option GM
  | 0 => fun _ _ => none
  | f + 1 => fun a6 M => st_X11_draw_7 F a5 (lp_X11_draw_7 F a5 f) a6 M
set_option maxHeartbeats 4000000 in
set_option maxRecDepth 100000 in
theorem lw_X11_draw_7 {x : GX} (X : GC x cX11_draw 4 RX11 4) {a5 : Int32}  {F : Nat} {r9 : GM} (hE : ∀  (M9 : GM), r9 = M9 → WG x M9 [(0, .ref (gad (xz x) 122)), (1, .int a5)] 45 []) : ∀ (f : Nat) (a6 : Int32) (M : GM), lp_X11_draw_7 F a5 f a6 M = some r9 → WG x M [(0, .ref (gad (xz x) 122)), (1, .int a5), (2, .int a6)] 7 [] := by
  intro f
  induction f with
  | zero => intro a6 M h; cases h
  | succ f ih =>
    intro a6 M h
    have hrec := ih
    have h : st_X11_draw_7 F a5 (lp_X11_draw_7 F a5 f) a6 M = some r9 := h
    generalize lp_X11_draw_7 F a5 f = rec at h hrec
    unfold st_X11_draw_7 at h
    refine g_iload_n X (j := 2) dX11_draw_7 rfl rfl ?_
    refine g_sipush X (v := 960) dX11_draw_8 (by decide) ?_
    refine g_icmp_ge X (tgt := 45) dX11_draw_11 (by decide) (fun hb => ?_) (fun hb => ?_)
    · have h := ite_t hb h
      refine g_lv [0, 1] rfl ?_
      exact hE M (Option.some.inj h).symm
    · have h := ite_f hb h
      refine g_aload_n X (j := 0) dX11_draw_14 rfl rfl ?_
      refine gf_X11_65 X gT_c122 dX11_draw_15 ?_
      refine g_iload_n X (j := 2) dX11_draw_18 rfl rfl ?_
      refine g_aload_n X (j := 0) dX11_draw_19 rfl rfl ?_
      refine gf_X11_128 X gT_c122 dX11_draw_20 ?_
      obtain ⟨hg7, h⟩ := grd_e h
      refine g_iast X gT_c141 hg7 dX11_draw_23 ?_
      refine g_mem (fun M8 e9 => ?_)
      have h := bnd_e e9 h
      refine g_aload_n X (j := 0) dX11_draw_24 rfl rfl ?_
      refine gf_X11_68 X gT_c122 dX11_draw_25 ?_
      refine g_iload_n X (j := 2) dX11_draw_28 rfl rfl ?_
      refine g_ldc X q_1058 dX11_draw_29 ?_
      obtain ⟨hg10, h⟩ := grd_e h
      refine g_iast X gT_c142 hg10 dX11_draw_31 ?_
      refine g_mem (fun M11 e12 => ?_)
      have h := bnd_e e12 h
      refine g_aload_n X (j := 0) dX11_draw_32 rfl rfl ?_
      refine gf_X11_71 X gT_c122 dX11_draw_33 ?_
      refine g_iload_n X (j := 2) dX11_draw_36 rfl rfl ?_
      refine g_iconst X (v := (-1)) dX11_draw_37 (by decide) ?_
      obtain ⟨hg13, h⟩ := grd_e h
      refine g_iast X gT_c143 hg13 dX11_draw_38 ?_
      refine g_mem (fun M14 e15 => ?_)
      have h := bnd_e e15 h
      refine g_iinc X (j := 2) (w := a6 + (1 : Int32)) (lv' := [(0, .ref (gad (xz x) 122)), (1, .int a5)]) dX11_draw_39 rfl (by rw [ii_1]) (by decide) (fun _ => rfl) (fun v16 e17 => ?_)
      have h := bnd_e e17 h
      refine g_goto X (tgt := 7) dX11_draw_42 (by decide) ?_
      refine g_lv [1, 2, 0] rfl ?_
      exact hrec v16 M14 h
def st_X11_draw_84 (F : Nat) (a33 : Int32) (a34 : Int32) (rec : Int32 → GM → Option GM) (a35 : Int32) (M : GM) : Option GM := if (2 : Int32) ≤ a35 then (some M) else (bndO (f_X11_layPiece F a34 a35 M) (fun (v37, M38) => if v37 = 0 then (bnd (a35 + (1 : Int32)) (fun v39 => rec v39 M38)) else (bndO (f_X11_drawPiece F a34 M38) (fun M42 => bnd (a35 + (1 : Int32)) (fun v43 => rec v43 M42)))))
def lp_X11_draw_84 (F : Nat) (a33 : Int32) (a34 : Int32) : Nat → Int32 → GM → Option GM
  | 0 => fun _ _ => none
  | f + 1 => fun a35 M => st_X11_draw_84 F a33 a34 (lp_X11_draw_84 F a33 a34 f) a35 M
set_option maxHeartbeats 4000000 in
set_option maxRecDepth 100000 in
theorem lw_X11_draw_84 {x : GX} (X : GC x cX11_draw 4 RX11 4) {a33 : Int32} {a34 : Int32}  {F : Nat} {r9 : GM} (hE : ∀  (M9 : GM), r9 = M9 → WG x M9 [(0, .ref (gad (xz x) 122)), (1, .int a33), (2, .int a34)] 109 []) : ∀ (f : Nat) (a35 : Int32) (M : GM), lp_X11_draw_84 F a33 a34 f a35 M = some r9 → WG x M [(0, .ref (gad (xz x) 122)), (1, .int a33), (2, .int a34), (3, .int a35)] 84 [] := by
  intro f
  induction f with
  | zero => intro a35 M h; cases h
  | succ f ih =>
    intro a35 M h
    have hrec := ih
    have h : st_X11_draw_84 F a33 a34 (lp_X11_draw_84 F a33 a34 f) a35 M = some r9 := h
    generalize lp_X11_draw_84 F a33 a34 f = rec at h hrec
    unfold st_X11_draw_84 at h
    refine g_iload_n X (j := 3) dX11_draw_84 rfl rfl ?_
    refine g_iconst X (v := 2) dX11_draw_85 (by decide) ?_
    refine g_icmp_ge X (tgt := 109) dX11_draw_86 (by decide) (fun hb => ?_) (fun hb => ?_)
    · have h := ite_t hb h
      refine g_lv [0, 1, 2] rfl ?_
      exact hE M (Option.some.inj h).symm
    · have h := ite_f hb h
      refine g_aload_n X (j := 0) dX11_draw_89 rfl rfl ?_
      refine g_iload_n X (j := 2) dX11_draw_90 rfl rfl ?_
      refine g_iload_n X (j := 3) dX11_draw_91 rfl rfl ?_
      obtain ⟨⟨v37, M38⟩, hc36, h⟩ := bndO_e h
      refine gc_X11_286 X gT_c122 (ct_X11_layPiece X.htr  hc36) (by decide) (Nat.le_of_ble_eq_true rfl) dX11_draw_92 ?_
      refine g_if_eq X (tgt := 103) dX11_draw_95 (by decide) (fun hb => ?_) (fun hb => ?_)
      · have h := ite_t hb h
        refine g_iinc X (j := 3) (w := a35 + (1 : Int32)) (lv' := [(0, .ref (gad (xz x) 122)), (1, .int a33), (2, .int a34)]) dX11_draw_103 rfl (by rw [ii_1]) (by decide) (fun _ => rfl) (fun v39 e40 => ?_)
        have h := bnd_e e40 h
        refine g_goto X (tgt := 84) dX11_draw_106 (by decide) ?_
        refine g_lv [1, 2, 3, 0] rfl ?_
        exact hrec v39 M38 h
      · have h := ite_f hb h
        refine g_aload_n X (j := 0) dX11_draw_98 rfl rfl ?_
        refine g_iload_n X (j := 2) dX11_draw_99 rfl rfl ?_
        obtain ⟨M42, hc41, h⟩ := bndO_e h
        refine gc_X11_289 X gT_c122 (ct_X11_drawPiece X.htr  hc41) (by decide) (Nat.le_of_ble_eq_true rfl) dX11_draw_100 ?_
        refine g_iinc X (j := 3) (w := a35 + (1 : Int32)) (lv' := [(0, .ref (gad (xz x) 122)), (1, .int a33), (2, .int a34)]) dX11_draw_103 rfl (by rw [ii_1]) (by decide) (fun _ => rfl) (fun v43 e44 => ?_)
        have h := bnd_e e44 h
        refine g_goto X (tgt := 84) dX11_draw_106 (by decide) ?_
        refine g_lv [1, 2, 3, 0] rfl ?_
        exact hrec v43 M42 h
def st_X11_draw_47 (F : Nat) (a22 : Int32) (rec : Int32 → GM → Option GM) (a23 : Int32) (M : GM) : Option GM := if (gI M 122 2) ≤ a23 then (some M) else (grd (gIn a23 (gN 134)) (if (gI M 134 a23.toNatClampNeg) = 0 then (bnd (a23 + (1 : Int32)) (fun v25 => rec v25 M)) else (if a23 = a22 then (bnd (a23 + (1 : Int32)) (fun v55 => rec v55 M)) else (bnd (sI M 122 39 (0 : Int32)) (fun M27 => bndO (f_X11_makePolygon F a23 M27) (fun M30 => bnd (0 : Int32) (fun v31 => bndO (lp_X11_draw_84 F a22 a23 F v31 M30) (fun M45 => if (gI M45 122 39) = 0 then (bnd (sI M45 122 24 ((gI M45 122 24) + (0 : Int32))) (fun M47 => bnd (a23 + (1 : Int32)) (fun v49 => rec v49 M47))) else (bnd (sI M45 122 24 ((gI M45 122 24) + (1 : Int32))) (fun M51 => bnd (a23 + (1 : Int32)) (fun v53 => rec v53 M51)))))))))))
def lp_X11_draw_47 (F : Nat) (a22 : Int32) : Nat → Int32 → GM → Option GM
  | 0 => fun _ _ => none
  | f + 1 => fun a23 M => st_X11_draw_47 F a22 (lp_X11_draw_47 F a22 f) a23 M
set_option maxHeartbeats 4000000 in
set_option maxRecDepth 100000 in
theorem lw_X11_draw_47 {x : GX} (X : GC x cX11_draw 4 RX11 4) {a22 : Int32}  {F : Nat} {r9 : GM} (hE : ∀  (M9 : GM), r9 = M9 → WG x M9 [] 136 []) : ∀ (f : Nat) (a23 : Int32) (M : GM), lp_X11_draw_47 F a22 f a23 M = some r9 → WG x M [(0, .ref (gad (xz x) 122)), (1, .int a22), (2, .int a23)] 47 [] := by
  intro f
  induction f with
  | zero => intro a23 M h; cases h
  | succ f ih =>
    intro a23 M h
    have hrec := ih
    have h : st_X11_draw_47 F a22 (lp_X11_draw_47 F a22 f) a23 M = some r9 := h
    generalize lp_X11_draw_47 F a22 f = rec at h hrec
    unfold st_X11_draw_47 at h
    refine g_iload_n X (j := 2) dX11_draw_47 rfl rfl ?_
    refine g_aload_n X (j := 0) dX11_draw_48 rfl rfl ?_
    refine gf_X11_125 X gT_c122 dX11_draw_49 ?_
    refine g_icmp_ge X (tgt := 136) dX11_draw_52 (by decide) (fun hb => ?_) (fun hb => ?_)
    · have h := ite_t hb h
      refine g_lv [] rfl ?_
      exact hE M (Option.some.inj h).symm
    · have h := ite_f hb h
      refine g_aload_n X (j := 0) dX11_draw_55 rfl rfl ?_
      refine gf_X11_44 X gT_c122 dX11_draw_56 ?_
      refine g_iload_n X (j := 2) dX11_draw_59 rfl rfl ?_
      obtain ⟨hg24, h⟩ := grd_e h
      refine g_zald X gT_c134 hg24 dX11_draw_60 ?_
      refine g_if_eq X (tgt := 130) dX11_draw_61 (by decide) (fun hb => ?_) (fun hb => ?_)
      · have h := ite_t hb h
        refine g_iinc X (j := 2) (w := a23 + (1 : Int32)) (lv' := [(0, .ref (gad (xz x) 122)), (1, .int a22)]) dX11_draw_130 rfl (by rw [ii_1]) (by decide) (fun _ => rfl) (fun v25 e26 => ?_)
        have h := bnd_e e26 h
        refine g_goto X (tgt := 47) dX11_draw_133 (by decide) ?_
        refine g_lv [1, 2, 0] rfl ?_
        exact hrec v25 M h
      · have h := ite_f hb h
        refine g_iload_n X (j := 2) dX11_draw_64 rfl rfl ?_
        refine g_iload_n X (j := 1) dX11_draw_65 rfl rfl ?_
        refine g_icmp_ne X (tgt := 72) dX11_draw_66 (by decide) (fun hb => ?_) (fun hb => ?_)
        · have h := ite_f hb h
          refine g_aload_n X (j := 0) dX11_draw_72 rfl rfl ?_
          refine g_iconst X (v := 0) dX11_draw_73 (by decide) ?_
          refine gp_X11_275 X gT_c122 (Or.inl rfl) dX11_draw_74 ?_
          refine g_mem (fun M27 e28 => ?_)
          have h := bnd_e e28 h
          refine g_aload_n X (j := 0) dX11_draw_77 rfl rfl ?_
          refine g_iload_n X (j := 2) dX11_draw_78 rfl rfl ?_
          obtain ⟨M30, hc29, h⟩ := bndO_e h
          refine gc_X11_282 X gT_c122 (ct_X11_makePolygon X.htr  hc29) (by decide) (Nat.le_of_ble_eq_true rfl) dX11_draw_79 ?_
          refine g_iconst X (v := 0) dX11_draw_82 (by decide) ?_
          refine g_topi (fun v31 e32 => ?_)
          have h := bnd_e e32 h
          refine g_istore_n X (lv' := [(3, .int v31), (0, .ref (gad (xz x) 122)), (1, .int a22), (2, .int a23)]) dX11_draw_83 rfl (by decide) rfl ?_
          refine g_lv [1, 2, 3, 0] rfl ?_
          obtain ⟨M45, hl46, h⟩ := bndO_e h
          refine lw_X11_draw_84 X  (fun M45_ e9 => ?_) F v31 M30 hl46
          cases e9
          refine g_aload_n X (j := 0) dX11_draw_109 rfl rfl ?_
          refine g_dup X dX11_draw_110 rfl ?_
          refine gf_X11_279 X gT_c122 dX11_draw_111 ?_
          refine g_aload_n X (j := 0) dX11_draw_114 rfl rfl ?_
          refine gf_X11_275 X gT_c122 dX11_draw_115 ?_
          refine g_if_eq X (tgt := 125) dX11_draw_118 (by decide) (fun hb => ?_) (fun hb => ?_)
          · have h := ite_t hb h
            refine g_iconst X (v := 0) dX11_draw_125 (by decide) ?_
            refine g_iadd X dX11_draw_126 ?_
            refine gp_X11_279 X gT_c122 dX11_draw_127 ?_
            refine g_mem (fun M47 e48 => ?_)
            have h := bnd_e e48 h
            refine g_iinc X (j := 2) (w := a23 + (1 : Int32)) (lv' := [(0, .ref (gad (xz x) 122)), (1, .int a22)]) dX11_draw_130 rfl (by rw [ii_1]) (by decide) (fun _ => rfl) (fun v49 e50 => ?_)
            have h := bnd_e e50 h
            refine g_goto X (tgt := 47) dX11_draw_133 (by decide) ?_
            refine g_lv [1, 2, 0] rfl ?_
            exact hrec v49 M47 h
          · have h := ite_f hb h
            refine g_iconst X (v := 1) dX11_draw_121 (by decide) ?_
            refine g_goto X (tgt := 126) dX11_draw_122 (by decide) ?_
            refine g_iadd X dX11_draw_126 ?_
            refine gp_X11_279 X gT_c122 dX11_draw_127 ?_
            refine g_mem (fun M51 e52 => ?_)
            have h := bnd_e e52 h
            refine g_iinc X (j := 2) (w := a23 + (1 : Int32)) (lv' := [(0, .ref (gad (xz x) 122)), (1, .int a22)]) dX11_draw_130 rfl (by rw [ii_1]) (by decide) (fun _ => rfl) (fun v53 e54 => ?_)
            have h := bnd_e e54 h
            refine g_goto X (tgt := 47) dX11_draw_133 (by decide) ?_
            refine g_lv [1, 2, 0] rfl ?_
            exact hrec v53 M51 h
        · have h := ite_t hb h
          refine g_goto X (tgt := 130) dX11_draw_69 (by decide) ?_
          refine g_iinc X (j := 2) (w := a23 + (1 : Int32)) (lv' := [(0, .ref (gad (xz x) 122)), (1, .int a22)]) dX11_draw_130 rfl (by rw [ii_1]) (by decide) (fun _ => rfl) (fun v55 e56 => ?_)
          have h := bnd_e e56 h
          refine g_goto X (tgt := 47) dX11_draw_133 (by decide) ?_
          refine g_lv [1, 2, 0] rfl ?_
          exact hrec v55 M h
def f_X11_draw (F : Nat) (i0 : Int32) (M : GM) : Option GM := bnd (sI M 122 24 (0 : Int32)) (fun M1 => bnd (0 : Int32) (fun v3 => bndO (lp_X11_draw_7 F i0 F v3 M1) (fun M18 => bnd (0 : Int32) (fun v20 => bndO (lp_X11_draw_47 F i0 F v20 M18) (fun M57 => some M57)))))
set_option maxHeartbeats 4000000 in
set_option maxRecDepth 100000 in
theorem w_X11_draw {x : GX} (X : GC x cX11_draw 4 RX11 4) {i0 : Int32}  {F : Nat} {M : GM} {r9 : GM} (hR : ∀ (M9 : GM) (lv9 : List (Nat × Value)) (pc9 : Nat), r9 = M9 → decode cX11_draw pc9 = .ok (.return_, 1) → WG x M9 lv9 pc9 []) (h : f_X11_draw F i0 M = some r9) : WG x M [(0, .ref (gad (xz x) 122)), (1, .int i0)] 0 [] := by
  unfold f_X11_draw at h
  refine g_aload_n X (j := 0) dX11_draw_0 rfl rfl ?_
  refine g_iconst X (v := 0) dX11_draw_1 (by decide) ?_
  refine gp_X11_279 X gT_c122 dX11_draw_2 ?_
  refine g_mem (fun M1 e2 => ?_)
  have h := bnd_e e2 h
  refine g_iconst X (v := 0) dX11_draw_5 (by decide) ?_
  refine g_topi (fun v3 e4 => ?_)
  have h := bnd_e e4 h
  refine g_istore_n X (lv' := [(2, .int v3), (0, .ref (gad (xz x) 122)), (1, .int i0)]) dX11_draw_6 rfl (by decide) rfl ?_
  refine g_lv [1, 2, 0] rfl ?_
  obtain ⟨M18, hl19, h⟩ := bndO_e h
  refine lw_X11_draw_7 X  (fun M18_ e9 => ?_) F v3 M1 hl19
  cases e9
  refine g_iconst X (v := 0) dX11_draw_45 (by decide) ?_
  refine g_topi (fun v20 e21 => ?_)
  have h := bnd_e e21 h
  refine g_istore_n X (lv' := [(2, .int v20), (0, .ref (gad (xz x) 122)), (1, .int i0)]) dX11_draw_46 rfl (by decide) rfl ?_
  refine g_lv [1, 2, 0] rfl ?_
  obtain ⟨M57, hl58, h⟩ := bndO_e h
  refine lw_X11_draw_47 X  (fun M57_ e9 => ?_) F v20 M18 hl58
  cases e9
  exact hR M57 _ _ (Option.some.inj h).symm dX11_draw_136
theorem ct_X11_draw {l : Launch} {z : GZ} (htr : l.stackTraces = false) {i0 : Int32}  {M : GM} {F : Nat} {M1 : GM} (h : f_X11_draw F i0 M = some M1) : gMet l z yX11_draw cX11_draw 4 none 4 [.ref (gad z 122), .int i0] M (none) M1 := gMet_ofV (by decide +kernel) (Nat.le_of_ble_eq_true rfl) htr (fun x X ez el hR => by subst ez; subst el; exact w_X11_draw X  (fun M9 lv9 pc9 e9 d9 => by cases e9; exact hR lv9 pc9 d9) h)
theorem dX11_pieceAt_0 : decode cX11_pieceAt 0 = .ok (.aload_n 0, 1) := by decide +kernel
theorem dX11_pieceAt_1 : decode cX11_pieceAt 1 = .ok (.iload_n 1, 1) := by decide +kernel
theorem dX11_pieceAt_2 : decode cX11_pieceAt 2 = .ok (.invokevirtual 282, 3) := by decide +kernel
theorem dX11_pieceAt_5 : decode cX11_pieceAt 5 = .ok (.iconst 0, 1) := by decide +kernel
theorem dX11_pieceAt_6 : decode cX11_pieceAt 6 = .ok (.istore 4, 2) := by decide +kernel
theorem dX11_pieceAt_8 : decode cX11_pieceAt 8 = .ok (.iload 4, 2) := by decide +kernel
theorem dX11_pieceAt_10 : decode cX11_pieceAt 10 = .ok (.iconst 2, 1) := by decide +kernel
theorem dX11_pieceAt_11 : decode cX11_pieceAt 11 = .ok (.if_icmp .ge 31, 3) := by decide +kernel
theorem dX11_pieceAt_14 : decode cX11_pieceAt 14 = .ok (.aload_n 0, 1) := by decide +kernel
theorem dX11_pieceAt_15 : decode cX11_pieceAt 15 = .ok (.iload_n 1, 1) := by decide +kernel
theorem dX11_pieceAt_16 : decode cX11_pieceAt 16 = .ok (.iload 4, 2) := by decide +kernel
theorem dX11_pieceAt_18 : decode cX11_pieceAt 18 = .ok (.invokevirtual 286, 3) := by decide +kernel
theorem dX11_pieceAt_21 : decode cX11_pieceAt 21 = .ok (.ifCond .eq 15, 3) := by decide +kernel
theorem dX11_pieceAt_24 : decode cX11_pieceAt 24 = .ok (.aload_n 0, 1) := by decide +kernel
theorem dX11_pieceAt_25 : decode cX11_pieceAt 25 = .ok (.iload_n 2, 1) := by decide +kernel
theorem dX11_pieceAt_26 : decode cX11_pieceAt 26 = .ok (.iload_n 3, 1) := by decide +kernel
theorem dX11_pieceAt_27 : decode cX11_pieceAt 27 = .ok (.invokevirtual 308, 3) := by decide +kernel
theorem dX11_pieceAt_30 : decode cX11_pieceAt 30 = .ok (.ifCond .eq 6, 3) := by decide +kernel
theorem dX11_pieceAt_33 : decode cX11_pieceAt 33 = .ok (.iload 4, 2) := by decide +kernel
theorem dX11_pieceAt_35 : decode cX11_pieceAt 35 = .ok (.ireturn, 1) := by decide +kernel
theorem dX11_pieceAt_36 : decode cX11_pieceAt 36 = .ok (.iinc 4 1, 3) := by decide +kernel
theorem dX11_pieceAt_39 : decode cX11_pieceAt 39 = .ok (.goto (-31), 3) := by decide +kernel
theorem dX11_pieceAt_42 : decode cX11_pieceAt 42 = .ok (.iconst (-1), 1) := by decide +kernel
theorem dX11_pieceAt_43 : decode cX11_pieceAt 43 = .ok (.ireturn, 1) := by decide +kernel
def st_X11_pieceAt_8 (F : Nat) (a5 : Int32) (a6 : Int32) (a7 : Int32) (rec : Int32 → GM → Option (GM ⊕ (Int32 × GM))) (a8 : Int32) (M : GM) : Option (GM ⊕ (Int32 × GM)) := if (2 : Int32) ≤ a8 then (some (Sum.inl M)) else (bndO (f_X11_layPiece F a5 a8 M) (fun (v10, M11) => if v10 = 0 then (bnd (a8 + (1 : Int32)) (fun v12 => rec v12 M11)) else (bndO (f_X11_isInPiece F a6 a7 M11) (fun (v15, M16) => if v15 = 0 then (bnd (a8 + (1 : Int32)) (fun v17 => rec v17 M16)) else (some (Sum.inr (a8, M16)))))))
def lp_X11_pieceAt_8 (F : Nat) (a5 : Int32) (a6 : Int32) (a7 : Int32) : Nat → Int32 → GM → Option (GM ⊕ (Int32 × GM))
  | 0 => fun _ _ => none
  | f + 1 => fun a8 M => st_X11_pieceAt_8 F a5 a6 a7 (lp_X11_pieceAt_8 F a5 a6 a7 f) a8 M
set_option maxHeartbeats 4000000 in
set_option maxRecDepth 100000 in
theorem lw_X11_pieceAt_8 {x : GX} (X : GC x cX11_pieceAt 5 RX11 4) {a5 : Int32} {a6 : Int32} {a7 : Int32}  {F : Nat} {r9 : (GM ⊕ (Int32 × GM))} (hR : ∀ (v9 : Int32) (M9 : GM) (lv9 : List (Nat × Value)) (pc9 : Nat), r9 = Sum.inr (v9, M9) → decode cX11_pieceAt pc9 = .ok (.ireturn, 1) → WG x M9 lv9 pc9 [.int v9]) (hE : ∀  (M9 : GM), r9 = Sum.inl M9 → WG x M9 [] 42 []) : ∀ (f : Nat) (a8 : Int32) (M : GM), lp_X11_pieceAt_8 F a5 a6 a7 f a8 M = some r9 → WG x M [(0, .ref (gad (xz x) 122)), (1, .int a5), (2, .int a6), (3, .int a7), (4, .int a8)] 8 [] := by
  intro f
  induction f with
  | zero => intro a8 M h; cases h
  | succ f ih =>
    intro a8 M h
    have hrec := ih
    have h : st_X11_pieceAt_8 F a5 a6 a7 (lp_X11_pieceAt_8 F a5 a6 a7 f) a8 M = some r9 := h
    generalize lp_X11_pieceAt_8 F a5 a6 a7 f = rec at h hrec
    unfold st_X11_pieceAt_8 at h
    refine g_iload X (j := 4) dX11_pieceAt_8 rfl ?_
    refine g_iconst X (v := 2) dX11_pieceAt_10 (by decide) ?_
    refine g_icmp_ge X (tgt := 42) dX11_pieceAt_11 (by decide) (fun hb => ?_) (fun hb => ?_)
    · have h := ite_t hb h
      refine g_lv [] rfl ?_
      exact hE M (Option.some.inj h).symm
    · have h := ite_f hb h
      refine g_aload_n X (j := 0) dX11_pieceAt_14 rfl rfl ?_
      refine g_iload_n X (j := 1) dX11_pieceAt_15 rfl rfl ?_
      refine g_iload X (j := 4) dX11_pieceAt_16 rfl ?_
      obtain ⟨⟨v10, M11⟩, hc9, h⟩ := bndO_e h
      refine gc_X11_286 X gT_c122 (ct_X11_layPiece X.htr  hc9) (by decide) (Nat.le_of_ble_eq_true rfl) dX11_pieceAt_18 ?_
      refine g_if_eq X (tgt := 36) dX11_pieceAt_21 (by decide) (fun hb => ?_) (fun hb => ?_)
      · have h := ite_t hb h
        refine g_iinc X (j := 4) (w := a8 + (1 : Int32)) (lv' := [(0, .ref (gad (xz x) 122)), (1, .int a5), (2, .int a6), (3, .int a7)]) dX11_pieceAt_36 rfl (by rw [ii_1]) (by decide) (fun _ => rfl) (fun v12 e13 => ?_)
        have h := bnd_e e13 h
        refine g_goto X (tgt := 8) dX11_pieceAt_39 (by decide) ?_
        refine g_lv [1, 2, 3, 4, 0] rfl ?_
        exact hrec v12 M11 h
      · have h := ite_f hb h
        refine g_aload_n X (j := 0) dX11_pieceAt_24 rfl rfl ?_
        refine g_iload_n X (j := 2) dX11_pieceAt_25 rfl rfl ?_
        refine g_iload_n X (j := 3) dX11_pieceAt_26 rfl rfl ?_
        obtain ⟨⟨v15, M16⟩, hc14, h⟩ := bndO_e h
        refine gc_X11_308 X gT_c122 (ct_X11_isInPiece X.htr  hc14) (by decide) (Nat.le_of_ble_eq_true rfl) dX11_pieceAt_27 ?_
        refine g_if_eq X (tgt := 36) dX11_pieceAt_30 (by decide) (fun hb => ?_) (fun hb => ?_)
        · have h := ite_t hb h
          refine g_iinc X (j := 4) (w := a8 + (1 : Int32)) (lv' := [(0, .ref (gad (xz x) 122)), (1, .int a5), (2, .int a6), (3, .int a7)]) dX11_pieceAt_36 rfl (by rw [ii_1]) (by decide) (fun _ => rfl) (fun v17 e18 => ?_)
          have h := bnd_e e18 h
          refine g_goto X (tgt := 8) dX11_pieceAt_39 (by decide) ?_
          refine g_lv [1, 2, 3, 4, 0] rfl ?_
          exact hrec v17 M16 h
        · have h := ite_f hb h
          refine g_iload X (j := 4) dX11_pieceAt_33 rfl ?_
          exact hR a8 M16 _ _ (Option.some.inj h).symm dX11_pieceAt_35
def f_X11_pieceAt (F : Nat) (i0 : Int32) (i1 : Int32) (i2 : Int32) (M : GM) : Option (Int32 × GM) := bndO (f_X11_makePolygon F i0 M) (fun M2 => bnd (0 : Int32) (fun v3 => bndT (lp_X11_pieceAt_8 F i0 i1 i2 F v3 M2) (fun M19 => some (((-1) : Int32), M19)) (fun r21 => some r21)))
set_option maxHeartbeats 4000000 in
set_option maxRecDepth 100000 in
theorem w_X11_pieceAt {x : GX} (X : GC x cX11_pieceAt 5 RX11 4) {i0 : Int32} {i1 : Int32} {i2 : Int32}  {F : Nat} {M : GM} {r9 : (Int32 × GM)} (hR : ∀ (v9 : Int32) (M9 : GM) (lv9 : List (Nat × Value)) (pc9 : Nat), r9 = (v9, M9) → decode cX11_pieceAt pc9 = .ok (.ireturn, 1) → WG x M9 lv9 pc9 [.int v9]) (h : f_X11_pieceAt F i0 i1 i2 M = some r9) : WG x M [(0, .ref (gad (xz x) 122)), (1, .int i0), (2, .int i1), (3, .int i2)] 0 [] := by
  unfold f_X11_pieceAt at h
  refine g_aload_n X (j := 0) dX11_pieceAt_0 rfl rfl ?_
  refine g_iload_n X (j := 1) dX11_pieceAt_1 rfl rfl ?_
  obtain ⟨M2, hc1, h⟩ := bndO_e h
  refine gc_X11_282 X gT_c122 (ct_X11_makePolygon X.htr  hc1) (by decide) (Nat.le_of_ble_eq_true rfl) dX11_pieceAt_2 ?_
  refine g_iconst X (v := 0) dX11_pieceAt_5 (by decide) ?_
  refine g_topi (fun v3 e4 => ?_)
  have h := bnd_e e4 h
  refine g_istore X (lv' := [(4, .int v3), (0, .ref (gad (xz x) 122)), (1, .int i0), (2, .int i1), (3, .int i2)]) dX11_pieceAt_6 (by decide) rfl ?_
  refine g_lv [1, 2, 3, 4, 0] rfl ?_
  rcases bndT_e h with ⟨M19, hl20, h⟩ | ⟨r21, hl20, h⟩
  · refine lw_X11_pieceAt_8 X  (by intros; rename_i e9 _ ; cases e9) (fun M19_  e9 => ?_) F v3 M2 hl20
    cases e9
    refine g_iconst X (v := (-1)) dX11_pieceAt_42 (by decide) ?_
    exact hR ((-1) : Int32) M19 _ _ (Option.some.inj h).symm dX11_pieceAt_43
  · exact lw_X11_pieceAt_8 X  (fun v9 M9 lv9 pc9 e9 d9 => by cases e9; exact hR _ _ lv9 pc9 (Option.some.inj h).symm d9) (by intros; rename_i e9; cases e9) F v3 M2 hl20
theorem ct_X11_pieceAt {l : Launch} {z : GZ} (htr : l.stackTraces = false) {i0 : Int32} {i1 : Int32} {i2 : Int32}  {M : GM} {F : Nat} {v : Int32} {M1 : GM} (h : f_X11_pieceAt F i0 i1 i2 M = some (v, M1)) : gMet l z yX11_pieceAt cX11_pieceAt 5 (some .int) 4 [.ref (gad z 122), .int i0, .int i1, .int i2] M (some (.int v)) M1 := gMet_ofI (by decide +kernel) (Nat.le_of_ble_eq_true rfl) htr rfl (fun x X ez el hR => by subst ez; subst el; exact w_X11_pieceAt X  (fun v9 M9 lv9 pc9 e9 d9 => by cases e9; exact hR lv9 pc9 d9) h)
theorem dX11_seen_0 : decode cX11_seen 0 = .ok (.aload_n 0, 1) := by decide +kernel
theorem dX11_seen_1 : decode cX11_seen 1 = .ok (.iconst 0, 1) := by decide +kernel
theorem dX11_seen_2 : decode cX11_seen 2 = .ok (.putfield 114, 3) := by decide +kernel
theorem dX11_seen_5 : decode cX11_seen 5 = .ok (.aload_n 0, 1) := by decide +kernel
theorem dX11_seen_6 : decode cX11_seen 6 = .ok (.iload_n 1, 1) := by decide +kernel
theorem dX11_seen_7 : decode cX11_seen 7 = .ok (.invokevirtual 147, 3) := by decide +kernel
theorem dX11_seen_10 : decode cX11_seen 10 = .ok (.ifCond .eq 21, 3) := by decide +kernel
theorem dX11_seen_13 : decode cX11_seen 13 = .ok (.iload_n 2, 1) := by decide +kernel
theorem dX11_seen_14 : decode cX11_seen 14 = .ok (.iconst 0, 1) := by decide +kernel
theorem dX11_seen_15 : decode cX11_seen 15 = .ok (.iconst 2, 1) := by decide +kernel
theorem dX11_seen_16 : decode cX11_seen 16 = .ok (.invokestatic 118, 3) := by decide +kernel
theorem dX11_seen_19 : decode cX11_seen 19 = .ok (.ifCond .eq 12, 3) := by decide +kernel
theorem dX11_seen_22 : decode cX11_seen 22 = .ok (.aload_n 0, 1) := by decide +kernel
theorem dX11_seen_23 : decode cX11_seen 23 = .ok (.iload_n 1, 1) := by decide +kernel
theorem dX11_seen_24 : decode cX11_seen 24 = .ok (.iload_n 2, 1) := by decide +kernel
theorem dX11_seen_25 : decode cX11_seen 25 = .ok (.invokevirtual 159, 3) := by decide +kernel
theorem dX11_seen_28 : decode cX11_seen 28 = .ok (.goto 8, 3) := by decide +kernel
theorem dX11_seen_31 : decode cX11_seen 31 = .ok (.aload_n 0, 1) := by decide +kernel
theorem dX11_seen_32 : decode cX11_seen 32 = .ok (.iconst 1, 1) := by decide +kernel
theorem dX11_seen_33 : decode cX11_seen 33 = .ok (.invokevirtual 139, 3) := by decide +kernel
theorem dX11_seen_36 : decode cX11_seen 36 = .ok (.ireturn, 1) := by decide +kernel
def bk_X11_seen_31 (F : Nat) (M : GM) : Option (Int32 × GM) := bndO (f_X11_no F (1 : Int32) M) (fun (v4, M5) => some (v4, M5))
set_option maxHeartbeats 4000000 in
set_option maxRecDepth 100000 in
theorem bw_X11_seen_31 {x : GX} (X : GC x cX11_seen 3 RX11 2)    {F : Nat} {M : GM} {r9 : (Int32 × GM)} (hR : ∀ (v9 : Int32) (M9 : GM) (lv9 : List (Nat × Value)) (pc9 : Nat), r9 = (v9, M9) → decode cX11_seen pc9 = .ok (.ireturn, 1) → WG x M9 lv9 pc9 [.int v9]) (h : bk_X11_seen_31 F M = some r9) : WG x M [(0, .ref (gad (xz x) 122))] 31 [] := by
  unfold bk_X11_seen_31 at h
  refine g_aload_n X (j := 0) dX11_seen_31 rfl rfl ?_
  refine g_iconst X (v := 1) dX11_seen_32 (by decide) ?_
  obtain ⟨⟨v4, M5⟩, hc3, h⟩ := bndO_e h
  refine gc_X11_139 X gT_c122 (ct_X11_no X.htr  hc3) (by decide) (Nat.le_of_ble_eq_true rfl) dX11_seen_33 ?_
  exact hR v4 M5 _ _ (Option.some.inj h).symm dX11_seen_36
def f_X11_seen (F : Nat) (i0 : Int32) (i1 : Int32) (M : GM) : Option (Int32 × GM) := bnd (sI M 122 0 (0 : Int32)) (fun M1 => if (f_X11_isCorner i0 M1) = 0 then (bk_X11_seen_31 F M1) else (if (f_X11_isIn i1 (0 : Int32) (2 : Int32)) = 0 then (bk_X11_seen_31 F M1) else (bndO (f_X11_seenBy F i0 i1 M1) (fun v7 => some (v7, M1)))))
set_option maxHeartbeats 4000000 in
set_option maxRecDepth 100000 in
theorem w_X11_seen {x : GX} (X : GC x cX11_seen 3 RX11 2) {i0 : Int32} {i1 : Int32}  {F : Nat} {M : GM} {r9 : (Int32 × GM)} (hR : ∀ (v9 : Int32) (M9 : GM) (lv9 : List (Nat × Value)) (pc9 : Nat), r9 = (v9, M9) → decode cX11_seen pc9 = .ok (.ireturn, 1) → WG x M9 lv9 pc9 [.int v9]) (h : f_X11_seen F i0 i1 M = some r9) : WG x M [(0, .ref (gad (xz x) 122)), (1, .int i0), (2, .int i1)] 0 [] := by
  unfold f_X11_seen at h
  refine g_aload_n X (j := 0) dX11_seen_0 rfl rfl ?_
  refine g_iconst X (v := 0) dX11_seen_1 (by decide) ?_
  refine gp_X11_114 X gT_c122 dX11_seen_2 ?_
  refine g_mem (fun M1 e2 => ?_)
  have h := bnd_e e2 h
  refine g_aload_n X (j := 0) dX11_seen_5 rfl rfl ?_
  refine g_iload_n X (j := 1) dX11_seen_6 rfl rfl ?_
  refine gc_X11_147 X gT_c122 (ct_X11_isCorner X.htr ) (by decide) (Nat.le_of_ble_eq_true rfl) dX11_seen_7 ?_
  refine g_if_eq X (tgt := 31) dX11_seen_10 (by decide) (fun hb => ?_) (fun hb => ?_)
  · have h := ite_t hb h
    refine g_lv [0] rfl ?_
    exact bw_X11_seen_31 X  hR h
  · have h := ite_f hb h
    refine g_iload_n X (j := 2) dX11_seen_13 rfl rfl ?_
    refine g_iconst X (v := 0) dX11_seen_14 (by decide) ?_
    refine g_iconst X (v := 2) dX11_seen_15 (by decide) ?_
    refine gc_X11_118 X (ct_X11_isIn X.htr ) (by decide) (Nat.le_of_ble_eq_true rfl) dX11_seen_16 ?_
    refine g_if_eq X (tgt := 31) dX11_seen_19 (by decide) (fun hb => ?_) (fun hb => ?_)
    · have h := ite_t hb h
      refine g_lv [0] rfl ?_
      exact bw_X11_seen_31 X  hR h
    · have h := ite_f hb h
      refine g_aload_n X (j := 0) dX11_seen_22 rfl rfl ?_
      refine g_iload_n X (j := 1) dX11_seen_23 rfl rfl ?_
      refine g_iload_n X (j := 2) dX11_seen_24 rfl rfl ?_
      obtain ⟨v7, hc6, h⟩ := bndO_e h
      refine gc_X11_159 X gT_c122 (ct_X11_seenBy X.htr  hc6) (by decide) (Nat.le_of_ble_eq_true rfl) dX11_seen_25 ?_
      refine g_goto X (tgt := 36) dX11_seen_28 (by decide) ?_
      exact hR v7 M1 _ _ (Option.some.inj h).symm dX11_seen_36
theorem ct_X11_seen {l : Launch} {z : GZ} (htr : l.stackTraces = false) {i0 : Int32} {i1 : Int32}  {M : GM} {F : Nat} {v : Int32} {M1 : GM} (h : f_X11_seen F i0 i1 M = some (v, M1)) : gMet l z yX11_seen cX11_seen 3 (some .int) 2 [.ref (gad z 122), .int i0, .int i1] M (some (.int v)) M1 := gMet_ofI (by decide +kernel) (Nat.le_of_ble_eq_true rfl) htr rfl (fun x X ez el hR => by subst ez; subst el; exact w_X11_seen X  (fun v9 M9 lv9 pc9 e9 d9 => by cases e9; exact hR lv9 pc9 d9) h)
theorem dX11_sidesOf_0 : decode cX11_sidesOf 0 = .ok (.aload_n 0, 1) := by decide +kernel
theorem dX11_sidesOf_1 : decode cX11_sidesOf 1 = .ok (.iload_n 1, 1) := by decide +kernel
theorem dX11_sidesOf_2 : decode cX11_sidesOf 2 = .ok (.invokevirtual 282, 3) := by decide +kernel
theorem dX11_sidesOf_5 : decode cX11_sidesOf 5 = .ok (.aload_n 0, 1) := by decide +kernel
theorem dX11_sidesOf_6 : decode cX11_sidesOf 6 = .ok (.getfield 183, 3) := by decide +kernel
theorem dX11_sidesOf_9 : decode cX11_sidesOf 9 = .ok (.ireturn, 1) := by decide +kernel
def f_X11_sidesOf (F : Nat) (i0 : Int32) (M : GM) : Option (Int32 × GM) := bndO (f_X11_makePolygon F i0 M) (fun M2 => some ((gI M2 122 27), M2))
set_option maxHeartbeats 4000000 in
set_option maxRecDepth 100000 in
theorem w_X11_sidesOf {x : GX} (X : GC x cX11_sidesOf 2 RX11 3) {i0 : Int32}  {F : Nat} {M : GM} {r9 : (Int32 × GM)} (hR : ∀ (v9 : Int32) (M9 : GM) (lv9 : List (Nat × Value)) (pc9 : Nat), r9 = (v9, M9) → decode cX11_sidesOf pc9 = .ok (.ireturn, 1) → WG x M9 lv9 pc9 [.int v9]) (h : f_X11_sidesOf F i0 M = some r9) : WG x M [(0, .ref (gad (xz x) 122)), (1, .int i0)] 0 [] := by
  unfold f_X11_sidesOf at h
  refine g_aload_n X (j := 0) dX11_sidesOf_0 rfl rfl ?_
  refine g_iload_n X (j := 1) dX11_sidesOf_1 rfl rfl ?_
  obtain ⟨M2, hc1, h⟩ := bndO_e h
  refine gc_X11_282 X gT_c122 (ct_X11_makePolygon X.htr  hc1) (by decide) (Nat.le_of_ble_eq_true rfl) dX11_sidesOf_2 ?_
  refine g_aload_n X (j := 0) dX11_sidesOf_5 rfl rfl ?_
  refine gf_X11_183 X gT_c122 dX11_sidesOf_6 ?_
  exact hR (gI M2 122 27) M2 _ _ (Option.some.inj h).symm dX11_sidesOf_9
theorem ct_X11_sidesOf {l : Launch} {z : GZ} (htr : l.stackTraces = false) {i0 : Int32}  {M : GM} {F : Nat} {v : Int32} {M1 : GM} (h : f_X11_sidesOf F i0 M = some (v, M1)) : gMet l z yX11_sidesOf cX11_sidesOf 2 (some .int) 3 [.ref (gad z 122), .int i0] M (some (.int v)) M1 := gMet_ofI (by decide +kernel) (Nat.le_of_ble_eq_true rfl) htr rfl (fun x X ez el hR => by subst ez; subst el; exact w_X11_sidesOf X  (fun v9 M9 lv9 pc9 e9 d9 => by cases e9; exact hR lv9 pc9 d9) h)
theorem gc_X11_315 {x : GX} {cc : ByteArray} {nL d pc : Nat} {M : GM} {lv : List (Nat × Value)} {st : List Value} (X : GC x cc nL RX11 d) {i0 : Int32} {M1 : GM} {r : Int32} (ht : gT 122 = 11) (hM : gMet (xl x) (xz x) yX11_sidesOf cX11_sidesOf 2 (some .int) 3 [.ref (gad (xz x) 122), .int i0] M (some (.int r)) M1) (hd : 4 ≤ d) (hsum : (st.map fun v => v.category).sum ≤ 8) (dec : decode cc pc = .ok (.invokevirtual 315, 3)) (go : WG x M1 lv (pc + 3) (.int r :: st)) : WG x M lv pc (.int i0 :: .ref (gad (xz x) 122) :: st) := g_callV X (n := 1) (As := [.int i0]) (rest := st) hM ht (by decide) (gE_11 ht) rfl q_1296 q_1298 q_24 q_63 q_1299 (by decide +kernel) rfl hd (by decide) rfl hsum dec go
theorem dX11_polygonOf_0 : decode cX11_polygonOf 0 = .ok (.aload_n 0, 1) := by decide +kernel
theorem dX11_polygonOf_1 : decode cX11_polygonOf 1 = .ok (.iconst 0, 1) := by decide +kernel
theorem dX11_polygonOf_2 : decode cX11_polygonOf 2 = .ok (.putfield 114, 3) := by decide +kernel
theorem dX11_polygonOf_5 : decode cX11_polygonOf 5 = .ok (.aload_n 0, 1) := by decide +kernel
theorem dX11_polygonOf_6 : decode cX11_polygonOf 6 = .ok (.iload_n 1, 1) := by decide +kernel
theorem dX11_polygonOf_7 : decode cX11_polygonOf 7 = .ok (.invokevirtual 150, 3) := by decide +kernel
theorem dX11_polygonOf_10 : decode cX11_polygonOf 10 = .ok (.ifCond .eq 11, 3) := by decide +kernel
theorem dX11_polygonOf_13 : decode cX11_polygonOf 13 = .ok (.aload_n 0, 1) := by decide +kernel
theorem dX11_polygonOf_14 : decode cX11_polygonOf 14 = .ok (.iload_n 1, 1) := by decide +kernel
theorem dX11_polygonOf_15 : decode cX11_polygonOf 15 = .ok (.invokevirtual 315, 3) := by decide +kernel
theorem dX11_polygonOf_18 : decode cX11_polygonOf 18 = .ok (.goto 8, 3) := by decide +kernel
theorem dX11_polygonOf_21 : decode cX11_polygonOf 21 = .ok (.aload_n 0, 1) := by decide +kernel
theorem dX11_polygonOf_22 : decode cX11_polygonOf 22 = .ok (.iconst 1, 1) := by decide +kernel
theorem dX11_polygonOf_23 : decode cX11_polygonOf 23 = .ok (.invokevirtual 139, 3) := by decide +kernel
theorem dX11_polygonOf_26 : decode cX11_polygonOf 26 = .ok (.ireturn, 1) := by decide +kernel
def f_X11_polygonOf (F : Nat) (i0 : Int32) (M : GM) : Option (Int32 × GM) := bnd (sI M 122 0 (0 : Int32)) (fun M1 => if (f_X11_isPane i0 M1) = 0 then (bndO (f_X11_no F (1 : Int32) M1) (fun (v4, M5) => some (v4, M5))) else (bndO (f_X11_sidesOf F i0 M1) (fun (v7, M8) => some (v7, M8))))
set_option maxHeartbeats 4000000 in
set_option maxRecDepth 100000 in
theorem w_X11_polygonOf {x : GX} (X : GC x cX11_polygonOf 2 RX11 4) {i0 : Int32}  {F : Nat} {M : GM} {r9 : (Int32 × GM)} (hR : ∀ (v9 : Int32) (M9 : GM) (lv9 : List (Nat × Value)) (pc9 : Nat), r9 = (v9, M9) → decode cX11_polygonOf pc9 = .ok (.ireturn, 1) → WG x M9 lv9 pc9 [.int v9]) (h : f_X11_polygonOf F i0 M = some r9) : WG x M [(0, .ref (gad (xz x) 122)), (1, .int i0)] 0 [] := by
  unfold f_X11_polygonOf at h
  refine g_aload_n X (j := 0) dX11_polygonOf_0 rfl rfl ?_
  refine g_iconst X (v := 0) dX11_polygonOf_1 (by decide) ?_
  refine gp_X11_114 X gT_c122 dX11_polygonOf_2 ?_
  refine g_mem (fun M1 e2 => ?_)
  have h := bnd_e e2 h
  refine g_aload_n X (j := 0) dX11_polygonOf_5 rfl rfl ?_
  refine g_iload_n X (j := 1) dX11_polygonOf_6 rfl rfl ?_
  refine gc_X11_150 X gT_c122 (ct_X11_isPane X.htr ) (by decide) (Nat.le_of_ble_eq_true rfl) dX11_polygonOf_7 ?_
  refine g_if_eq X (tgt := 21) dX11_polygonOf_10 (by decide) (fun hb => ?_) (fun hb => ?_)
  · have h := ite_t hb h
    refine g_aload_n X (j := 0) dX11_polygonOf_21 rfl rfl ?_
    refine g_iconst X (v := 1) dX11_polygonOf_22 (by decide) ?_
    obtain ⟨⟨v4, M5⟩, hc3, h⟩ := bndO_e h
    refine gc_X11_139 X gT_c122 (ct_X11_no X.htr  hc3) (by decide) (Nat.le_of_ble_eq_true rfl) dX11_polygonOf_23 ?_
    exact hR v4 M5 _ _ (Option.some.inj h).symm dX11_polygonOf_26
  · have h := ite_f hb h
    refine g_aload_n X (j := 0) dX11_polygonOf_13 rfl rfl ?_
    refine g_iload_n X (j := 1) dX11_polygonOf_14 rfl rfl ?_
    obtain ⟨⟨v7, M8⟩, hc6, h⟩ := bndO_e h
    refine gc_X11_315 X gT_c122 (ct_X11_sidesOf X.htr  hc6) (by decide) (Nat.le_of_ble_eq_true rfl) dX11_polygonOf_15 ?_
    refine g_goto X (tgt := 26) dX11_polygonOf_18 (by decide) ?_
    exact hR v7 M8 _ _ (Option.some.inj h).symm dX11_polygonOf_26
theorem ct_X11_polygonOf {l : Launch} {z : GZ} (htr : l.stackTraces = false) {i0 : Int32}  {M : GM} {F : Nat} {v : Int32} {M1 : GM} (h : f_X11_polygonOf F i0 M = some (v, M1)) : gMet l z yX11_polygonOf cX11_polygonOf 2 (some .int) 4 [.ref (gad z 122), .int i0] M (some (.int v)) M1 := gMet_ofI (by decide +kernel) (Nat.le_of_ble_eq_true rfl) htr rfl (fun x X ez el hR => by subst ez; subst el; exact w_X11_polygonOf X  (fun v9 M9 lv9 pc9 e9 d9 => by cases e9; exact hR lv9 pc9 d9) h)
theorem dX11_cornerOf_0 : decode cX11_cornerOf 0 = .ok (.aload_n 0, 1) := by decide +kernel
theorem dX11_cornerOf_1 : decode cX11_cornerOf 1 = .ok (.iconst 0, 1) := by decide +kernel
theorem dX11_cornerOf_2 : decode cX11_cornerOf 2 = .ok (.putfield 114, 3) := by decide +kernel
theorem dX11_cornerOf_5 : decode cX11_cornerOf 5 = .ok (.aload_n 0, 1) := by decide +kernel
theorem dX11_cornerOf_6 : decode cX11_cornerOf 6 = .ok (.iload_n 1, 1) := by decide +kernel
theorem dX11_cornerOf_7 : decode cX11_cornerOf 7 = .ok (.invokevirtual 150, 3) := by decide +kernel
theorem dX11_cornerOf_10 : decode cX11_cornerOf 10 = .ok (.ifCond .eq 27, 3) := by decide +kernel
theorem dX11_cornerOf_13 : decode cX11_cornerOf 13 = .ok (.iload_n 2, 1) := by decide +kernel
theorem dX11_cornerOf_14 : decode cX11_cornerOf 14 = .ok (.iconst 0, 1) := by decide +kernel
theorem dX11_cornerOf_15 : decode cX11_cornerOf 15 = .ok (.aload_n 0, 1) := by decide +kernel
theorem dX11_cornerOf_16 : decode cX11_cornerOf 16 = .ok (.iload_n 1, 1) := by decide +kernel
theorem dX11_cornerOf_17 : decode cX11_cornerOf 17 = .ok (.invokevirtual 315, 3) := by decide +kernel
theorem dX11_cornerOf_20 : decode cX11_cornerOf 20 = .ok (.iconst 1, 1) := by decide +kernel
theorem dX11_cornerOf_21 : decode cX11_cornerOf 21 = .ok (.isub, 1) := by decide +kernel
theorem dX11_cornerOf_22 : decode cX11_cornerOf 22 = .ok (.invokestatic 118, 3) := by decide +kernel
theorem dX11_cornerOf_25 : decode cX11_cornerOf 25 = .ok (.ifCond .eq 12, 3) := by decide +kernel
theorem dX11_cornerOf_28 : decode cX11_cornerOf 28 = .ok (.iload_n 3, 1) := by decide +kernel
theorem dX11_cornerOf_29 : decode cX11_cornerOf 29 = .ok (.iconst 0, 1) := by decide +kernel
theorem dX11_cornerOf_30 : decode cX11_cornerOf 30 = .ok (.iconst 5, 1) := by decide +kernel
theorem dX11_cornerOf_31 : decode cX11_cornerOf 31 = .ok (.invokestatic 118, 3) := by decide +kernel
theorem dX11_cornerOf_34 : decode cX11_cornerOf 34 = .ok (.ifCond .ne 9, 3) := by decide +kernel
theorem dX11_cornerOf_37 : decode cX11_cornerOf 37 = .ok (.aload_n 0, 1) := by decide +kernel
theorem dX11_cornerOf_38 : decode cX11_cornerOf 38 = .ok (.iconst 1, 1) := by decide +kernel
theorem dX11_cornerOf_39 : decode cX11_cornerOf 39 = .ok (.invokevirtual 139, 3) := by decide +kernel
theorem dX11_cornerOf_42 : decode cX11_cornerOf 42 = .ok (.ireturn, 1) := by decide +kernel
theorem dX11_cornerOf_43 : decode cX11_cornerOf 43 = .ok (.iload_n 3, 1) := by decide +kernel
theorem dX11_cornerOf_44 : decode cX11_cornerOf 44 = .ok (.iconst 5, 1) := by decide +kernel
theorem dX11_cornerOf_45 : decode cX11_cornerOf 45 = .ok (.if_icmp .ge 14, 3) := by decide +kernel
theorem dX11_cornerOf_48 : decode cX11_cornerOf 48 = .ok (.aload_n 0, 1) := by decide +kernel
theorem dX11_cornerOf_49 : decode cX11_cornerOf 49 = .ok (.getfield 77, 3) := by decide +kernel
theorem dX11_cornerOf_52 : decode cX11_cornerOf 52 = .ok (.iload_n 2, 1) := by decide +kernel
theorem dX11_cornerOf_53 : decode cX11_cornerOf 53 = .ok (.aaload, 1) := by decide +kernel
theorem dX11_cornerOf_54 : decode cX11_cornerOf 54 = .ok (.iload_n 3, 1) := by decide +kernel
theorem dX11_cornerOf_55 : decode cX11_cornerOf 55 = .ok (.iaload, 1) := by decide +kernel
theorem dX11_cornerOf_56 : decode cX11_cornerOf 56 = .ok (.goto 32, 3) := by decide +kernel
theorem dX11_cornerOf_59 : decode cX11_cornerOf 59 = .ok (.aload_n 0, 1) := by decide +kernel
theorem dX11_cornerOf_60 : decode cX11_cornerOf 60 = .ok (.getfield 77, 3) := by decide +kernel
theorem dX11_cornerOf_63 : decode cX11_cornerOf 63 = .ok (.iload_n 2, 1) := by decide +kernel
theorem dX11_cornerOf_64 : decode cX11_cornerOf 64 = .ok (.aaload, 1) := by decide +kernel
theorem dX11_cornerOf_65 : decode cX11_cornerOf 65 = .ok (.iconst 5, 1) := by decide +kernel
theorem dX11_cornerOf_66 : decode cX11_cornerOf 66 = .ok (.iaload, 1) := by decide +kernel
theorem dX11_cornerOf_67 : decode cX11_cornerOf 67 = .ok (.aload_n 0, 1) := by decide +kernel
theorem dX11_cornerOf_68 : decode cX11_cornerOf 68 = .ok (.getfield 77, 3) := by decide +kernel
theorem dX11_cornerOf_71 : decode cX11_cornerOf 71 = .ok (.iload_n 2, 1) := by decide +kernel
theorem dX11_cornerOf_72 : decode cX11_cornerOf 72 = .ok (.aaload, 1) := by decide +kernel
theorem dX11_cornerOf_73 : decode cX11_cornerOf 73 = .ok (.bipush 6, 2) := by decide +kernel
theorem dX11_cornerOf_75 : decode cX11_cornerOf 75 = .ok (.iaload, 1) := by decide +kernel
theorem dX11_cornerOf_76 : decode cX11_cornerOf 76 = .ok (.aload_n 0, 1) := by decide +kernel
theorem dX11_cornerOf_77 : decode cX11_cornerOf 77 = .ok (.getfield 77, 3) := by decide +kernel
theorem dX11_cornerOf_80 : decode cX11_cornerOf 80 = .ok (.iload_n 2, 1) := by decide +kernel
theorem dX11_cornerOf_81 : decode cX11_cornerOf 81 = .ok (.aaload, 1) := by decide +kernel
theorem dX11_cornerOf_82 : decode cX11_cornerOf 82 = .ok (.bipush 7, 2) := by decide +kernel
theorem dX11_cornerOf_84 : decode cX11_cornerOf 84 = .ok (.iaload, 1) := by decide +kernel
theorem dX11_cornerOf_85 : decode cX11_cornerOf 85 = .ok (.invokestatic 259, 3) := by decide +kernel
theorem dX11_cornerOf_88 : decode cX11_cornerOf 88 = .ok (.ireturn, 1) := by decide +kernel
def bk_X11_cornerOf_37 (F : Nat) (M : GM) : Option (Int32 × GM) := bndO (f_X11_no F (1 : Int32) M) (fun (v4, M5) => some (v4, M5))
set_option maxHeartbeats 4000000 in
set_option maxRecDepth 100000 in
theorem bw_X11_cornerOf_37 {x : GX} (X : GC x cX11_cornerOf 4 RX11 4)    {F : Nat} {M : GM} {r9 : (Int32 × GM)} (hR : ∀ (v9 : Int32) (M9 : GM) (lv9 : List (Nat × Value)) (pc9 : Nat), r9 = (v9, M9) → decode cX11_cornerOf pc9 = .ok (.ireturn, 1) → WG x M9 lv9 pc9 [.int v9]) (h : bk_X11_cornerOf_37 F M = some r9) : WG x M [(0, .ref (gad (xz x) 122))] 37 [] := by
  unfold bk_X11_cornerOf_37 at h
  refine g_aload_n X (j := 0) dX11_cornerOf_37 rfl rfl ?_
  refine g_iconst X (v := 1) dX11_cornerOf_38 (by decide) ?_
  obtain ⟨⟨v4, M5⟩, hc3, h⟩ := bndO_e h
  refine gc_X11_139 X gT_c122 (ct_X11_no X.htr  hc3) (by decide) (Nat.le_of_ble_eq_true rfl) dX11_cornerOf_39 ?_
  exact hR v4 M5 _ _ (Option.some.inj h).symm dX11_cornerOf_42
def f_X11_cornerOf (F : Nat) (i0 : Int32) (i1 : Int32) (i2 : Int32) (M : GM) : Option (Int32 × GM) := bnd (sI M 122 0 (0 : Int32)) (fun M1 => if (f_X11_isPane i0 M1) = 0 then (bk_X11_cornerOf_37 F M1) else (bndO (f_X11_sidesOf F i0 M1) (fun (v7, M8) => if (f_X11_isIn i1 (0 : Int32) (v7 - (1 : Int32))) = 0 then (bk_X11_cornerOf_37 F M8) else (if (f_X11_isIn i2 (0 : Int32) (5 : Int32)) = 0 then (bk_X11_cornerOf_37 F M8) else (if (5 : Int32) ≤ i2 then (grd (gIn i1 (gN 144)) (bnd (gR 144 i1.toNatClampNeg) (fun o10 => grd (gIn (5 : Int32) (gN o10)) (grd (gIn i1 (gN 144)) (bnd (gR 144 i1.toNatClampNeg) (fun o15 => grd (gIn (6 : Int32) (gN o15)) (grd (gIn i1 (gN 144)) (bnd (gR 144 i1.toNatClampNeg) (fun o20 => grd (gIn (7 : Int32) (gN o20)) (some ((f_X11_mixed (gI M8 o10 5) (gI M8 o15 6) (gI M8 o20 7)), M8))))))))))) else (grd (gIn i1 (gN 144)) (bnd (gR 144 i1.toNatClampNeg) (fun o25 => grd (gIn i2 (gN o25)) (some ((gI M8 o25 i2.toNatClampNeg), M8))))))))))
set_option maxHeartbeats 4000000 in
set_option maxRecDepth 100000 in
theorem w_X11_cornerOf {x : GX} (X : GC x cX11_cornerOf 4 RX11 4) {i0 : Int32} {i1 : Int32} {i2 : Int32}  {F : Nat} {M : GM} {r9 : (Int32 × GM)} (hR : ∀ (v9 : Int32) (M9 : GM) (lv9 : List (Nat × Value)) (pc9 : Nat), r9 = (v9, M9) → decode cX11_cornerOf pc9 = .ok (.ireturn, 1) → WG x M9 lv9 pc9 [.int v9]) (h : f_X11_cornerOf F i0 i1 i2 M = some r9) : WG x M [(0, .ref (gad (xz x) 122)), (1, .int i0), (2, .int i1), (3, .int i2)] 0 [] := by
  unfold f_X11_cornerOf at h
  refine g_aload_n X (j := 0) dX11_cornerOf_0 rfl rfl ?_
  refine g_iconst X (v := 0) dX11_cornerOf_1 (by decide) ?_
  refine gp_X11_114 X gT_c122 dX11_cornerOf_2 ?_
  refine g_mem (fun M1 e2 => ?_)
  have h := bnd_e e2 h
  refine g_aload_n X (j := 0) dX11_cornerOf_5 rfl rfl ?_
  refine g_iload_n X (j := 1) dX11_cornerOf_6 rfl rfl ?_
  refine gc_X11_150 X gT_c122 (ct_X11_isPane X.htr ) (by decide) (Nat.le_of_ble_eq_true rfl) dX11_cornerOf_7 ?_
  refine g_if_eq X (tgt := 37) dX11_cornerOf_10 (by decide) (fun hb => ?_) (fun hb => ?_)
  · have h := ite_t hb h
    refine g_lv [0] rfl ?_
    exact bw_X11_cornerOf_37 X  hR h
  · have h := ite_f hb h
    refine g_iload_n X (j := 2) dX11_cornerOf_13 rfl rfl ?_
    refine g_iconst X (v := 0) dX11_cornerOf_14 (by decide) ?_
    refine g_aload_n X (j := 0) dX11_cornerOf_15 rfl rfl ?_
    refine g_iload_n X (j := 1) dX11_cornerOf_16 rfl rfl ?_
    obtain ⟨⟨v7, M8⟩, hc6, h⟩ := bndO_e h
    refine gc_X11_315 X gT_c122 (ct_X11_sidesOf X.htr  hc6) (by decide) (Nat.le_of_ble_eq_true rfl) dX11_cornerOf_17 ?_
    refine g_iconst X (v := 1) dX11_cornerOf_20 (by decide) ?_
    refine g_isub X dX11_cornerOf_21 ?_
    refine gc_X11_118 X (ct_X11_isIn X.htr ) (by decide) (Nat.le_of_ble_eq_true rfl) dX11_cornerOf_22 ?_
    refine g_if_eq X (tgt := 37) dX11_cornerOf_25 (by decide) (fun hb => ?_) (fun hb => ?_)
    · have h := ite_t hb h
      refine g_lv [0] rfl ?_
      exact bw_X11_cornerOf_37 X  hR h
    · have h := ite_f hb h
      refine g_iload_n X (j := 3) dX11_cornerOf_28 rfl rfl ?_
      refine g_iconst X (v := 0) dX11_cornerOf_29 (by decide) ?_
      refine g_iconst X (v := 5) dX11_cornerOf_30 (by decide) ?_
      refine gc_X11_118 X (ct_X11_isIn X.htr ) (by decide) (Nat.le_of_ble_eq_true rfl) dX11_cornerOf_31 ?_
      refine g_if_ne X (tgt := 43) dX11_cornerOf_34 (by decide) (fun hb => ?_) (fun hb => ?_)
      · have h := ite_f hb h
        refine g_iload_n X (j := 3) dX11_cornerOf_43 rfl rfl ?_
        refine g_iconst X (v := 5) dX11_cornerOf_44 (by decide) ?_
        refine g_icmp_ge X (tgt := 59) dX11_cornerOf_45 (by decide) (fun hb => ?_) (fun hb => ?_)
        · have h := ite_t hb h
          refine g_aload_n X (j := 0) dX11_cornerOf_59 rfl rfl ?_
          refine gf_X11_77 X gT_c122 dX11_cornerOf_60 ?_
          refine g_iload_n X (j := 2) dX11_cornerOf_63 rfl rfl ?_
          obtain ⟨hg9, h⟩ := grd_e h
          refine g_aald_28 X gT_c144 hg9 dX11_cornerOf_64 ?_
          refine g_topr (fun o10 e11 => ?_)
          have h := bnd_e e11 h
          have k12 : gT o10 = 20 := by rw [e11]; exact gR_28 gT_c144 (gIn_lt hg9)
          refine g_iconst X (v := 5) dX11_cornerOf_65 (by decide) ?_
          obtain ⟨hg13, h⟩ := grd_e h
          refine g_iald X k12 hg13 dX11_cornerOf_66 ?_
          rw [tn_5]
          refine g_aload_n X (j := 0) dX11_cornerOf_67 rfl rfl ?_
          refine gf_X11_77 X gT_c122 dX11_cornerOf_68 ?_
          refine g_iload_n X (j := 2) dX11_cornerOf_71 rfl rfl ?_
          obtain ⟨hg14, h⟩ := grd_e h
          refine g_aald_28 X gT_c144 hg14 dX11_cornerOf_72 ?_
          refine g_topr (fun o15 e16 => ?_)
          have h := bnd_e e16 h
          have k17 : gT o15 = 20 := by rw [e16]; exact gR_28 gT_c144 (gIn_lt hg14)
          refine g_bipush X (v := 6) dX11_cornerOf_73 (by decide) ?_
          obtain ⟨hg18, h⟩ := grd_e h
          refine g_iald X k17 hg18 dX11_cornerOf_75 ?_
          rw [tn_6]
          refine g_aload_n X (j := 0) dX11_cornerOf_76 rfl rfl ?_
          refine gf_X11_77 X gT_c122 dX11_cornerOf_77 ?_
          refine g_iload_n X (j := 2) dX11_cornerOf_80 rfl rfl ?_
          obtain ⟨hg19, h⟩ := grd_e h
          refine g_aald_28 X gT_c144 hg19 dX11_cornerOf_81 ?_
          refine g_topr (fun o20 e21 => ?_)
          have h := bnd_e e21 h
          have k22 : gT o20 = 20 := by rw [e21]; exact gR_28 gT_c144 (gIn_lt hg19)
          refine g_bipush X (v := 7) dX11_cornerOf_82 (by decide) ?_
          obtain ⟨hg23, h⟩ := grd_e h
          refine g_iald X k22 hg23 dX11_cornerOf_84 ?_
          rw [tn_7]
          refine gc_X11_259 X (ct_X11_mixed X.htr ) (by decide) (Nat.le_of_ble_eq_true rfl) dX11_cornerOf_85 ?_
          exact hR (f_X11_mixed (gI M8 o10 5) (gI M8 o15 6) (gI M8 o20 7)) M8 _ _ (Option.some.inj h).symm dX11_cornerOf_88
        · have h := ite_f hb h
          refine g_aload_n X (j := 0) dX11_cornerOf_48 rfl rfl ?_
          refine gf_X11_77 X gT_c122 dX11_cornerOf_49 ?_
          refine g_iload_n X (j := 2) dX11_cornerOf_52 rfl rfl ?_
          obtain ⟨hg24, h⟩ := grd_e h
          refine g_aald_28 X gT_c144 hg24 dX11_cornerOf_53 ?_
          refine g_topr (fun o25 e26 => ?_)
          have h := bnd_e e26 h
          have k27 : gT o25 = 20 := by rw [e26]; exact gR_28 gT_c144 (gIn_lt hg24)
          refine g_iload_n X (j := 3) dX11_cornerOf_54 rfl rfl ?_
          obtain ⟨hg28, h⟩ := grd_e h
          refine g_iald X k27 hg28 dX11_cornerOf_55 ?_
          refine g_goto X (tgt := 88) dX11_cornerOf_56 (by decide) ?_
          exact hR (gI M8 o25 i2.toNatClampNeg) M8 _ _ (Option.some.inj h).symm dX11_cornerOf_88
      · have h := ite_t hb h
        refine g_lv [0] rfl ?_
        exact bw_X11_cornerOf_37 X  hR h
theorem ct_X11_cornerOf {l : Launch} {z : GZ} (htr : l.stackTraces = false) {i0 : Int32} {i1 : Int32} {i2 : Int32}  {M : GM} {F : Nat} {v : Int32} {M1 : GM} (h : f_X11_cornerOf F i0 i1 i2 M = some (v, M1)) : gMet l z yX11_cornerOf cX11_cornerOf 4 (some .int) 4 [.ref (gad z 122), .int i0, .int i1, .int i2] M (some (.int v)) M1 := gMet_ofI (by decide +kernel) (Nat.le_of_ble_eq_true rfl) htr rfl (fun x X ez el hR => by subst ez; subst el; exact w_X11_cornerOf X  (fun v9 M9 lv9 pc9 e9 d9 => by cases e9; exact hR lv9 pc9 d9) h)
