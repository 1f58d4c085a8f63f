/-! 18.c -/
theorem gc_X10_353 {x : GX} {cc : ByteArray} {nL d pc : Nat} {M : GM} {lv : List (Nat × Value)} {st : List Value} (X : GC x cc nL RX10 d)  {M1 : GM} {r : Int32} (ht : gT 0 = 10) (hM : gMet (xl x) (xz x) yX10_corners cX10_corners 1 (some .int) 0 [.ref (gad (xz x) 0)] M (some (.int r)) M1) (hd : 1 ≤ d) (hsum : (st.map fun v => v.category).sum ≤ 8) (dec : decode cc pc = .ok (.invokevirtual 353, 3)) (go : WG x M1 lv (pc + 3) (.int r :: st)) : WG x M lv pc (.ref (gad (xz x) 0) :: st) := g_callV X (n := 0) (As := []) (rest := st) hM ht (by decide) (gE_10 ht) rfl q_426 q_427 q_428 q_17 q_429 (by decide +kernel) rfl hd (by decide) rfl hsum dec go
theorem gc_X10_356 {x : GX} {cc : ByteArray} {nL d pc : Nat} {M : GM} {lv : List (Nat × Value)} {st : List Value} (X : GC x cc nL RX10 d)  {M1 : GM} {r : Int32} (ht : gT 0 = 10) (hM : gMet (xl x) (xz x) yX10_panes cX10_panes 1 (some .int) 0 [.ref (gad (xz x) 0)] M (some (.int r)) M1) (hd : 1 ≤ d) (hsum : (st.map fun v => v.category).sum ≤ 8) (dec : decode cc pc = .ok (.invokevirtual 356, 3)) (go : WG x M1 lv (pc + 3) (.int r :: st)) : WG x M lv pc (.ref (gad (xz x) 0) :: st) := g_callV X (n := 0) (As := []) (rest := st) hM ht (by decide) (gE_10 ht) rfl q_430 q_431 q_432 q_17 q_433 (by decide +kernel) rfl hd (by decide) rfl hsum dec go
theorem gc_X10_358 {x : GX} {cc : ByteArray} {nL d pc : Nat} {M : GM} {lv : List (Nat × Value)} {st : List Value} (X : GC x cc nL RX10 d) {i0 : Int32} {i1 : Int32} {M1 : GM} {r : Int32} (ht : gT 0 = 10) (hM : gMet (xl x) (xz x) yX10_seen cX10_seen 3 (some .int) 7 [.ref (gad (xz x) 0), .int i0, .int i1] M (some (.int r)) M1) (hd : 8 ≤ d) (hsum : (st.map fun v => v.category).sum ≤ 8) (dec : decode cc pc = .ok (.invokevirtual 358, 3)) (go : WG x M1 lv (pc + 3) (.int r :: st)) : WG x M lv pc (.int i1 :: .int i0 :: .ref (gad (xz x) 0) :: st) := g_callV X (n := 2) (As := [.int i0, .int i1]) (rest := st) hM ht (by decide) (gE_10 ht) rfl q_434 q_435 q_436 q_17 q_437 (by decide +kernel) rfl hd (by decide) rfl hsum dec go
theorem gx_X10_358 {x : GX} {cc : ByteArray} {nL d pc : Nat} {M : GM} {lv : List (Nat × Value)} {st : List Value} (X : GC x cc nL RX10 d) {i0 : Int32} {i1 : Int32} {M1 : GM} {n9 : Nat} (ht : gT 0 = 10) (hM : gMetX (xl x) (xz x) yX10_seen cX10_seen 3 (some .int) 7 [.ref (gad (xz x) 0), .int i0, .int i1] M n9 M1) (hd : 8 ≤ d) (hsum : (st.map fun v => v.category).sum ≤ 8) (dec : decode cc pc = .ok (.invokevirtual 358, 3)) (hT : GThr x n9 M1) : WG x M lv pc (.int i1 :: .int i0 :: .ref (gad (xz x) 0) :: st) := g_xV X (n := 2) (As := [.int i0, .int i1]) (rest := st) hM ht (by decide) (gE_10 ht) rfl q_434 q_435 q_436 q_17 q_437 (by decide +kernel) rfl hd (by decide) rfl hsum dec hT
theorem gc_X10_361 {x : GX} {cc : ByteArray} {nL d pc : Nat} {M : GM} {lv : List (Nat × Value)} {st : List Value} (X : GC x cc nL RX10 d) {i0 : Int64} {i1 : Int32} {M1 : GM} {r : Int64} (ht : gT 0 = 10) (hM : gMet (xl x) (xz x) yX10_digestPane cX10_digestPane 9 (some .long) 8 [.ref (gad (xz x) 0), .long i0, .int i1] M (some (.long r)) M1) (hd : 9 ≤ d) (hsum : (st.map fun v => v.category).sum ≤ 8) (dec : decode cc pc = .ok (.invokevirtual 361, 3)) (go : WG x M1 lv (pc + 3) (.long r :: st)) : WG x M lv pc (.int i1 :: .long i0 :: .ref (gad (xz x) 0) :: st) := g_callV X (n := 2) (As := [.long i0, .int i1]) (rest := st) hM ht (by decide) (gE_10 ht) rfl q_443 q_445 q_12 q_17 q_446 (by decide +kernel) rfl hd (by decide) rfl hsum dec go
theorem gx_X10_361 {x : GX} {cc : ByteArray} {nL d pc : Nat} {M : GM} {lv : List (Nat × Value)} {st : List Value} (X : GC x cc nL RX10 d) {i0 : Int64} {i1 : Int32} {M1 : GM} {n9 : Nat} (ht : gT 0 = 10) (hM : gMetX (xl x) (xz x) yX10_digestPane cX10_digestPane 9 (some .long) 8 [.ref (gad (xz x) 0), .long i0, .int i1] M n9 M1) (hd : 9 ≤ d) (hsum : (st.map fun v => v.category).sum ≤ 8) (dec : decode cc pc = .ok (.invokevirtual 361, 3)) (hT : GThr x n9 M1) : WG x M lv pc (.int i1 :: .long i0 :: .ref (gad (xz x) 0) :: st) := g_xV X (n := 2) (As := [.long i0, .int i1]) (rest := st) hM ht (by decide) (gE_10 ht) rfl q_443 q_445 q_12 q_17 q_446 (by decide +kernel) rfl hd (by decide) rfl hsum dec hT
theorem gc_X10_365 {x : GX} {cc : ByteArray} {nL d pc : Nat} {M : GM} {lv : List (Nat × Value)} {st : List Value} (X : GC x cc nL RX10 d)  {M1 : GM} {r : Int32} (ht : gT 0 = 10) (hM : gMet (xl x) (xz x) yX10_colours cX10_colours 5 (some .int) 2 [.ref (gad (xz x) 0)] M (some (.int r)) M1) (hd : 3 ≤ d) (hsum : (st.map fun v => v.category).sum ≤ 8) (dec : decode cc pc = .ok (.invokevirtual 365, 3)) (go : WG x M1 lv (pc + 3) (.int r :: st)) : WG x M lv pc (.ref (gad (xz x) 0) :: st) := g_callV X (n := 0) (As := []) (rest := st) hM ht (by decide) (gE_10 ht) rfl q_464 q_396 q_397 q_17 q_398 (by decide +kernel) rfl hd (by decide) rfl hsum dec go
theorem gc_X10_367 {x : GX} {cc : ByteArray} {nL d pc : Nat} {M : GM} {lv : List (Nat × Value)} {st : List Value} (X : GC x cc nL RX10 d) {i0 : Int32} {i1 : Int32} {M1 : GM} {r : Int32} (ht : gT 0 = 10) (hM : gMet (xl x) (xz x) yX10_colourAt cX10_colourAt 3 (some .int) 7 [.ref (gad (xz x) 0), .int i0, .int i1] M (some (.int r)) M1) (hd : 8 ≤ d) (hsum : (st.map fun v => v.category).sum ≤ 8) (dec : decode cc pc = .ok (.invokevirtual 367, 3)) (go : WG x M1 lv (pc + 3) (.int r :: st)) : WG x M lv pc (.int i1 :: .int i0 :: .ref (gad (xz x) 0) :: st) := g_callV X (n := 2) (As := [.int i0, .int i1]) (rest := st) hM ht (by decide) (gE_10 ht) rfl q_465 q_380 q_381 q_17 q_382 (by decide +kernel) rfl hd (by decide) rfl hsum dec go
theorem gx_X10_367 {x : GX} {cc : ByteArray} {nL d pc : Nat} {M : GM} {lv : List (Nat × Value)} {st : List Value} (X : GC x cc nL RX10 d) {i0 : Int32} {i1 : Int32} {M1 : GM} {n9 : Nat} (ht : gT 0 = 10) (hM : gMetX (xl x) (xz x) yX10_colourAt cX10_colourAt 3 (some .int) 7 [.ref (gad (xz x) 0), .int i0, .int i1] M n9 M1) (hd : 8 ≤ d) (hsum : (st.map fun v => v.category).sum ≤ 8) (dec : decode cc pc = .ok (.invokevirtual 367, 3)) (hT : GThr x n9 M1) : WG x M lv pc (.int i1 :: .int i0 :: .ref (gad (xz x) 0) :: st) := g_xV X (n := 2) (As := [.int i0, .int i1]) (rest := st) hM ht (by decide) (gE_10 ht) rfl q_465 q_380 q_381 q_17 q_382 (by decide +kernel) rfl hd (by decide) rfl hsum dec hT
theorem gc_X10_370 {x : GX} {cc : ByteArray} {nL d pc : Nat} {M : GM} {lv : List (Nat × Value)} {st : List Value} (X : GC x cc nL RX10 d) {i0 : Int32} {i1 : Int32} {M1 : GM} {r : Int32} (ht : gT 0 = 10) (hM : gMet (xl x) (xz x) yX10_depthAt cX10_depthAt 3 (some .int) 7 [.ref (gad (xz x) 0), .int i0, .int i1] M (some (.int r)) M1) (hd : 8 ≤ d) (hsum : (st.map fun v => v.category).sum ≤ 8) (dec : decode cc pc = .ok (.invokevirtual 370, 3)) (go : WG x M1 lv (pc + 3) (.int r :: st)) : WG x M lv pc (.int i1 :: .int i0 :: .ref (gad (xz x) 0) :: st) := g_callV X (n := 2) (As := [.int i0, .int i1]) (rest := st) hM ht (by decide) (gE_10 ht) rfl q_466 q_384 q_385 q_17 q_386 (by decide +kernel) rfl hd (by decide) rfl hsum dec go
theorem gx_X10_370 {x : GX} {cc : ByteArray} {nL d pc : Nat} {M : GM} {lv : List (Nat × Value)} {st : List Value} (X : GC x cc nL RX10 d) {i0 : Int32} {i1 : Int32} {M1 : GM} {n9 : Nat} (ht : gT 0 = 10) (hM : gMetX (xl x) (xz x) yX10_depthAt cX10_depthAt 3 (some .int) 7 [.ref (gad (xz x) 0), .int i0, .int i1] M n9 M1) (hd : 8 ≤ d) (hsum : (st.map fun v => v.category).sum ≤ 8) (dec : decode cc pc = .ok (.invokevirtual 370, 3)) (hT : GThr x n9 M1) : WG x M lv pc (.int i1 :: .int i0 :: .ref (gad (xz x) 0) :: st) := g_xV X (n := 2) (As := [.int i0, .int i1]) (rest := st) hM ht (by decide) (gE_10 ht) rfl q_466 q_384 q_385 q_17 q_386 (by decide +kernel) rfl hd (by decide) rfl hsum dec hT
theorem gc_X10_373 {x : GX} {cc : ByteArray} {nL d pc : Nat} {M : GM} {lv : List (Nat × Value)} {st : List Value} (X : GC x cc nL RX10 d) {i0 : Int32} {i1 : Int32} {M1 : GM} {r : Int32} (ht : gT 0 = 10) (hM : gMet (xl x) (xz x) yX10_paneAt cX10_paneAt 3 (some .int) 7 [.ref (gad (xz x) 0), .int i0, .int i1] M (some (.int r)) M1) (hd : 8 ≤ d) (hsum : (st.map fun v => v.category).sum ≤ 8) (dec : decode cc pc = .ok (.invokevirtual 373, 3)) (go : WG x M1 lv (pc + 3) (.int r :: st)) : WG x M lv pc (.int i1 :: .int i0 :: .ref (gad (xz x) 0) :: st) := g_callV X (n := 2) (As := [.int i0, .int i1]) (rest := st) hM ht (by decide) (gE_10 ht) rfl q_467 q_388 q_389 q_17 q_390 (by decide +kernel) rfl hd (by decide) rfl hsum dec go
theorem gx_X10_373 {x : GX} {cc : ByteArray} {nL d pc : Nat} {M : GM} {lv : List (Nat × Value)} {st : List Value} (X : GC x cc nL RX10 d) {i0 : Int32} {i1 : Int32} {M1 : GM} {n9 : Nat} (ht : gT 0 = 10) (hM : gMetX (xl x) (xz x) yX10_paneAt cX10_paneAt 3 (some .int) 7 [.ref (gad (xz x) 0), .int i0, .int i1] M n9 M1) (hd : 8 ≤ d) (hsum : (st.map fun v => v.category).sum ≤ 8) (dec : decode cc pc = .ok (.invokevirtual 373, 3)) (hT : GThr x n9 M1) : WG x M lv pc (.int i1 :: .int i0 :: .ref (gad (xz x) 0) :: st) := g_xV X (n := 2) (As := [.int i0, .int i1]) (rest := st) hM ht (by decide) (gE_10 ht) rfl q_467 q_388 q_389 q_17 q_390 (by decide +kernel) rfl hd (by decide) rfl hsum dec hT
theorem dX10_digest_0 : decode cX10_digest 0 = .ok (.ldc2_w 349, 3) := by decide +kernel
theorem dX10_digest_3 : decode cX10_digest 3 = .ok (.lstore_n 1, 1) := by decide +kernel
theorem dX10_digest_4 : decode cX10_digest 4 = .ok (.lload_n 1, 1) := by decide +kernel
theorem dX10_digest_5 : decode cX10_digest 5 = .ok (.ldc2_w 351, 3) := by decide +kernel
theorem dX10_digest_8 : decode cX10_digest 8 = .ok (.lmul, 1) := by decide +kernel
theorem dX10_digest_9 : decode cX10_digest 9 = .ok (.aload_n 0, 1) := by decide +kernel
theorem dX10_digest_10 : decode cX10_digest 10 = .ok (.invokevirtual 353, 3) := by decide +kernel
theorem dX10_digest_13 : decode cX10_digest 13 = .ok (.i2l, 1) := by decide +kernel
theorem dX10_digest_14 : decode cX10_digest 14 = .ok (.ladd, 1) := by decide +kernel
theorem dX10_digest_15 : decode cX10_digest 15 = .ok (.lstore_n 1, 1) := by decide +kernel
theorem dX10_digest_16 : decode cX10_digest 16 = .ok (.lload_n 1, 1) := by decide +kernel
theorem dX10_digest_17 : decode cX10_digest 17 = .ok (.ldc2_w 351, 3) := by decide +kernel
theorem dX10_digest_20 : decode cX10_digest 20 = .ok (.lmul, 1) := by decide +kernel
theorem dX10_digest_21 : decode cX10_digest 21 = .ok (.aload_n 0, 1) := by decide +kernel
theorem dX10_digest_22 : decode cX10_digest 22 = .ok (.invokevirtual 356, 3) := by decide +kernel
theorem dX10_digest_25 : decode cX10_digest 25 = .ok (.i2l, 1) := by decide +kernel
theorem dX10_digest_26 : decode cX10_digest 26 = .ok (.ladd, 1) := by decide +kernel
theorem dX10_digest_27 : decode cX10_digest 27 = .ok (.lstore_n 1, 1) := by decide +kernel
theorem dX10_digest_28 : decode cX10_digest 28 = .ok (.aload_n 0, 1) := by decide +kernel
theorem dX10_digest_29 : decode cX10_digest 29 = .ok (.aload_n 0, 1) := by decide +kernel
theorem dX10_digest_30 : decode cX10_digest 30 = .ok (.getfield 48, 3) := by decide +kernel
theorem dX10_digest_33 : decode cX10_digest 33 = .ok (.aload_n 0, 1) := by decide +kernel
theorem dX10_digest_34 : decode cX10_digest 34 = .ok (.getfield 68, 3) := by decide +kernel
theorem dX10_digest_37 : decode cX10_digest 37 = .ok (.iconst (-1), 1) := by decide +kernel
theorem dX10_digest_38 : decode cX10_digest 38 = .ok (.invokevirtual 286, 3) := by decide +kernel
theorem dX10_digest_41 : decode cX10_digest 41 = .ok (.lload_n 1, 1) := by decide +kernel
theorem dX10_digest_42 : decode cX10_digest 42 = .ok (.ldc2_w 351, 3) := by decide +kernel
theorem dX10_digest_45 : decode cX10_digest 45 = .ok (.lmul, 1) := by decide +kernel
theorem dX10_digest_46 : decode cX10_digest 46 = .ok (.aload_n 0, 1) := by decide +kernel
theorem dX10_digest_47 : decode cX10_digest 47 = .ok (.invokevirtual 290, 3) := by decide +kernel
theorem dX10_digest_50 : decode cX10_digest 50 = .ok (.i2l, 1) := by decide +kernel
theorem dX10_digest_51 : decode cX10_digest 51 = .ok (.ladd, 1) := by decide +kernel
theorem dX10_digest_52 : decode cX10_digest 52 = .ok (.lstore_n 1, 1) := by decide +kernel
theorem dX10_digest_53 : decode cX10_digest 53 = .ok (.iconst 0, 1) := by decide +kernel
theorem dX10_digest_54 : decode cX10_digest 54 = .ok (.istore_n 3, 1) := by decide +kernel
theorem dX10_digest_55 : decode cX10_digest 55 = .ok (.iload_n 3, 1) := by decide +kernel
theorem dX10_digest_56 : decode cX10_digest 56 = .ok (.aload_n 0, 1) := by decide +kernel
theorem dX10_digest_57 : decode cX10_digest 57 = .ok (.getfield 97, 3) := by decide +kernel
theorem dX10_digest_60 : decode cX10_digest 60 = .ok (.if_icmp .ge 39, 3) := by decide +kernel
theorem dX10_digest_63 : decode cX10_digest 63 = .ok (.iconst 0, 1) := by decide +kernel
theorem dX10_digest_64 : decode cX10_digest 64 = .ok (.istore 4, 2) := by decide +kernel
theorem dX10_digest_66 : decode cX10_digest 66 = .ok (.iload 4, 2) := by decide +kernel
theorem dX10_digest_68 : decode cX10_digest 68 = .ok (.iconst 3, 1) := by decide +kernel
theorem dX10_digest_69 : decode cX10_digest 69 = .ok (.if_icmp .ge 24, 3) := by decide +kernel
theorem dX10_digest_72 : decode cX10_digest 72 = .ok (.lload_n 1, 1) := by decide +kernel
theorem dX10_digest_73 : decode cX10_digest 73 = .ok (.ldc2_w 351, 3) := by decide +kernel
theorem dX10_digest_76 : decode cX10_digest 76 = .ok (.lmul, 1) := by decide +kernel
theorem dX10_digest_77 : decode cX10_digest 77 = .ok (.aload_n 0, 1) := by decide +kernel
theorem dX10_digest_78 : decode cX10_digest 78 = .ok (.iload_n 3, 1) := by decide +kernel
theorem dX10_digest_79 : decode cX10_digest 79 = .ok (.iload 4, 2) := by decide +kernel
theorem dX10_digest_81 : decode cX10_digest 81 = .ok (.invokevirtual 358, 3) := by decide +kernel
theorem dX10_digest_84 : decode cX10_digest 84 = .ok (.i2l, 1) := by decide +kernel
theorem dX10_digest_85 : decode cX10_digest 85 = .ok (.ladd, 1) := by decide +kernel
theorem dX10_digest_86 : decode cX10_digest 86 = .ok (.lstore_n 1, 1) := by decide +kernel
theorem dX10_digest_87 : decode cX10_digest 87 = .ok (.iinc 4 1, 3) := by decide +kernel
theorem dX10_digest_90 : decode cX10_digest 90 = .ok (.goto (-24), 3) := by decide +kernel
theorem dX10_digest_93 : decode cX10_digest 93 = .ok (.iinc 3 1, 3) := by decide +kernel
theorem dX10_digest_96 : decode cX10_digest 96 = .ok (.goto (-41), 3) := by decide +kernel
theorem dX10_digest_99 : decode cX10_digest 99 = .ok (.iconst 0, 1) := by decide +kernel
theorem dX10_digest_100 : decode cX10_digest 100 = .ok (.istore_n 3, 1) := by decide +kernel
theorem dX10_digest_101 : decode cX10_digest 101 = .ok (.iload_n 3, 1) := by decide +kernel
theorem dX10_digest_102 : decode cX10_digest 102 = .ok (.aload_n 0, 1) := by decide +kernel
theorem dX10_digest_103 : decode cX10_digest 103 = .ok (.getfield 121, 3) := by decide +kernel
theorem dX10_digest_106 : decode cX10_digest 106 = .ok (.if_icmp .ge 16, 3) := by decide +kernel
theorem dX10_digest_109 : decode cX10_digest 109 = .ok (.aload_n 0, 1) := by decide +kernel
theorem dX10_digest_110 : decode cX10_digest 110 = .ok (.lload_n 1, 1) := by decide +kernel
theorem dX10_digest_111 : decode cX10_digest 111 = .ok (.iload_n 3, 1) := by decide +kernel
theorem dX10_digest_112 : decode cX10_digest 112 = .ok (.invokevirtual 361, 3) := by decide +kernel
theorem dX10_digest_115 : decode cX10_digest 115 = .ok (.lstore_n 1, 1) := by decide +kernel
theorem dX10_digest_116 : decode cX10_digest 116 = .ok (.iinc 3 1, 3) := by decide +kernel
theorem dX10_digest_119 : decode cX10_digest 119 = .ok (.goto (-18), 3) := by decide +kernel
theorem dX10_digest_122 : decode cX10_digest 122 = .ok (.lload_n 1, 1) := by decide +kernel
theorem dX10_digest_123 : decode cX10_digest 123 = .ok (.ldc2_w 351, 3) := by decide +kernel
theorem dX10_digest_126 : decode cX10_digest 126 = .ok (.lmul, 1) := by decide +kernel
theorem dX10_digest_127 : decode cX10_digest 127 = .ok (.aload_n 0, 1) := by decide +kernel
theorem dX10_digest_128 : decode cX10_digest 128 = .ok (.invokevirtual 365, 3) := by decide +kernel
theorem dX10_digest_131 : decode cX10_digest 131 = .ok (.i2l, 1) := by decide +kernel
theorem dX10_digest_132 : decode cX10_digest 132 = .ok (.ladd, 1) := by decide +kernel
theorem dX10_digest_133 : decode cX10_digest 133 = .ok (.lstore_n 1, 1) := by decide +kernel
theorem dX10_digest_134 : decode cX10_digest 134 = .ok (.iconst 0, 1) := by decide +kernel
theorem dX10_digest_135 : decode cX10_digest 135 = .ok (.istore_n 3, 1) := by decide +kernel
theorem dX10_digest_136 : decode cX10_digest 136 = .ok (.iload_n 3, 1) := by decide +kernel
theorem dX10_digest_137 : decode cX10_digest 137 = .ok (.bipush 24, 2) := by decide +kernel
theorem dX10_digest_139 : decode cX10_digest 139 = .ok (.if_icmp .ge 70, 3) := by decide +kernel
theorem dX10_digest_142 : decode cX10_digest 142 = .ok (.iconst 0, 1) := by decide +kernel
theorem dX10_digest_143 : decode cX10_digest 143 = .ok (.istore 4, 2) := by decide +kernel
theorem dX10_digest_145 : decode cX10_digest 145 = .ok (.iload 4, 2) := by decide +kernel
theorem dX10_digest_147 : decode cX10_digest 147 = .ok (.bipush 40, 2) := by decide +kernel
theorem dX10_digest_149 : decode cX10_digest 149 = .ok (.if_icmp .ge 54, 3) := by decide +kernel
theorem dX10_digest_152 : decode cX10_digest 152 = .ok (.lload_n 1, 1) := by decide +kernel
theorem dX10_digest_153 : decode cX10_digest 153 = .ok (.ldc2_w 351, 3) := by decide +kernel
theorem dX10_digest_156 : decode cX10_digest 156 = .ok (.lmul, 1) := by decide +kernel
theorem dX10_digest_157 : decode cX10_digest 157 = .ok (.aload_n 0, 1) := by decide +kernel
theorem dX10_digest_158 : decode cX10_digest 158 = .ok (.iload 4, 2) := by decide +kernel
theorem dX10_digest_160 : decode cX10_digest 160 = .ok (.iload_n 3, 1) := by decide +kernel
theorem dX10_digest_161 : decode cX10_digest 161 = .ok (.invokevirtual 367, 3) := by decide +kernel
theorem dX10_digest_164 : decode cX10_digest 164 = .ok (.i2l, 1) := by decide +kernel
theorem dX10_digest_165 : decode cX10_digest 165 = .ok (.ladd, 1) := by decide +kernel
theorem dX10_digest_166 : decode cX10_digest 166 = .ok (.lstore_n 1, 1) := by decide +kernel
theorem dX10_digest_167 : decode cX10_digest 167 = .ok (.lload_n 1, 1) := by decide +kernel
theorem dX10_digest_168 : decode cX10_digest 168 = .ok (.ldc2_w 351, 3) := by decide +kernel
theorem dX10_digest_171 : decode cX10_digest 171 = .ok (.lmul, 1) := by decide +kernel
theorem dX10_digest_172 : decode cX10_digest 172 = .ok (.aload_n 0, 1) := by decide +kernel
theorem dX10_digest_173 : decode cX10_digest 173 = .ok (.iload 4, 2) := by decide +kernel
theorem dX10_digest_175 : decode cX10_digest 175 = .ok (.iload_n 3, 1) := by decide +kernel
theorem dX10_digest_176 : decode cX10_digest 176 = .ok (.invokevirtual 370, 3) := by decide +kernel
theorem dX10_digest_179 : decode cX10_digest 179 = .ok (.i2l, 1) := by decide +kernel
theorem dX10_digest_180 : decode cX10_digest 180 = .ok (.ladd, 1) := by decide +kernel
theorem dX10_digest_181 : decode cX10_digest 181 = .ok (.lstore_n 1, 1) := by decide +kernel
theorem dX10_digest_182 : decode cX10_digest 182 = .ok (.lload_n 1, 1) := by decide +kernel
theorem dX10_digest_183 : decode cX10_digest 183 = .ok (.ldc2_w 351, 3) := by decide +kernel
theorem dX10_digest_186 : decode cX10_digest 186 = .ok (.lmul, 1) := by decide +kernel
theorem dX10_digest_187 : decode cX10_digest 187 = .ok (.aload_n 0, 1) := by decide +kernel
theorem dX10_digest_188 : decode cX10_digest 188 = .ok (.iload 4, 2) := by decide +kernel
theorem dX10_digest_190 : decode cX10_digest 190 = .ok (.iload_n 3, 1) := by decide +kernel
theorem dX10_digest_191 : decode cX10_digest 191 = .ok (.invokevirtual 373, 3) := by decide +kernel
theorem dX10_digest_194 : decode cX10_digest 194 = .ok (.i2l, 1) := by decide +kernel
theorem dX10_digest_195 : decode cX10_digest 195 = .ok (.ladd, 1) := by decide +kernel
theorem dX10_digest_196 : decode cX10_digest 196 = .ok (.lstore_n 1, 1) := by decide +kernel
theorem dX10_digest_197 : decode cX10_digest 197 = .ok (.iinc 4 1, 3) := by decide +kernel
theorem dX10_digest_200 : decode cX10_digest 200 = .ok (.goto (-55), 3) := by decide +kernel
theorem dX10_digest_203 : decode cX10_digest 203 = .ok (.iinc 3 1, 3) := by decide +kernel
theorem dX10_digest_206 : decode cX10_digest 206 = .ok (.goto (-70), 3) := by decide +kernel
theorem dX10_digest_209 : decode cX10_digest 209 = .ok (.lload_n 1, 1) := by decide +kernel
theorem dX10_digest_210 : decode cX10_digest 210 = .ok (.lreturn, 1) := by decide +kernel
def st_X10_digest_66 (F : Nat) (a21 : Int32) (rec : Int64 → Int32 → GM → Option ((Int64 × GM) ⊕ ((Nat × GM) ⊕ (Int64 × GM)))) (b20 : Int64) (a22 : Int32) (M : GM) : Option ((Int64 × GM) ⊕ ((Nat × GM) ⊕ (Int64 × GM))) := if (3 : Int32) ≤ a22 then (some (Sum.inl (b20, M))) else (bndT (f_X10_seen F a21 a22 M) (fun n25 => some (Sum.inr (Sum.inl (n25, M)))) (fun v24 => bnd ((b20 * (31 : Int64)) + v24.toInt64) (fun w26 => bnd (a22 + (1 : Int32)) (fun v28 => rec w26 v28 M))))
def lp_X10_digest_66 (F : Nat) (a21 : Int32) : Nat → Int64 → Int32 → GM → Option ((Int64 × GM) ⊕ ((Nat × GM) ⊕ (Int64 × GM)))
  | 0 => fun _ _ _ => none
  | f + 1 => fun b20 a22 M => st_X10_digest_66 F a21 (lp_X10_digest_66 F a21 f) b20 a22 M
set_option maxHeartbeats 4000000 in
set_option maxRecDepth 100000 in
theorem lw_X10_digest_66 {x : GX} (X : GC x cX10_digest 5 RX10 9) {a21 : Int32}  {F : Nat} {r9 : ((Int64 × GM) ⊕ ((Nat × GM) ⊕ (Int64 × GM)))} (hR : ∀ (v9 : Int64) (M9 : GM) (lv9 : List (Nat × Value)) (pc9 : Nat), r9 = Sum.inr (Sum.inr (v9, M9)) → decode cX10_digest pc9 = .ok (.lreturn, 1) → WG x M9 lv9 pc9 [.long v9]) (hX : ∀ (n9 : Nat) (M9 : GM), r9 = Sum.inr (Sum.inl (n9, M9)) → GThr x n9 M9) (hE : ∀ (x1_9 : Int64) (M9 : GM), r9 = Sum.inl (x1_9, M9) → WG x M9 [(0, .ref (gad (xz x) 0)), (1, .long x1_9), (3, .int a21)] 93 []) : ∀ (f : Nat) (b20 : Int64) (a22 : Int32) (M : GM), lp_X10_digest_66 F a21 f b20 a22 M = some r9 → WG x M [(0, .ref (gad (xz x) 0)), (1, .long b20), (3, .int a21), (4, .int a22)] 66 [] := by
  intro f
  induction f with
  | zero => intro b20 a22 M h; cases h
  | succ f ih =>
    intro b20 a22 M h
    have hrec := ih
    have h : st_X10_digest_66 F a21 (lp_X10_digest_66 F a21 f) b20 a22 M = some r9 := h
    generalize lp_X10_digest_66 F a21 f = rec at h hrec
    unfold st_X10_digest_66 at h
    refine g_iload X (j := 3) dX10_digest_66 rfl ?_
    refine g_iconst X (v := 3) dX10_digest_68 (by decide) ?_
    refine g_icmp_ge X (tgt := 93) dX10_digest_69 (by decide) (fun hb => ?_) (fun hb => ?_)
    · have h := ite_t hb h
      refine g_lv [0, 1, 2] rfl ?_
      exact hE b20 M (Option.some.inj h).symm
    · have h := ite_f hb h
      refine g_lload_n X (j := 1) dX10_digest_72 rfl rfl ?_
      refine g_ldc2 X q_425 dX10_digest_73 ?_
      refine g_lmul X dX10_digest_76 ?_
      refine g_aload_n X (j := 0) dX10_digest_77 rfl rfl ?_
      refine g_iload_n X (j := 2) dX10_digest_78 rfl rfl ?_
      refine g_iload X (j := 3) dX10_digest_79 rfl ?_
      rcases bndT_e h with ⟨n25, hc23, h⟩ | ⟨v24, hc23, h⟩
      · exact gx_X10_358 X gT_c0 (cx_X10_seen X.htr  hc23) (by decide) (Nat.le_of_ble_eq_true rfl) dX10_digest_81 (hX n25 M (Option.some.inj h).symm)
      refine gc_X10_358 X gT_c0 (ct_X10_seen X.htr  hc23) (by decide) (Nat.le_of_ble_eq_true rfl) dX10_digest_81 ?_
      refine g_i2l X dX10_digest_84 ?_
      refine g_ladd X dX10_digest_85 ?_
      refine g_topl (fun w26 e27 => ?_)
      have h := bnd_e e27 h
      refine g_lstore_n X (lv' := [(1, .long w26), (0, .ref (gad (xz x) 0)), (3, .int a21), (4, .int a22)]) dX10_digest_86 rfl (by decide) rfl ?_
      refine g_iinc X (j := 3) (w := a22 + (1 : Int32)) (lv' := [(1, .long w26), (0, .ref (gad (xz x) 0)), (3, .int a21)]) dX10_digest_87 rfl (by rw [ii_1]) (by decide) (fun _ => rfl) (fun v28 e29 => ?_)
      have h := bnd_e e29 h
      refine g_goto X (tgt := 66) dX10_digest_90 (by decide) ?_
      refine g_lv [2, 1, 3, 0] rfl ?_
      exact hrec w26 v28 M h
def st_X10_digest_55 (F : Nat)  (rec : Int64 → Int32 → GM → Option ((Int64 × GM) ⊕ ((Nat × GM) ⊕ (Int64 × GM)))) (b16 : Int64) (a17 : Int32) (M : GM) : Option ((Int64 × GM) ⊕ ((Nat × GM) ⊕ (Int64 × GM))) := if (gI M 0 12) ≤ a17 then (some (Sum.inl (b16, M))) else (bnd (0 : Int32) (fun v18 => bndT (lp_X10_digest_66 F a17 F b16 v18 M) (fun (w30, M31) => bnd (a17 + (1 : Int32)) (fun v34 => rec w30 v34 M31)) (fun r33 => some (Sum.inr r33))))
def lp_X10_digest_55 (F : Nat)  : Nat → Int64 → Int32 → GM → Option ((Int64 × GM) ⊕ ((Nat × GM) ⊕ (Int64 × GM)))
  | 0 => fun _ _ _ => none
  | f + 1 => fun b16 a17 M => st_X10_digest_55 F  (lp_X10_digest_55 F  f) b16 a17 M
set_option maxHeartbeats 4000000 in
set_option maxRecDepth 100000 in
theorem lw_X10_digest_55 {x : GX} (X : GC x cX10_digest 5 RX10 9)   {F : Nat} {r9 : ((Int64 × GM) ⊕ ((Nat × GM) ⊕ (Int64 × GM)))} (hR : ∀ (v9 : Int64) (M9 : GM) (lv9 : List (Nat × Value)) (pc9 : Nat), r9 = Sum.inr (Sum.inr (v9, M9)) → decode cX10_digest pc9 = .ok (.lreturn, 1) → WG x M9 lv9 pc9 [.long v9]) (hX : ∀ (n9 : Nat) (M9 : GM), r9 = Sum.inr (Sum.inl (n9, M9)) → GThr x n9 M9) (hE : ∀ (x1_9 : Int64) (M9 : GM), r9 = Sum.inl (x1_9, M9) → WG x M9 [(0, .ref (gad (xz x) 0)), (1, .long x1_9)] 99 []) : ∀ (f : Nat) (b16 : Int64) (a17 : Int32) (M : GM), lp_X10_digest_55 F  f b16 a17 M = some r9 → WG x M [(0, .ref (gad (xz x) 0)), (1, .long b16), (3, .int a17)] 55 [] := by
  intro f
  induction f with
  | zero => intro b16 a17 M h; cases h
  | succ f ih =>
    intro b16 a17 M h
    have hrec := ih
    have h : st_X10_digest_55 F  (lp_X10_digest_55 F  f) b16 a17 M = some r9 := h
    generalize lp_X10_digest_55 F  f = rec at h hrec
    unfold st_X10_digest_55 at h
    refine g_iload_n X (j := 2) dX10_digest_55 rfl rfl ?_
    refine g_aload_n X (j := 0) dX10_digest_56 rfl rfl ?_
    refine gf_X10_97 X gT_c0 dX10_digest_57 ?_
    refine g_icmp_ge X (tgt := 99) dX10_digest_60 (by decide) (fun hb => ?_) (fun hb => ?_)
    · have h := ite_t hb h
      refine g_lv [0, 1] rfl ?_
      exact hE b16 M (Option.some.inj h).symm
    · have h := ite_f hb h
      refine g_iconst X (v := 0) dX10_digest_63 (by decide) ?_
      refine g_topi (fun v18 e19 => ?_)
      have h := bnd_e e19 h
      refine g_istore X (lv' := [(4, .int v18), (0, .ref (gad (xz x) 0)), (1, .long b16), (3, .int a17)]) dX10_digest_64 (by decide) rfl ?_
      refine g_lv [1, 2, 3, 0] rfl ?_
      rcases bndT_e h with ⟨⟨w30, M31⟩, hl32, h⟩ | ⟨r33, hl32, h⟩
      · refine lw_X10_digest_66 X  (by intros; rename_i e9 _ ; cases e9) (by intros; rename_i e9; cases e9) (fun w30_ M31_  e9 => ?_) F b16 v18 M hl32
        cases e9
        refine g_iinc X (j := 2) (w := a17 + (1 : Int32)) (lv' := [(0, .ref (gad (xz x) 0)), (1, .long w30)]) dX10_digest_93 rfl (by rw [ii_1]) (by decide) (fun _ => rfl) (fun v34 e35 => ?_)
        have h := bnd_e e35 h
        refine g_goto X (tgt := 55) dX10_digest_96 (by decide) ?_
        refine g_lv [1, 2, 0] rfl ?_
        exact hrec w30 v34 M31 h
      · exact lw_X10_digest_66 X  (fun v9 M9 lv9 pc9 e9 d9 => by cases e9; exact hR _ _ lv9 pc9 (Option.some.inj h).symm d9) (fun n9 M9 e9 => by cases e9; exact hX _ _ (Option.some.inj h).symm) (by intros; rename_i e9; cases e9) F b16 v18 M hl32
def st_X10_digest_101 (F : Nat)  (rec : Int64 → Int32 → GM → Option ((Int64 × GM) ⊕ ((Nat × GM) ⊕ (Int64 × GM)))) (b42 : Int64) (a43 : Int32) (M : GM) : Option ((Int64 × GM) ⊕ ((Nat × GM) ⊕ (Int64 × GM))) := if (gI M 0 13) ≤ a43 then (some (Sum.inl (b42, M))) else (bndT (f_X10_digestPane F b42 a43 M) (fun (n47, M48) => some (Sum.inr (Sum.inl (n47, M48)))) (fun (w45, M46) => bnd w45 (fun w49 => bnd (a43 + (1 : Int32)) (fun v51 => rec w49 v51 M46))))
def lp_X10_digest_101 (F : Nat)  : Nat → Int64 → Int32 → GM → Option ((Int64 × GM) ⊕ ((Nat × GM) ⊕ (Int64 × GM)))
  | 0 => fun _ _ _ => none
  | f + 1 => fun b42 a43 M => st_X10_digest_101 F  (lp_X10_digest_101 F  f) b42 a43 M
set_option maxHeartbeats 4000000 in
set_option maxRecDepth 100000 in
theorem lw_X10_digest_101 {x : GX} (X : GC x cX10_digest 5 RX10 9)   {F : Nat} {r9 : ((Int64 × GM) ⊕ ((Nat × GM) ⊕ (Int64 × GM)))} (hR : ∀ (v9 : Int64) (M9 : GM) (lv9 : List (Nat × Value)) (pc9 : Nat), r9 = Sum.inr (Sum.inr (v9, M9)) → decode cX10_digest pc9 = .ok (.lreturn, 1) → WG x M9 lv9 pc9 [.long v9]) (hX : ∀ (n9 : Nat) (M9 : GM), r9 = Sum.inr (Sum.inl (n9, M9)) → GThr x n9 M9) (hE : ∀ (x1_9 : Int64) (M9 : GM), r9 = Sum.inl (x1_9, M9) → WG x M9 [(0, .ref (gad (xz x) 0)), (1, .long x1_9)] 122 []) : ∀ (f : Nat) (b42 : Int64) (a43 : Int32) (M : GM), lp_X10_digest_101 F  f b42 a43 M = some r9 → WG x M [(0, .ref (gad (xz x) 0)), (1, .long b42), (3, .int a43)] 101 [] := by
  intro f
  induction f with
  | zero => intro b42 a43 M h; cases h
  | succ f ih =>
    intro b42 a43 M h
    have hrec := ih
    have h : st_X10_digest_101 F  (lp_X10_digest_101 F  f) b42 a43 M = some r9 := h
    generalize lp_X10_digest_101 F  f = rec at h hrec
    unfold st_X10_digest_101 at h
    refine g_iload_n X (j := 2) dX10_digest_101 rfl rfl ?_
    refine g_aload_n X (j := 0) dX10_digest_102 rfl rfl ?_
    refine gf_X10_121 X gT_c0 dX10_digest_103 ?_
    refine g_icmp_ge X (tgt := 122) dX10_digest_106 (by decide) (fun hb => ?_) (fun hb => ?_)
    · have h := ite_t hb h
      refine g_lv [0, 1] rfl ?_
      exact hE b42 M (Option.some.inj h).symm
    · have h := ite_f hb h
      refine g_aload_n X (j := 0) dX10_digest_109 rfl rfl ?_
      refine g_lload_n X (j := 1) dX10_digest_110 rfl rfl ?_
      refine g_iload_n X (j := 2) dX10_digest_111 rfl rfl ?_
      rcases bndT_e h with ⟨⟨n47, M48⟩, hc44, h⟩ | ⟨⟨w45, M46⟩, hc44, h⟩
      · exact gx_X10_361 X gT_c0 (cx_X10_digestPane X.htr  hc44) (by decide) (Nat.le_of_ble_eq_true rfl) dX10_digest_112 (hX n47 M48 (Option.some.inj h).symm)
      refine gc_X10_361 X gT_c0 (ct_X10_digestPane X.htr  hc44) (by decide) (Nat.le_of_ble_eq_true rfl) dX10_digest_112 ?_
      refine g_topl (fun w49 e50 => ?_)
      have h := bnd_e e50 h
      refine g_lstore_n X (lv' := [(1, .long w49), (0, .ref (gad (xz x) 0)), (3, .int a43)]) dX10_digest_115 rfl (by decide) rfl ?_
      refine g_iinc X (j := 2) (w := a43 + (1 : Int32)) (lv' := [(1, .long w49), (0, .ref (gad (xz x) 0))]) dX10_digest_116 rfl (by rw [ii_1]) (by decide) (fun _ => rfl) (fun v51 e52 => ?_)
      have h := bnd_e e52 h
      refine g_goto X (tgt := 101) dX10_digest_119 (by decide) ?_
      refine g_lv [2, 1, 0] rfl ?_
      exact hrec w49 v51 M46 h
def st_X10_digest_145 (F : Nat) (a69 : Int32) (rec : Int64 → Int32 → GM → Option ((Int64 × GM) ⊕ ((Nat × GM) ⊕ (Int64 × GM)))) (b68 : Int64) (a70 : Int32) (M : GM) : Option ((Int64 × GM) ⊕ ((Nat × GM) ⊕ (Int64 × GM))) := if (40 : Int32) ≤ a70 then (some (Sum.inl (b68, M))) else (bndT (f_X10_colourAt F a70 a69 M) (fun n73 => some (Sum.inr (Sum.inl (n73, M)))) (fun v72 => bnd ((b68 * (31 : Int64)) + v72.toInt64) (fun w74 => bndT (f_X10_depthAt F a70 a69 M) (fun n78 => some (Sum.inr (Sum.inl (n78, M)))) (fun v77 => bnd ((w74 * (31 : Int64)) + v77.toInt64) (fun w79 => bndT (f_X10_paneAt F a70 a69 M) (fun n83 => some (Sum.inr (Sum.inl (n83, M)))) (fun v82 => bnd ((w79 * (31 : Int64)) + v82.toInt64) (fun w84 => bnd (a70 + (1 : Int32)) (fun v86 => rec w84 v86 M))))))))
def lp_X10_digest_145 (F : Nat) (a69 : Int32) : Nat → Int64 → Int32 → GM → Option ((Int64 × GM) ⊕ ((Nat × GM) ⊕ (Int64 × GM)))
  | 0 => fun _ _ _ => none
  | f + 1 => fun b68 a70 M => st_X10_digest_145 F a69 (lp_X10_digest_145 F a69 f) b68 a70 M
set_option maxHeartbeats 4000000 in
set_option maxRecDepth 100000 in
theorem lw_X10_digest_145 {x : GX} (X : GC x cX10_digest 5 RX10 9) {a69 : Int32}  {F : Nat} {r9 : ((Int64 × GM) ⊕ ((Nat × GM) ⊕ (Int64 × GM)))} (hR : ∀ (v9 : Int64) (M9 : GM) (lv9 : List (Nat × Value)) (pc9 : Nat), r9 = Sum.inr (Sum.inr (v9, M9)) → decode cX10_digest pc9 = .ok (.lreturn, 1) → WG x M9 lv9 pc9 [.long v9]) (hX : ∀ (n9 : Nat) (M9 : GM), r9 = Sum.inr (Sum.inl (n9, M9)) → GThr x n9 M9) (hE : ∀ (x1_9 : Int64) (M9 : GM), r9 = Sum.inl (x1_9, M9) → WG x M9 [(0, .ref (gad (xz x) 0)), (1, .long x1_9), (3, .int a69)] 203 []) : ∀ (f : Nat) (b68 : Int64) (a70 : Int32) (M : GM), lp_X10_digest_145 F a69 f b68 a70 M = some r9 → WG x M [(0, .ref (gad (xz x) 0)), (1, .long b68), (3, .int a69), (4, .int a70)] 145 [] := by
  intro f
  induction f with
  | zero => intro b68 a70 M h; cases h
  | succ f ih =>
    intro b68 a70 M h
    have hrec := ih
    have h : st_X10_digest_145 F a69 (lp_X10_digest_145 F a69 f) b68 a70 M = some r9 := h
    generalize lp_X10_digest_145 F a69 f = rec at h hrec
    unfold st_X10_digest_145 at h
    refine g_iload X (j := 3) dX10_digest_145 rfl ?_
    refine g_bipush X (v := 40) dX10_digest_147 (by decide) ?_
    refine g_icmp_ge X (tgt := 203) dX10_digest_149 (by decide) (fun hb => ?_) (fun hb => ?_)
    · have h := ite_t hb h
      refine g_lv [0, 1, 2] rfl ?_
      exact hE b68 M (Option.some.inj h).symm
    · have h := ite_f hb h
      refine g_lload_n X (j := 1) dX10_digest_152 rfl rfl ?_
      refine g_ldc2 X q_425 dX10_digest_153 ?_
      refine g_lmul X dX10_digest_156 ?_
      refine g_aload_n X (j := 0) dX10_digest_157 rfl rfl ?_
      refine g_iload X (j := 3) dX10_digest_158 rfl ?_
      refine g_iload_n X (j := 2) dX10_digest_160 rfl rfl ?_
      rcases bndT_e h with ⟨n73, hc71, h⟩ | ⟨v72, hc71, h⟩
      · exact gx_X10_367 X gT_c0 (cx_X10_colourAt X.htr  hc71) (by decide) (Nat.le_of_ble_eq_true rfl) dX10_digest_161 (hX n73 M (Option.some.inj h).symm)
      refine gc_X10_367 X gT_c0 (ct_X10_colourAt X.htr  hc71) (by decide) (Nat.le_of_ble_eq_true rfl) dX10_digest_161 ?_
      refine g_i2l X dX10_digest_164 ?_
      refine g_ladd X dX10_digest_165 ?_
      refine g_topl (fun w74 e75 => ?_)
      have h := bnd_e e75 h
      refine g_lstore_n X (lv' := [(1, .long w74), (0, .ref (gad (xz x) 0)), (3, .int a69), (4, .int a70)]) dX10_digest_166 rfl (by decide) rfl ?_
      refine g_lload_n X (j := 0) dX10_digest_167 rfl rfl ?_
      refine g_ldc2 X q_425 dX10_digest_168 ?_
      refine g_lmul X dX10_digest_171 ?_
      refine g_aload_n X (j := 1) dX10_digest_172 rfl rfl ?_
      refine g_iload X (j := 3) dX10_digest_173 rfl ?_
      refine g_iload_n X (j := 2) dX10_digest_175 rfl rfl ?_
      rcases bndT_e h with ⟨n78, hc76, h⟩ | ⟨v77, hc76, h⟩
      · exact gx_X10_370 X gT_c0 (cx_X10_depthAt X.htr  hc76) (by decide) (Nat.le_of_ble_eq_true rfl) dX10_digest_176 (hX n78 M (Option.some.inj h).symm)
      refine gc_X10_370 X gT_c0 (ct_X10_depthAt X.htr  hc76) (by decide) (Nat.le_of_ble_eq_true rfl) dX10_digest_176 ?_
      refine g_i2l X dX10_digest_179 ?_
      refine g_ladd X dX10_digest_180 ?_
      refine g_topl (fun w79 e80 => ?_)
      have h := bnd_e e80 h
      refine g_lstore_n X (lv' := [(1, .long w79), (0, .ref (gad (xz x) 0)), (3, .int a69), (4, .int a70)]) dX10_digest_181 rfl (by decide) rfl ?_
      refine g_lload_n X (j := 0) dX10_digest_182 rfl rfl ?_
      refine g_ldc2 X q_425 dX10_digest_183 ?_
      refine g_lmul X dX10_digest_186 ?_
      refine g_aload_n X (j := 1) dX10_digest_187 rfl rfl ?_
      refine g_iload X (j := 3) dX10_digest_188 rfl ?_
      refine g_iload_n X (j := 2) dX10_digest_190 rfl rfl ?_
      rcases bndT_e h with ⟨n83, hc81, h⟩ | ⟨v82, hc81, h⟩
      · exact gx_X10_373 X gT_c0 (cx_X10_paneAt X.htr  hc81) (by decide) (Nat.le_of_ble_eq_true rfl) dX10_digest_191 (hX n83 M (Option.some.inj h).symm)
      refine gc_X10_373 X gT_c0 (ct_X10_paneAt X.htr  hc81) (by decide) (Nat.le_of_ble_eq_true rfl) dX10_digest_191 ?_
      refine g_i2l X dX10_digest_194 ?_
      refine g_ladd X dX10_digest_195 ?_
      refine g_topl (fun w84 e85 => ?_)
      have h := bnd_e e85 h
      refine g_lstore_n X (lv' := [(1, .long w84), (0, .ref (gad (xz x) 0)), (3, .int a69), (4, .int a70)]) dX10_digest_196 rfl (by decide) rfl ?_
      refine g_iinc X (j := 3) (w := a70 + (1 : Int32)) (lv' := [(1, .long w84), (0, .ref (gad (xz x) 0)), (3, .int a69)]) dX10_digest_197 rfl (by rw [ii_1]) (by decide) (fun _ => rfl) (fun v86 e87 => ?_)
      have h := bnd_e e87 h
      refine g_goto X (tgt := 145) dX10_digest_200 (by decide) ?_
      refine g_lv [2, 1, 3, 0] rfl ?_
      exact hrec w84 v86 M h
def st_X10_digest_136 (F : Nat)  (rec : Int64 → Int32 → GM → Option ((Int64 × GM) ⊕ ((Nat × GM) ⊕ (Int64 × GM)))) (b64 : Int64) (a65 : Int32) (M : GM) : Option ((Int64 × GM) ⊕ ((Nat × GM) ⊕ (Int64 × GM))) := if (24 : Int32) ≤ a65 then (some (Sum.inl (b64, M))) else (bnd (0 : Int32) (fun v66 => bndT (lp_X10_digest_145 F a65 F b64 v66 M) (fun (w88, M89) => bnd (a65 + (1 : Int32)) (fun v92 => rec w88 v92 M89)) (fun r91 => some (Sum.inr r91))))
def lp_X10_digest_136 (F : Nat)  : Nat → Int64 → Int32 → GM → Option ((Int64 × GM) ⊕ ((Nat × GM) ⊕ (Int64 × GM)))
  | 0 => fun _ _ _ => none
  | f + 1 => fun b64 a65 M => st_X10_digest_136 F  (lp_X10_digest_136 F  f) b64 a65 M
set_option maxHeartbeats 4000000 in
set_option maxRecDepth 100000 in
theorem lw_X10_digest_136 {x : GX} (X : GC x cX10_digest 5 RX10 9)   {F : Nat} {r9 : ((Int64 × GM) ⊕ ((Nat × GM) ⊕ (Int64 × GM)))} (hR : ∀ (v9 : Int64) (M9 : GM) (lv9 : List (Nat × Value)) (pc9 : Nat), r9 = Sum.inr (Sum.inr (v9, M9)) → decode cX10_digest pc9 = .ok (.lreturn, 1) → WG x M9 lv9 pc9 [.long v9]) (hX : ∀ (n9 : Nat) (M9 : GM), r9 = Sum.inr (Sum.inl (n9, M9)) → GThr x n9 M9) (hE : ∀ (x1_9 : Int64) (M9 : GM), r9 = Sum.inl (x1_9, M9) → WG x M9 [(1, .long x1_9)] 209 []) : ∀ (f : Nat) (b64 : Int64) (a65 : Int32) (M : GM), lp_X10_digest_136 F  f b64 a65 M = some r9 → WG x M [(0, .ref (gad (xz x) 0)), (1, .long b64), (3, .int a65)] 136 [] := by
  intro f
  induction f with
  | zero => intro b64 a65 M h; cases h
  | succ f ih =>
    intro b64 a65 M h
    have hrec := ih
    have h : st_X10_digest_136 F  (lp_X10_digest_136 F  f) b64 a65 M = some r9 := h
    generalize lp_X10_digest_136 F  f = rec at h hrec
    unfold st_X10_digest_136 at h
    refine g_iload_n X (j := 2) dX10_digest_136 rfl rfl ?_
    refine g_bipush X (v := 24) dX10_digest_137 (by decide) ?_
    refine g_icmp_ge X (tgt := 209) dX10_digest_139 (by decide) (fun hb => ?_) (fun hb => ?_)
    · have h := ite_t hb h
      refine g_lv [1] rfl ?_
      exact hE b64 M (Option.some.inj h).symm
    · have h := ite_f hb h
      refine g_iconst X (v := 0) dX10_digest_142 (by decide) ?_
      refine g_topi (fun v66 e67 => ?_)
      have h := bnd_e e67 h
      refine g_istore X (lv' := [(4, .int v66), (0, .ref (gad (xz x) 0)), (1, .long b64), (3, .int a65)]) dX10_digest_143 (by decide) rfl ?_
      refine g_lv [1, 2, 3, 0] rfl ?_
      rcases bndT_e h with ⟨⟨w88, M89⟩, hl90, h⟩ | ⟨r91, hl90, h⟩
      · refine lw_X10_digest_145 X  (by intros; rename_i e9 _ ; cases e9) (by intros; rename_i e9; cases e9) (fun w88_ M89_  e9 => ?_) F b64 v66 M hl90
        cases e9
        refine g_iinc X (j := 2) (w := a65 + (1 : Int32)) (lv' := [(0, .ref (gad (xz x) 0)), (1, .long w88)]) dX10_digest_203 rfl (by rw [ii_1]) (by decide) (fun _ => rfl) (fun v92 e93 => ?_)
        have h := bnd_e e93 h
        refine g_goto X (tgt := 136) dX10_digest_206 (by decide) ?_
        refine g_lv [1, 2, 0] rfl ?_
        exact hrec w88 v92 M89 h
      · exact lw_X10_digest_145 X  (fun v9 M9 lv9 pc9 e9 d9 => by cases e9; exact hR _ _ lv9 pc9 (Option.some.inj h).symm d9) (fun n9 M9 e9 => by cases e9; exact hX _ _ (Option.some.inj h).symm) (by intros; rename_i e9; cases e9) F b64 v66 M hl90
def f_X10_digest (F : Nat) (M : GM) : Option ((Nat × GM) ⊕ (Int64 × GM)) := bnd (2459 : Int64) (fun w1 => bnd ((w1 * (31 : Int64)) + ((f_X10_corners M).toInt64)) (fun w3 => bnd ((w3 * (31 : Int64)) + ((f_X10_panes M).toInt64)) (fun w5 => bndO (f_X10_draw F 31 42 ((-1) : Int32) M) (fun M8 => bndO (f_X10_countStaleTiles F M8) (fun (v10, M11) => bnd ((w5 * (31 : Int64)) + v10.toInt64) (fun w12 => bnd (0 : Int32) (fun v14 => bndT (lp_X10_digest_55 F  F w12 v14 M11) (fun (w36, M37) => bnd (0 : Int32) (fun v40 => bndT (lp_X10_digest_101 F  F w36 v40 M37) (fun (w53, M54) => bndO (f_X10_colours F M54) (fun (v58, M59) => bnd ((w53 * (31 : Int64)) + v58.toInt64) (fun w60 => bnd (0 : Int32) (fun v62 => bndT (lp_X10_digest_136 F  F w60 v62 M59) (fun (w94, M95) => some (Sum.inr (w94, M95))) (fun r97 => some r97))))) (fun r56 => some r56))) (fun r39 => some r39))))))))
set_option maxHeartbeats 4000000 in
set_option maxRecDepth 100000 in
theorem w_X10_digest {x : GX} (X : GC x cX10_digest 5 RX10 9)   {F : Nat} {M : GM} {r9 : ((Nat × GM) ⊕ (Int64 × GM))} (hR : ∀ (v9 : Int64) (M9 : GM) (lv9 : List (Nat × Value)) (pc9 : Nat), r9 = Sum.inr (v9, M9) → decode cX10_digest pc9 = .ok (.lreturn, 1) → WG x M9 lv9 pc9 [.long v9]) (hX : ∀ (n9 : Nat) (M9 : GM), r9 = Sum.inl (n9, M9) → GThr x n9 M9) (h : f_X10_digest F M = some r9) : WG x M [(0, .ref (gad (xz x) 0))] 0 [] := by
  unfold f_X10_digest at h
  refine g_ldc2 X q_424 dX10_digest_0 ?_
  refine g_topl (fun w1 e2 => ?_)
  have h := bnd_e e2 h
  refine g_lstore_n X (lv' := [(1, .long w1), (0, .ref (gad (xz x) 0))]) dX10_digest_3 rfl (by decide) rfl ?_
  refine g_lload_n X (j := 0) dX10_digest_4 rfl rfl ?_
  refine g_ldc2 X q_425 dX10_digest_5 ?_
  refine g_lmul X dX10_digest_8 ?_
  refine g_aload_n X (j := 1) dX10_digest_9 rfl rfl ?_
  refine gc_X10_353 X gT_c0 (ct_X10_corners X.htr ) (by decide) (Nat.le_of_ble_eq_true rfl) dX10_digest_10 ?_
  refine g_i2l X dX10_digest_13 ?_
  refine g_ladd X dX10_digest_14 ?_
  refine g_topl (fun w3 e4 => ?_)
  have h := bnd_e e4 h
  refine g_lstore_n X (lv' := [(1, .long w3), (0, .ref (gad (xz x) 0))]) dX10_digest_15 rfl (by decide) rfl ?_
  refine g_lload_n X (j := 0) dX10_digest_16 rfl rfl ?_
  refine g_ldc2 X q_425 dX10_digest_17 ?_
  refine g_lmul X dX10_digest_20 ?_
  refine g_aload_n X (j := 1) dX10_digest_21 rfl rfl ?_
  refine gc_X10_356 X gT_c0 (ct_X10_panes X.htr ) (by decide) (Nat.le_of_ble_eq_true rfl) dX10_digest_22 ?_
  refine g_i2l X dX10_digest_25 ?_
  refine g_ladd X dX10_digest_26 ?_
  refine g_topl (fun w5 e6 => ?_)
  have h := bnd_e e6 h
  refine g_lstore_n X (lv' := [(1, .long w5), (0, .ref (gad (xz x) 0))]) dX10_digest_27 rfl (by decide) rfl ?_
  refine g_aload_n X (j := 1) dX10_digest_28 rfl rfl ?_
  refine g_aload_n X (j := 1) dX10_digest_29 rfl rfl ?_
  refine gf_X10_48 X gT_c0 dX10_digest_30 ?_
  refine g_aload_n X (j := 1) dX10_digest_33 rfl rfl ?_
  refine gf_X10_68 X gT_c0 dX10_digest_34 ?_
  refine g_iconst X (v := (-1)) dX10_digest_37 (by decide) ?_
  obtain ⟨M8, hc7, h⟩ := bndO_e h
  refine gc_X10_286 X gT_c0 (ct_X10_draw X.htr gT_c31 gT_c42 hc7) (by decide) (Nat.le_of_ble_eq_true rfl) dX10_digest_38 ?_
  refine g_lload_n X (j := 0) dX10_digest_41 rfl rfl ?_
  refine g_ldc2 X q_425 dX10_digest_42 ?_
  refine g_lmul X dX10_digest_45 ?_
  refine g_aload_n X (j := 1) dX10_digest_46 rfl rfl ?_
  obtain ⟨⟨v10, M11⟩, hc9, h⟩ := bndO_e h
  refine gc_X10_290 X gT_c0 (ct_X10_countStaleTiles X.htr  hc9) (by decide) (Nat.le_of_ble_eq_true rfl) dX10_digest_47 ?_
  refine g_i2l X dX10_digest_50 ?_
  refine g_ladd X dX10_digest_51 ?_
  refine g_topl (fun w12 e13 => ?_)
  have h := bnd_e e13 h
  refine g_lstore_n X (lv' := [(1, .long w12), (0, .ref (gad (xz x) 0))]) dX10_digest_52 rfl (by decide) rfl ?_
  refine g_iconst X (v := 0) dX10_digest_53 (by decide) ?_
  refine g_topi (fun v14 e15 => ?_)
  have h := bnd_e e15 h
  refine g_istore_n X (lv' := [(3, .int v14), (1, .long w12), (0, .ref (gad (xz x) 0))]) dX10_digest_54 rfl (by decide) rfl ?_
  refine g_lv [2, 1, 0] rfl ?_
  rcases bndT_e h with ⟨⟨w36, M37⟩, hl38, h⟩ | ⟨r39, hl38, h⟩
  · refine lw_X10_digest_55 X  (by intros; rename_i e9 _ ; cases e9) (by intros; rename_i e9; cases e9) (fun w36_ M37_  e9 => ?_) F w12 v14 M11 hl38
    cases e9
    refine g_iconst X (v := 0) dX10_digest_99 (by decide) ?_
    refine g_topi (fun v40 e41 => ?_)
    have h := bnd_e e41 h
    refine g_istore_n X (lv' := [(3, .int v40), (0, .ref (gad (xz x) 0)), (1, .long w36)]) dX10_digest_100 rfl (by decide) rfl ?_
    refine g_lv [1, 2, 0] rfl ?_
    rcases bndT_e h with ⟨⟨w53, M54⟩, hl55, h⟩ | ⟨r56, hl55, h⟩
    · refine lw_X10_digest_101 X  (by intros; rename_i e9 _ ; cases e9) (by intros; rename_i e9; cases e9) (fun w53_ M54_  e9 => ?_) F w36 v40 M37 hl55
      cases e9
      refine g_lload_n X (j := 1) dX10_digest_122 rfl rfl ?_
      refine g_ldc2 X q_425 dX10_digest_123 ?_
      refine g_lmul X dX10_digest_126 ?_
      refine g_aload_n X (j := 0) dX10_digest_127 rfl rfl ?_
      obtain ⟨⟨v58, M59⟩, hc57, h⟩ := bndO_e h
      refine gc_X10_365 X gT_c0 (ct_X10_colours X.htr  hc57) (by decide) (Nat.le_of_ble_eq_true rfl) dX10_digest_128 ?_
      refine g_i2l X dX10_digest_131 ?_
      refine g_ladd X dX10_digest_132 ?_
      refine g_topl (fun w60 e61 => ?_)
      have h := bnd_e e61 h
      refine g_lstore_n X (lv' := [(1, .long w60), (0, .ref (gad (xz x) 0))]) dX10_digest_133 rfl (by decide) rfl ?_
      refine g_iconst X (v := 0) dX10_digest_134 (by decide) ?_
      refine g_topi (fun v62 e63 => ?_)
      have h := bnd_e e63 h
      refine g_istore_n X (lv' := [(3, .int v62), (1, .long w60), (0, .ref (gad (xz x) 0))]) dX10_digest_135 rfl (by decide) rfl ?_
      refine g_lv [2, 1, 0] rfl ?_
      rcases bndT_e h with ⟨⟨w94, M95⟩, hl96, h⟩ | ⟨r97, hl96, h⟩
      · refine lw_X10_digest_136 X  (by intros; rename_i e9 _ ; cases e9) (by intros; rename_i e9; cases e9) (fun w94_ M95_  e9 => ?_) F w60 v62 M59 hl96
        cases e9
        refine g_lload_n X (j := 0) dX10_digest_209 rfl rfl ?_
        exact hR w94 M95 _ _ (Option.some.inj h).symm dX10_digest_210
      · exact lw_X10_digest_136 X  (fun v9 M9 lv9 pc9 e9 d9 => by cases e9; exact hR _ _ lv9 pc9 (Option.some.inj h).symm d9) (fun n9 M9 e9 => by cases e9; exact hX _ _ (Option.some.inj h).symm) (by intros; rename_i e9; cases e9) F w60 v62 M59 hl96
    · exact lw_X10_digest_101 X  (fun v9 M9 lv9 pc9 e9 d9 => by cases e9; exact hR _ _ lv9 pc9 (Option.some.inj h).symm d9) (fun n9 M9 e9 => by cases e9; exact hX _ _ (Option.some.inj h).symm) (by intros; rename_i e9; cases e9) F w36 v40 M37 hl55
  · exact lw_X10_digest_55 X  (fun v9 M9 lv9 pc9 e9 d9 => by cases e9; exact hR _ _ lv9 pc9 (Option.some.inj h).symm d9) (fun n9 M9 e9 => by cases e9; exact hX _ _ (Option.some.inj h).symm) (by intros; rename_i e9; cases e9) F w12 v14 M11 hl38
theorem ct_X10_digest {l : Launch} {z : GZ} (htr : l.stackTraces = false)   {M : GM} {F : Nat} {v : Int64} {M1 : GM} (h : f_X10_digest F M = some (Sum.inr (v, M1))) : gMet l z yX10_digest cX10_digest 5 (some .long) 9 [.ref (gad z 0)] M (some (.long v)) M1 := gMet_ofL (by decide +kernel) (Nat.le_of_ble_eq_true rfl) htr (fun x X ez el hR => by subst ez; subst el; exact w_X10_digest X  (fun v9 M9 lv9 pc9 e9 d9 => by cases e9; exact hR lv9 pc9 d9) (by intros; rename_i e9; cases e9) h)
theorem cx_X10_digest {l : Launch} {z : GZ} (htr : l.stackTraces = false)   {M : GM} {F n : Nat} {M1 : GM} (h : f_X10_digest F M = some (Sum.inl (n, M1))) : gMetX l z yX10_digest cX10_digest 5 (some .long) 9 [.ref (gad z 0)] M n M1 := gMetX_of (by decide +kernel) (Nat.le_of_ble_eq_true rfl) htr (fun x X ez el hT => by subst ez; subst el; exact w_X10_digest X  (by intros; rename_i e9 _; cases e9) (fun n9 M9 e9 => by cases e9; exact hT) h)
