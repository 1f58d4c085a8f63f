/-! the law's helpers -/
theorem q_809 : (.classLink RL 13 "java/lang/IllegalArgumentException" : Cond) ∈ GW := gw_mem 809 (by decide +kernel) (by decide +kernel)
theorem q_810 : (.classLink RL 15 "java/lang/IllegalStateException" : Cond) ∈ GW := gw_mem 810 (by decide +kernel) (by decide +kernel)
theorem q_811 : (.methodLink RL 7 yX10_addCorner : Cond) ∈ GW := gw_mem 811 (by decide +kernel) (by decide +kernel)
theorem q_812 : (.instanceMethod yX10_addCorner : Cond) ∈ GW := gw_mem 812 (by decide +kernel) (by decide +kernel)
theorem q_813 : (.selects RX10 yX10_addCorner yX10_addCorner : Cond) ∈ GW := gw_mem 813 (by decide +kernel) (by decide +kernel)
theorem q_814 : (.code yX10_addCorner cX10_addCorner 9 (some .int) : Cond) ∈ GW := gw_mem 814 (by decide +kernel) (by decide +kernel)
theorem q_863 : (.classLink RL 21 "java/lang/IndexOutOfBoundsException" : Cond) ∈ GW := gw_mem 863 (by decide +kernel) (by decide +kernel)
theorem q_864 : (.methodLink RL 17 yX10_moveCorner : Cond) ∈ GW := gw_mem 864 (by decide +kernel) (by decide +kernel)
theorem q_865 : (.instanceMethod yX10_moveCorner : Cond) ∈ GW := gw_mem 865 (by decide +kernel) (by decide +kernel)
theorem q_866 : (.selects RX10 yX10_moveCorner yX10_moveCorner : Cond) ∈ GW := gw_mem 866 (by decide +kernel) (by decide +kernel)
theorem q_867 : (.code yX10_moveCorner cX10_moveCorner 7 (some .int) : Cond) ∈ GW := gw_mem 867 (by decide +kernel) (by decide +kernel)
theorem q_875 : (.methodLink RL 23 yX10_setColour : Cond) ∈ GW := gw_mem 875 (by decide +kernel) (by decide +kernel)
theorem q_876 : (.instanceMethod yX10_setColour : Cond) ∈ GW := gw_mem 876 (by decide +kernel) (by decide +kernel)
theorem q_877 : (.selects RX10 yX10_setColour yX10_setColour : Cond) ∈ GW := gw_mem 877 (by decide +kernel) (by decide +kernel)
theorem q_878 : (.code yX10_setColour cX10_setColour 4 (some .int) : Cond) ∈ GW := gw_mem 878 (by decide +kernel) (by decide +kernel)
theorem q_882 : (.methodLink RL 27 yX10_addPane : Cond) ∈ GW := gw_mem 882 (by decide +kernel) (by decide +kernel)
theorem q_883 : (.instanceMethod yX10_addPane : Cond) ∈ GW := gw_mem 883 (by decide +kernel) (by decide +kernel)
theorem q_884 : (.selects RX10 yX10_addPane yX10_addPane : Cond) ∈ GW := gw_mem 884 (by decide +kernel) (by decide +kernel)
theorem q_885 : (.code yX10_addPane cX10_addPane 9 (some .int) : Cond) ∈ GW := gw_mem 885 (by decide +kernel) (by decide +kernel)
theorem q_896 : (.methodLink RL 31 yX10_show : Cond) ∈ GW := gw_mem 896 (by decide +kernel) (by decide +kernel)
theorem q_897 : (.instanceMethod yX10_show : Cond) ∈ GW := gw_mem 897 (by decide +kernel) (by decide +kernel)
theorem q_898 : (.selects RX10 yX10_show yX10_show : Cond) ∈ GW := gw_mem 898 (by decide +kernel) (by decide +kernel)
theorem q_899 : (.code yX10_show cX10_show 4 (some .boolean) : Cond) ∈ GW := gw_mem 899 (by decide +kernel) (by decide +kernel)
theorem q_903 : (.methodLink RL 35 yX10_setPattern : Cond) ∈ GW := gw_mem 903 (by decide +kernel) (by decide +kernel)
theorem q_904 : (.instanceMethod yX10_setPattern : Cond) ∈ GW := gw_mem 904 (by decide +kernel) (by decide +kernel)
theorem q_905 : (.selects RX10 yX10_setPattern yX10_setPattern : Cond) ∈ GW := gw_mem 905 (by decide +kernel) (by decide +kernel)
theorem q_906 : (.code yX10_setPattern cX10_setPattern 8 (some .int) : Cond) ∈ GW := gw_mem 906 (by decide +kernel) (by decide +kernel)
theorem q_915 : (.methodLink RL 38 yX10_setRepeats : Cond) ∈ GW := gw_mem 915 (by decide +kernel) (by decide +kernel)
theorem q_916 : (.instanceMethod yX10_setRepeats : Cond) ∈ GW := gw_mem 916 (by decide +kernel) (by decide +kernel)
theorem q_917 : (.selects RX10 yX10_setRepeats yX10_setRepeats : Cond) ∈ GW := gw_mem 917 (by decide +kernel) (by decide +kernel)
theorem q_918 : (.code yX10_setRepeats cX10_setRepeats 4 (some .boolean) : Cond) ∈ GW := gw_mem 918 (by decide +kernel) (by decide +kernel)
theorem q_922 : (.methodLink RL 41 yX10_setCamera : Cond) ∈ GW := gw_mem 922 (by decide +kernel) (by decide +kernel)
theorem q_923 : (.instanceMethod yX10_setCamera : Cond) ∈ GW := gw_mem 923 (by decide +kernel) (by decide +kernel)
theorem q_924 : (.selects RX10 yX10_setCamera yX10_setCamera : Cond) ∈ GW := gw_mem 924 (by decide +kernel) (by decide +kernel)
theorem q_925 : (.code yX10_setCamera cX10_setCamera 6 (some .int) : Cond) ∈ GW := gw_mem 925 (by decide +kernel) (by decide +kernel)
theorem q_939 : (.methodLink RL 45 yX10_setLens : Cond) ∈ GW := gw_mem 939 (by decide +kernel) (by decide +kernel)
theorem q_940 : (.instanceMethod yX10_setLens : Cond) ∈ GW := gw_mem 940 (by decide +kernel) (by decide +kernel)
theorem q_941 : (.selects RX10 yX10_setLens yX10_setLens : Cond) ∈ GW := gw_mem 941 (by decide +kernel) (by decide +kernel)
theorem q_942 : (.code yX10_setLens cX10_setLens 3 (some .int) : Cond) ∈ GW := gw_mem 942 (by decide +kernel) (by decide +kernel)
theorem q_948 : (.methodLink RL 48 yX10_setBackground : Cond) ∈ GW := gw_mem 948 (by decide +kernel) (by decide +kernel)
theorem q_949 : (.instanceMethod yX10_setBackground : Cond) ∈ GW := gw_mem 949 (by decide +kernel) (by decide +kernel)
theorem q_950 : (.selects RX10 yX10_setBackground yX10_setBackground : Cond) ∈ GW := gw_mem 950 (by decide +kernel) (by decide +kernel)
theorem q_951 : (.code yX10_setBackground cX10_setBackground 3 (some .int) : Cond) ∈ GW := gw_mem 951 (by decide +kernel) (by decide +kernel)
theorem q_955 : (.methodLink RL 52 yX10_seen : Cond) ∈ GW := gw_mem 955 (by decide +kernel) (by decide +kernel)
theorem q_959 : (.methodLink RL 55 yX10_polygonOf : Cond) ∈ GW := gw_mem 959 (by decide +kernel) (by decide +kernel)
theorem q_963 : (.methodLink RL 58 yX10_cornerOf : Cond) ∈ GW := gw_mem 963 (by decide +kernel) (by decide +kernel)
theorem q_964 : (.instanceMethod yX10_cornerOf : Cond) ∈ GW := gw_mem 964 (by decide +kernel) (by decide +kernel)
theorem q_965 : (.selects RX10 yX10_cornerOf yX10_cornerOf : Cond) ∈ GW := gw_mem 965 (by decide +kernel) (by decide +kernel)
theorem q_966 : (.code yX10_cornerOf cX10_cornerOf 5 (some .int) : Cond) ∈ GW := gw_mem 966 (by decide +kernel) (by decide +kernel)
theorem q_971 : (.methodLink RL 62 yX10_screenOf : Cond) ∈ GW := gw_mem 971 (by decide +kernel) (by decide +kernel)
theorem q_975 : (.methodLink RL 65 yX10_piecesOf : Cond) ∈ GW := gw_mem 975 (by decide +kernel) (by decide +kernel)
theorem q_979 : (.methodLink RL 68 yX10_pointsOf : Cond) ∈ GW := gw_mem 979 (by decide +kernel) (by decide +kernel)
theorem q_983 : (.methodLink RL 71 yX10_liesIn : Cond) ∈ GW := gw_mem 983 (by decide +kernel) (by decide +kernel)
theorem q_984 : (.instanceMethod yX10_liesIn : Cond) ∈ GW := gw_mem 984 (by decide +kernel) (by decide +kernel)
theorem q_985 : (.selects RX10 yX10_liesIn yX10_liesIn : Cond) ∈ GW := gw_mem 985 (by decide +kernel) (by decide +kernel)
theorem q_986 : (.code yX10_liesIn cX10_liesIn 4 (some .boolean) : Cond) ∈ GW := gw_mem 986 (by decide +kernel) (by decide +kernel)
theorem q_990 : (.methodLink RL 75 yX10_depthOf : Cond) ∈ GW := gw_mem 990 (by decide +kernel) (by decide +kernel)
theorem q_991 : (.instanceMethod yX10_depthOf : Cond) ∈ GW := gw_mem 991 (by decide +kernel) (by decide +kernel)
theorem q_992 : (.selects RX10 yX10_depthOf yX10_depthOf : Cond) ∈ GW := gw_mem 992 (by decide +kernel) (by decide +kernel)
theorem q_993 : (.code yX10_depthOf cX10_depthOf 5 (some .int) : Cond) ∈ GW := gw_mem 993 (by decide +kernel) (by decide +kernel)
theorem q_997 : (.methodLink RL 78 yX10_colourOf : Cond) ∈ GW := gw_mem 997 (by decide +kernel) (by decide +kernel)
theorem q_998 : (.instanceMethod yX10_colourOf : Cond) ∈ GW := gw_mem 998 (by decide +kernel) (by decide +kernel)
theorem q_999 : (.selects RX10 yX10_colourOf yX10_colourOf : Cond) ∈ GW := gw_mem 999 (by decide +kernel) (by decide +kernel)
theorem q_1000 : (.code yX10_colourOf cX10_colourOf 5 (some .int) : Cond) ∈ GW := gw_mem 1000 (by decide +kernel) (by decide +kernel)
theorem q_1004 : (.methodLink RL 81 yX10_isStale : Cond) ∈ GW := gw_mem 1004 (by decide +kernel) (by decide +kernel)
theorem q_1005 : (.instanceMethod yX10_isStale : Cond) ∈ GW := gw_mem 1005 (by decide +kernel) (by decide +kernel)
theorem q_1006 : (.selects RX10 yX10_isStale yX10_isStale : Cond) ∈ GW := gw_mem 1006 (by decide +kernel) (by decide +kernel)
theorem q_1007 : (.code yX10_isStale cX10_isStale 2 (some .boolean) : Cond) ∈ GW := gw_mem 1007 (by decide +kernel) (by decide +kernel)
theorem q_1012 : (.methodLink RL 85 yX10_colourAt : Cond) ∈ GW := gw_mem 1012 (by decide +kernel) (by decide +kernel)
theorem q_1016 : (.methodLink RL 88 yX10_depthAt : Cond) ∈ GW := gw_mem 1016 (by decide +kernel) (by decide +kernel)
theorem q_1020 : (.methodLink RL 91 yX10_paneAt : Cond) ∈ GW := gw_mem 1020 (by decide +kernel) (by decide +kernel)
theorem q_1024 : (.methodLink RL 94 yX10_pointsWith : Cond) ∈ GW := gw_mem 1024 (by decide +kernel) (by decide +kernel)
theorem q_1028 : (.methodLink RL 97 yX10_colourNow : Cond) ∈ GW := gw_mem 1028 (by decide +kernel) (by decide +kernel)
theorem q_1029 : (.instanceMethod yX10_colourNow : Cond) ∈ GW := gw_mem 1029 (by decide +kernel) (by decide +kernel)
theorem q_1030 : (.selects RX10 yX10_colourNow yX10_colourNow : Cond) ∈ GW := gw_mem 1030 (by decide +kernel) (by decide +kernel)
theorem q_1031 : (.code yX10_colourNow cX10_colourNow 3 (some .int) : Cond) ∈ GW := gw_mem 1031 (by decide +kernel) (by decide +kernel)
theorem q_1035 : (.methodLink RL 100 yX10_seenOf : Cond) ∈ GW := gw_mem 1035 (by decide +kernel) (by decide +kernel)
theorem q_1036 : (.instanceMethod yX10_seenOf : Cond) ∈ GW := gw_mem 1036 (by decide +kernel) (by decide +kernel)
theorem q_1037 : (.selects RX10 yX10_seenOf yX10_seenOf : Cond) ∈ GW := gw_mem 1037 (by decide +kernel) (by decide +kernel)
theorem q_1038 : (.code yX10_seenOf cX10_seenOf 4 (some .int) : Cond) ∈ GW := gw_mem 1038 (by decide +kernel) (by decide +kernel)
theorem q_1042 : (.methodLink RL 103 yX10_glassAt : Cond) ∈ GW := gw_mem 1042 (by decide +kernel) (by decide +kernel)
theorem q_1043 : (.instanceMethod yX10_glassAt : Cond) ∈ GW := gw_mem 1043 (by decide +kernel) (by decide +kernel)
theorem q_1044 : (.selects RX10 yX10_glassAt yX10_glassAt : Cond) ∈ GW := gw_mem 1044 (by decide +kernel) (by decide +kernel)
theorem q_1045 : (.code yX10_glassAt cX10_glassAt 5 (some .int) : Cond) ∈ GW := gw_mem 1045 (by decide +kernel) (by decide +kernel)
theorem gT_c162 : gT 162 = 21 := by decide +kernel
theorem gc_L_7 {x : GX} {cc : ByteArray} {nL d pc : Nat} {M : GM} {lv : List (Nat × Value)} {st : List Value} (X : GC x cc nL RL d) {i0 : Int32} {i1 : Int32} {i2 : Int32} {i3 : Int32} {i4 : Int32} {i5 : Int32} {M1 : GM} {r : Int32} (ht : gT 0 = 10) (hM : gMet (xl x) (xz x) yX10_addCorner cX10_addCorner 9 (some .int) 7 [.ref (gad (xz x) 0), .int i0, .int i1, .int i2, .int i3, .int i4, .int i5] M (some (.int r)) M1) (hd : 8 ≤ d) (hsum : (st.map fun v => v.category).sum ≤ 8) (dec : decode cc pc = .ok (.invokevirtual 7, 3)) (go : WG x M1 lv (pc + 3) (.int r :: st)) : WG x M lv pc (.int i5 :: .int i4 :: .int i3 :: .int i2 :: .int i1 :: .int i0 :: .ref (gad (xz x) 0) :: st) := g_callV X (n := 6) (As := [.int i0, .int i1, .int i2, .int i3, .int i4, .int i5]) (rest := st) hM ht (by decide) (gE_10 ht) rfl q_811 q_812 q_813 q_52 q_814 (by decide +kernel) rfl hd (by decide) rfl hsum dec go
theorem gt_L_7 {x : GX} {cc : ByteArray} {nL d pc : Nat} {M : GM} {lv : List (Nat × Value)} {st : List Value} (X : GC x cc nL RL d) {i0 : Int32} {i1 : Int32} {i2 : Int32} {i3 : Int32} {i4 : Int32} {i5 : Int32} {M1 : GM} {n9 : Nat} (ht : gT 0 = 10) (hM : gMetX (xl x) (xz x) yX10_addCorner cX10_addCorner 9 (some .int) 7 [.ref (gad (xz x) 0), .int i0, .int i1, .int i2, .int i3, .int i4, .int i5] M n9 M1) (hd : 8 ≤ d) (hsum : (st.map fun v => v.category).sum ≤ 8) (dec : decode cc pc = .ok (.invokevirtual 7, 3)) {hh : List (Nat × Nat × Nat × Nat)} (hroom : xcells x + 1 ≤ (xR x).cells ∧ xslots x + 6 ≤ (xR x).slots) (htab : (xc x).exceptionTable.toList = tableOf hh) (pre : List ExceptionTableEntry) (en : ExceptionTableEntry) (suf : List ExceptionTableEntry) (hsplit : tableOf hh = pre ++ en :: suf) (hpass : ∀ q ∈ pre, covers q pc = false ∨ (q.catchType ≠ 0 ∧ ∃ nm : String, Cond.classLink RL q.catchType nm ∈ GW ∧ va_Nc (gEx n9) nm (xs x))) (hcov : covers en pc = true) (h0 : en.catchType ≠ 0) (hlink : Cond.classLink RL en.catchType (gEx n9) ∈ GW) (hcast : Cond.castable (gEx n9) (gEx n9) ∈ gFaceL) (go : ∀ q : Nat, WG (xup x) M1 lv en.handlerPc [.ref q]) : WG x M lv pc (.int i5 :: .int i4 :: .int i3 :: .int i2 :: .int i1 :: .int i0 :: .ref (gad (xz x) 0) :: st) := g_tryV X (n := 6) (As := [.int i0, .int i1, .int i2, .int i3, .int i4, .int i5]) (rest := st) hM ht (by decide) (gE_10 ht) rfl q_811 q_812 q_813 q_52 q_814 (by decide +kernel) rfl hd (by decide) rfl hsum dec hroom htab pre en suf hsplit hpass hcov h0 hlink hcast go
theorem dL_addCorner_0 : decode cL_addCorner 0 = .ok (.aload 7, 2) := by decide +kernel
theorem dL_addCorner_2 : decode cL_addCorner 2 = .ok (.iconst 0, 1) := by decide +kernel
theorem dL_addCorner_3 : decode cL_addCorner 3 = .ok (.aload_n 0, 1) := by decide +kernel
theorem dL_addCorner_4 : decode cL_addCorner 4 = .ok (.iload_n 1, 1) := by decide +kernel
theorem dL_addCorner_5 : decode cL_addCorner 5 = .ok (.iload_n 2, 1) := by decide +kernel
theorem dL_addCorner_6 : decode cL_addCorner 6 = .ok (.iload_n 3, 1) := by decide +kernel
theorem dL_addCorner_7 : decode cL_addCorner 7 = .ok (.iload 4, 2) := by decide +kernel
theorem dL_addCorner_9 : decode cL_addCorner 9 = .ok (.iload 5, 2) := by decide +kernel
theorem dL_addCorner_11 : decode cL_addCorner 11 = .ok (.iload 6, 2) := by decide +kernel
theorem dL_addCorner_13 : decode cL_addCorner 13 = .ok (.invokevirtual 7, 3) := by decide +kernel
theorem dL_addCorner_16 : decode cL_addCorner 16 = .ok (.i2l, 1) := by decide +kernel
theorem dL_addCorner_17 : decode cL_addCorner 17 = .ok (.lastore, 1) := by decide +kernel
theorem dL_addCorner_18 : decode cL_addCorner 18 = .ok (.goto 11, 3) := by decide +kernel
theorem dL_addCorner_21 : decode cL_addCorner 21 = .ok (.astore 8, 2) := by decide +kernel
theorem dL_addCorner_23 : decode cL_addCorner 23 = .ok (.iconst 1, 1) := by decide +kernel
theorem dL_addCorner_24 : decode cL_addCorner 24 = .ok (.ireturn, 1) := by decide +kernel
theorem dL_addCorner_25 : decode cL_addCorner 25 = .ok (.astore 8, 2) := by decide +kernel
theorem dL_addCorner_27 : decode cL_addCorner 27 = .ok (.iconst 2, 1) := by decide +kernel
theorem dL_addCorner_28 : decode cL_addCorner 28 = .ok (.ireturn, 1) := by decide +kernel
theorem dL_addCorner_29 : decode cL_addCorner 29 = .ok (.iconst 0, 1) := by decide +kernel
theorem dL_addCorner_30 : decode cL_addCorner 30 = .ok (.ireturn, 1) := by decide +kernel
def f_L_addCorner (F : Nat) (i1 : Int32) (i2 : Int32) (i3 : Int32) (i4 : Int32) (i5 : Int32) (i6 : Int32) (M : GM) : Option (Int32 × GM) := bndT (f_X10_addCorner F i1 i2 i3 i4 i5 i6 M) (fun (n4, M5) => if n4 = 1 then (some ((1 : Int32), M5)) else (if n4 = 2 then (some ((2 : Int32), M5)) else (none))) (fun (v2, M3) => bnd (sL M3 162 0 v2.toInt64) (fun M6 => some ((0 : Int32), M6)))
set_option maxHeartbeats 4000000 in
set_option maxRecDepth 100000 in
theorem w_L_addCorner {x : GX} (X : GC x cL_addCorner 9 RL 8) (XU : GC (xup x) cL_addCorner 9 RL 8) (hroom : xcells x + 1 ≤ (xR x).cells ∧ xslots x + 6 ≤ (xR x).slots) (htab : (xc x).exceptionTable.toList = tableOf [(0, 18, 21, 13), (0, 18, 25, 15)]) (hnc : gNcs (xs x)) {i1 : Int32} {i2 : Int32} {i3 : Int32} {i4 : Int32} {i5 : Int32} {i6 : Int32} {F : Nat} {M : GM} {r9 : (Int32 × GM)} (hR : ∀ (v9 : Int32) (M9 : GM) (lv9 : List (Nat × Value)) (pc9 : Nat), r9 = (v9, M9) → decode cL_addCorner pc9 = .ok (.ireturn, 1) → WG (xup x) M9 lv9 pc9 [.int v9]) (h : f_L_addCorner F i1 i2 i3 i4 i5 i6 M = some r9) : WG x M [(0, .ref (gad (xz x) 0)), (1, .int i1), (2, .int i2), (3, .int i3), (4, .int i4), (5, .int i5), (6, .int i6), (7, .ref (gad (xz x) 162))] 0 [] := by
  unfold f_L_addCorner at h
  refine g_aload X (j := 7) dL_addCorner_0 rfl ?_
  refine g_iconst X (v := 0) dL_addCorner_2 (by decide) ?_
  refine g_aload_n X (j := 0) dL_addCorner_3 rfl rfl ?_
  refine g_iload_n X (j := 1) dL_addCorner_4 rfl rfl ?_
  refine g_iload_n X (j := 2) dL_addCorner_5 rfl rfl ?_
  refine g_iload_n X (j := 3) dL_addCorner_6 rfl rfl ?_
  refine g_iload X (j := 4) dL_addCorner_7 rfl ?_
  refine g_iload X (j := 5) dL_addCorner_9 rfl ?_
  refine g_iload X (j := 6) dL_addCorner_11 rfl ?_
  rcases bndT_e h with ⟨⟨n4, M5⟩, hc1, h⟩ | ⟨⟨v2, M3⟩, hc1, h⟩
  · by_cases hb0 : n4 = 1
    · have h := ite_t hb0 h
      subst hb0
      refine gt_L_7 X gT_c0 (cx_X10_addCorner X.htr  hc1) (by decide) (Nat.le_of_ble_eq_true rfl) dL_addCorner_13 hroom htab [] { startPc := 0, endPc := 18, handlerPc := 21, catchType := 13 } [({ startPc := 0, endPc := 18, handlerPc := 25, catchType := 15 } : ExceptionTableEntry)] rfl (fun z hz => absurd hz List.not_mem_nil) (by decide +kernel) (by decide) q_809 (List.mem_of_getElem? (i := 0) rfl) (fun q9 => ?_)
      refine g_astore XU (lv' := (8, .ref q9) :: [(0, .ref (gad (xz x) 0)), (1, .int i1), (2, .int i2), (3, .int i3), (4, .int i4), (5, .int i5), (6, .int i6), (7, .ref (gad (xz x) 162))]) dL_addCorner_21 (by decide) rfl ?_
      refine g_iconst XU (v := 1) dL_addCorner_23 (by decide) ?_
      exact (hR (1 : Int32) M5 _ _ (Option.some.inj h).symm dL_addCorner_24)
    have h := ite_f hb0 h
    by_cases hb1 : n4 = 2
    · have h := ite_t hb1 h
      subst hb1
      refine gt_L_7 X gT_c0 (cx_X10_addCorner X.htr  hc1) (by decide) (Nat.le_of_ble_eq_true rfl) dL_addCorner_13 hroom htab [({ startPc := 0, endPc := 18, handlerPc := 21, catchType := 13 } : ExceptionTableEntry)] { startPc := 0, endPc := 18, handlerPc := 25, catchType := 15 } [] rfl (fun z hz => by simp only [List.mem_cons, List.not_mem_nil, or_false] at hz; rcases hz with rfl <;> first | exact Or.inr ⟨by decide, gEx 1, q_809, hnc 2 1 (by decide) (by decide) (by decide) (by decide) (by decide)⟩) (by decide +kernel) (by decide) q_810 (List.mem_of_getElem? (i := 1) rfl) (fun q9 => ?_)
      refine g_astore XU (lv' := (8, .ref q9) :: [(0, .ref (gad (xz x) 0)), (1, .int i1), (2, .int i2), (3, .int i3), (4, .int i4), (5, .int i5), (6, .int i6), (7, .ref (gad (xz x) 162))]) dL_addCorner_25 (by decide) rfl ?_
      refine g_iconst XU (v := 2) dL_addCorner_27 (by decide) ?_
      exact (hR (2 : Int32) M5 _ _ (Option.some.inj h).symm dL_addCorner_28)
    · have h := ite_f hb1 h
      cases h
  refine gc_L_7 X gT_c0 (ct_X10_addCorner X.htr  hc1) (by decide) (Nat.le_of_ble_eq_true rfl) dL_addCorner_13 ?_
  refine g_i2l X dL_addCorner_16 ?_
  refine g_last X gT_c162 (by decide +kernel) dL_addCorner_17 ?_
  rw [tn_0]
  refine g_mem (fun M6 e7 => ?_)
  have h := bnd_e e7 h
  refine g_goto X (tgt := 29) dL_addCorner_18 (by decide) ?_
  refine g_iconst X (v := 0) dL_addCorner_29 (by decide) ?_
  refine g_up ?_
  exact hR (0 : Int32) M6 _ _ (Option.some.inj h).symm dL_addCorner_30
theorem ct_L_addCorner {l : Launch} {z : GZ} (htr : l.stackTraces = false) {i1 : Int32} {i2 : Int32} {i3 : Int32} {i4 : Int32} {i5 : Int32} {i6 : Int32} {M : GM} {F : Nat} {v : Int32} {M1 : GM} (h : f_L_addCorner F i1 i2 i3 i4 i5 i6 M = some (v, M1)) : gMetW l z yL_addCorner cL_addCorner 9 [(0, 18, 21, 13), (0, 18, 25, 15)] [.ref (gad z 0), .int i1, .int i2, .int i3, .int i4, .int i5, .int i6, .ref (gad z 162)] M v M1 := gMetW_of (by decide +kernel) (Nat.le_of_ble_eq_true rfl) htr (fun x X XU ez el htab hnc hR => by subst ez; subst el; exact w_L_addCorner X XU ⟨XU.2.2.2.2.2.2.2.2.2.1, XU.2.2.2.2.2.2.2.2.2.2.1⟩ htab hnc (fun v9 M9 lv9 pc9 e9 d9 => by cases e9; exact hR lv9 pc9 d9) h)
theorem gc_L_17 {x : GX} {cc : ByteArray} {nL d pc : Nat} {M : GM} {lv : List (Nat × Value)} {st : List Value} (X : GC x cc nL RL d) {i0 : Int32} {i1 : Int32} {i2 : Int32} {i3 : Int32} {M1 : GM} {r : Int32} (ht : gT 0 = 10) (hM : gMet (xl x) (xz x) yX10_moveCorner cX10_moveCorner 7 (some .int) 7 [.ref (gad (xz x) 0), .int i0, .int i1, .int i2, .int i3] M (some (.int r)) M1) (hd : 8 ≤ d) (hsum : (st.map fun v => v.category).sum ≤ 8) (dec : decode cc pc = .ok (.invokevirtual 17, 3)) (go : WG x M1 lv (pc + 3) (.int r :: st)) : WG x M lv pc (.int i3 :: .int i2 :: .int i1 :: .int i0 :: .ref (gad (xz x) 0) :: st) := g_callV X (n := 4) (As := [.int i0, .int i1, .int i2, .int i3]) (rest := st) hM ht (by decide) (gE_10 ht) rfl q_864 q_865 q_866 q_52 q_867 (by decide +kernel) rfl hd (by decide) rfl hsum dec go
theorem gt_L_17 {x : GX} {cc : ByteArray} {nL d pc : Nat} {M : GM} {lv : List (Nat × Value)} {st : List Value} (X : GC x cc nL RL d) {i0 : Int32} {i1 : Int32} {i2 : Int32} {i3 : Int32} {M1 : GM} {n9 : Nat} (ht : gT 0 = 10) (hM : gMetX (xl x) (xz x) yX10_moveCorner cX10_moveCorner 7 (some .int) 7 [.ref (gad (xz x) 0), .int i0, .int i1, .int i2, .int i3] M n9 M1) (hd : 8 ≤ d) (hsum : (st.map fun v => v.category).sum ≤ 8) (dec : decode cc pc = .ok (.invokevirtual 17, 3)) {hh : List (Nat × Nat × Nat × Nat)} (hroom : xcells x + 1 ≤ (xR x).cells ∧ xslots x + 6 ≤ (xR x).slots) (htab : (xc x).exceptionTable.toList = tableOf hh) (pre : List ExceptionTableEntry) (en : ExceptionTableEntry) (suf : List ExceptionTableEntry) (hsplit : tableOf hh = pre ++ en :: suf) (hpass : ∀ q ∈ pre, covers q pc = false ∨ (q.catchType ≠ 0 ∧ ∃ nm : String, Cond.classLink RL q.catchType nm ∈ GW ∧ va_Nc (gEx n9) nm (xs x))) (hcov : covers en pc = true) (h0 : en.catchType ≠ 0) (hlink : Cond.classLink RL en.catchType (gEx n9) ∈ GW) (hcast : Cond.castable (gEx n9) (gEx n9) ∈ gFaceL) (go : ∀ q : Nat, WG (xup x) M1 lv en.handlerPc [.ref q]) : WG x M lv pc (.int i3 :: .int i2 :: .int i1 :: .int i0 :: .ref (gad (xz x) 0) :: st) := g_tryV X (n := 4) (As := [.int i0, .int i1, .int i2, .int i3]) (rest := st) hM ht (by decide) (gE_10 ht) rfl q_864 q_865 q_866 q_52 q_867 (by decide +kernel) rfl hd (by decide) rfl hsum dec hroom htab pre en suf hsplit hpass hcov h0 hlink hcast go
theorem dL_moveCorner_0 : decode cL_moveCorner 0 = .ok (.aload 5, 2) := by decide +kernel
theorem dL_moveCorner_2 : decode cL_moveCorner 2 = .ok (.iconst 0, 1) := by decide +kernel
theorem dL_moveCorner_3 : decode cL_moveCorner 3 = .ok (.aload_n 0, 1) := by decide +kernel
theorem dL_moveCorner_4 : decode cL_moveCorner 4 = .ok (.iload_n 1, 1) := by decide +kernel
theorem dL_moveCorner_5 : decode cL_moveCorner 5 = .ok (.iload_n 2, 1) := by decide +kernel
theorem dL_moveCorner_6 : decode cL_moveCorner 6 = .ok (.iload_n 3, 1) := by decide +kernel
theorem dL_moveCorner_7 : decode cL_moveCorner 7 = .ok (.iload 4, 2) := by decide +kernel
theorem dL_moveCorner_9 : decode cL_moveCorner 9 = .ok (.invokevirtual 17, 3) := by decide +kernel
theorem dL_moveCorner_12 : decode cL_moveCorner 12 = .ok (.i2l, 1) := by decide +kernel
theorem dL_moveCorner_13 : decode cL_moveCorner 13 = .ok (.lastore, 1) := by decide +kernel
theorem dL_moveCorner_14 : decode cL_moveCorner 14 = .ok (.goto 11, 3) := by decide +kernel
theorem dL_moveCorner_17 : decode cL_moveCorner 17 = .ok (.astore 6, 2) := by decide +kernel
theorem dL_moveCorner_19 : decode cL_moveCorner 19 = .ok (.iconst 1, 1) := by decide +kernel
theorem dL_moveCorner_20 : decode cL_moveCorner 20 = .ok (.ireturn, 1) := by decide +kernel
theorem dL_moveCorner_21 : decode cL_moveCorner 21 = .ok (.astore 6, 2) := by decide +kernel
theorem dL_moveCorner_23 : decode cL_moveCorner 23 = .ok (.iconst 2, 1) := by decide +kernel
theorem dL_moveCorner_24 : decode cL_moveCorner 24 = .ok (.ireturn, 1) := by decide +kernel
theorem dL_moveCorner_25 : decode cL_moveCorner 25 = .ok (.iconst 0, 1) := by decide +kernel
theorem dL_moveCorner_26 : decode cL_moveCorner 26 = .ok (.ireturn, 1) := by decide +kernel
def f_L_moveCorner (F : Nat) (i1 : Int32) (i2 : Int32) (i3 : Int32) (i4 : Int32) (M : GM) : Option (Int32 × GM) := bndT (f_X10_moveCorner F i1 i2 i3 i4 M) (fun (n4, M5) => if n4 = 3 then (some ((1 : Int32), M5)) else (if n4 = 1 then (some ((2 : Int32), M5)) else (none))) (fun (v2, M3) => bnd (sL M3 162 0 v2.toInt64) (fun M6 => some ((0 : Int32), M6)))
set_option maxHeartbeats 4000000 in
set_option maxRecDepth 100000 in
theorem w_L_moveCorner {x : GX} (X : GC x cL_moveCorner 7 RL 8) (XU : GC (xup x) cL_moveCorner 7 RL 8) (hroom : xcells x + 1 ≤ (xR x).cells ∧ xslots x + 6 ≤ (xR x).slots) (htab : (xc x).exceptionTable.toList = tableOf [(0, 14, 17, 21), (0, 14, 21, 13)]) (hnc : gNcs (xs x)) {i1 : Int32} {i2 : Int32} {i3 : Int32} {i4 : Int32} {F : Nat} {M : GM} {r9 : (Int32 × GM)} (hR : ∀ (v9 : Int32) (M9 : GM) (lv9 : List (Nat × Value)) (pc9 : Nat), r9 = (v9, M9) → decode cL_moveCorner pc9 = .ok (.ireturn, 1) → WG (xup x) M9 lv9 pc9 [.int v9]) (h : f_L_moveCorner F i1 i2 i3 i4 M = some r9) : WG x M [(0, .ref (gad (xz x) 0)), (1, .int i1), (2, .int i2), (3, .int i3), (4, .int i4), (5, .ref (gad (xz x) 162))] 0 [] := by
  unfold f_L_moveCorner at h
  refine g_aload X (j := 5) dL_moveCorner_0 rfl ?_
  refine g_iconst X (v := 0) dL_moveCorner_2 (by decide) ?_
  refine g_aload_n X (j := 0) dL_moveCorner_3 rfl rfl ?_
  refine g_iload_n X (j := 1) dL_moveCorner_4 rfl rfl ?_
  refine g_iload_n X (j := 2) dL_moveCorner_5 rfl rfl ?_
  refine g_iload_n X (j := 3) dL_moveCorner_6 rfl rfl ?_
  refine g_iload X (j := 4) dL_moveCorner_7 rfl ?_
  rcases bndT_e h with ⟨⟨n4, M5⟩, hc1, h⟩ | ⟨⟨v2, M3⟩, hc1, h⟩
  · by_cases hb0 : n4 = 3
    · have h := ite_t hb0 h
      subst hb0
      refine gt_L_17 X gT_c0 (cx_X10_moveCorner X.htr  hc1) (by decide) (Nat.le_of_ble_eq_true rfl) dL_moveCorner_9 hroom htab [] { startPc := 0, endPc := 14, handlerPc := 17, catchType := 21 } [({ startPc := 0, endPc := 14, handlerPc := 21, catchType := 13 } : ExceptionTableEntry)] rfl (fun z hz => absurd hz List.not_mem_nil) (by decide +kernel) (by decide) q_863 (List.mem_of_getElem? (i := 2) rfl) (fun q9 => ?_)
      refine g_astore XU (lv' := (6, .ref q9) :: [(0, .ref (gad (xz x) 0)), (1, .int i1), (2, .int i2), (3, .int i3), (4, .int i4), (5, .ref (gad (xz x) 162))]) dL_moveCorner_17 (by decide) rfl ?_
      refine g_iconst XU (v := 1) dL_moveCorner_19 (by decide) ?_
      exact (hR (1 : Int32) M5 _ _ (Option.some.inj h).symm dL_moveCorner_20)
    have h := ite_f hb0 h
    by_cases hb1 : n4 = 1
    · have h := ite_t hb1 h
      subst hb1
      refine gt_L_17 X gT_c0 (cx_X10_moveCorner X.htr  hc1) (by decide) (Nat.le_of_ble_eq_true rfl) dL_moveCorner_9 hroom htab [({ startPc := 0, endPc := 14, handlerPc := 17, catchType := 21 } : ExceptionTableEntry)] { startPc := 0, endPc := 14, handlerPc := 21, catchType := 13 } [] rfl (fun z hz => by simp only [List.mem_cons, List.not_mem_nil, or_false] at hz; rcases hz with rfl <;> first | exact Or.inr ⟨by decide, gEx 3, q_863, hnc 1 3 (by decide) (by decide) (by decide) (by decide) (by decide)⟩) (by decide +kernel) (by decide) q_809 (List.mem_of_getElem? (i := 0) rfl) (fun q9 => ?_)
      refine g_astore XU (lv' := (6, .ref q9) :: [(0, .ref (gad (xz x) 0)), (1, .int i1), (2, .int i2), (3, .int i3), (4, .int i4), (5, .ref (gad (xz x) 162))]) dL_moveCorner_21 (by decide) rfl ?_
      refine g_iconst XU (v := 2) dL_moveCorner_23 (by decide) ?_
      exact (hR (2 : Int32) M5 _ _ (Option.some.inj h).symm dL_moveCorner_24)
    · have h := ite_f hb1 h
      cases h
  refine gc_L_17 X gT_c0 (ct_X10_moveCorner X.htr  hc1) (by decide) (Nat.le_of_ble_eq_true rfl) dL_moveCorner_9 ?_
  refine g_i2l X dL_moveCorner_12 ?_
  refine g_last X gT_c162 (by decide +kernel) dL_moveCorner_13 ?_
  rw [tn_0]
  refine g_mem (fun M6 e7 => ?_)
  have h := bnd_e e7 h
  refine g_goto X (tgt := 25) dL_moveCorner_14 (by decide) ?_
  refine g_iconst X (v := 0) dL_moveCorner_25 (by decide) ?_
  refine g_up ?_
  exact hR (0 : Int32) M6 _ _ (Option.some.inj h).symm dL_moveCorner_26
theorem ct_L_moveCorner {l : Launch} {z : GZ} (htr : l.stackTraces = false) {i1 : Int32} {i2 : Int32} {i3 : Int32} {i4 : Int32} {M : GM} {F : Nat} {v : Int32} {M1 : GM} (h : f_L_moveCorner F i1 i2 i3 i4 M = some (v, M1)) : gMetW l z yL_moveCorner cL_moveCorner 7 [(0, 14, 17, 21), (0, 14, 21, 13)] [.ref (gad z 0), .int i1, .int i2, .int i3, .int i4, .ref (gad z 162)] M v M1 := gMetW_of (by decide +kernel) (Nat.le_of_ble_eq_true rfl) htr (fun x X XU ez el htab hnc hR => by subst ez; subst el; exact w_L_moveCorner X XU ⟨XU.2.2.2.2.2.2.2.2.2.1, XU.2.2.2.2.2.2.2.2.2.2.1⟩ htab hnc (fun v9 M9 lv9 pc9 e9 d9 => by cases e9; exact hR lv9 pc9 d9) h)
theorem gc_L_23 {x : GX} {cc : ByteArray} {nL d pc : Nat} {M : GM} {lv : List (Nat × Value)} {st : List Value} (X : GC x cc nL RL d) {i0 : Int32} {i1 : Int32} {M1 : GM} {r : Int32} (ht : gT 0 = 10) (hM : gMet (xl x) (xz x) yX10_setColour cX10_setColour 4 (some .int) 7 [.ref (gad (xz x) 0), .int i0, .int i1] M (some (.int r)) M1) (hd : 8 ≤ d) (hsum : (st.map fun v => v.category).sum ≤ 8) (dec : decode cc pc = .ok (.invokevirtual 23, 3)) (go : WG x M1 lv (pc + 3) (.int r :: st)) : WG x M lv pc (.int i1 :: .int i0 :: .ref (gad (xz x) 0) :: st) := g_callV X (n := 2) (As := [.int i0, .int i1]) (rest := st) hM ht (by decide) (gE_10 ht) rfl q_875 q_876 q_877 q_52 q_878 (by decide +kernel) rfl hd (by decide) rfl hsum dec go
theorem gt_L_23 {x : GX} {cc : ByteArray} {nL d pc : Nat} {M : GM} {lv : List (Nat × Value)} {st : List Value} (X : GC x cc nL RL d) {i0 : Int32} {i1 : Int32} {M1 : GM} {n9 : Nat} (ht : gT 0 = 10) (hM : gMetX (xl x) (xz x) yX10_setColour cX10_setColour 4 (some .int) 7 [.ref (gad (xz x) 0), .int i0, .int i1] M n9 M1) (hd : 8 ≤ d) (hsum : (st.map fun v => v.category).sum ≤ 8) (dec : decode cc pc = .ok (.invokevirtual 23, 3)) {hh : List (Nat × Nat × Nat × Nat)} (hroom : xcells x + 1 ≤ (xR x).cells ∧ xslots x + 6 ≤ (xR x).slots) (htab : (xc x).exceptionTable.toList = tableOf hh) (pre : List ExceptionTableEntry) (en : ExceptionTableEntry) (suf : List ExceptionTableEntry) (hsplit : tableOf hh = pre ++ en :: suf) (hpass : ∀ q ∈ pre, covers q pc = false ∨ (q.catchType ≠ 0 ∧ ∃ nm : String, Cond.classLink RL q.catchType nm ∈ GW ∧ va_Nc (gEx n9) nm (xs x))) (hcov : covers en pc = true) (h0 : en.catchType ≠ 0) (hlink : Cond.classLink RL en.catchType (gEx n9) ∈ GW) (hcast : Cond.castable (gEx n9) (gEx n9) ∈ gFaceL) (go : ∀ q : Nat, WG (xup x) M1 lv en.handlerPc [.ref q]) : WG x M lv pc (.int i1 :: .int i0 :: .ref (gad (xz x) 0) :: st) := g_tryV X (n := 2) (As := [.int i0, .int i1]) (rest := st) hM ht (by decide) (gE_10 ht) rfl q_875 q_876 q_877 q_52 q_878 (by decide +kernel) rfl hd (by decide) rfl hsum dec hroom htab pre en suf hsplit hpass hcov h0 hlink hcast go
theorem dL_setColour_0 : decode cL_setColour 0 = .ok (.aload_n 3, 1) := by decide +kernel
theorem dL_setColour_1 : decode cL_setColour 1 = .ok (.iconst 0, 1) := by decide +kernel
theorem dL_setColour_2 : decode cL_setColour 2 = .ok (.aload_n 0, 1) := by decide +kernel
theorem dL_setColour_3 : decode cL_setColour 3 = .ok (.iload_n 1, 1) := by decide +kernel
theorem dL_setColour_4 : decode cL_setColour 4 = .ok (.iload_n 2, 1) := by decide +kernel
theorem dL_setColour_5 : decode cL_setColour 5 = .ok (.invokevirtual 23, 3) := by decide +kernel
theorem dL_setColour_8 : decode cL_setColour 8 = .ok (.i2l, 1) := by decide +kernel
theorem dL_setColour_9 : decode cL_setColour 9 = .ok (.lastore, 1) := by decide +kernel
theorem dL_setColour_10 : decode cL_setColour 10 = .ok (.goto 11, 3) := by decide +kernel
theorem dL_setColour_13 : decode cL_setColour 13 = .ok (.astore 4, 2) := by decide +kernel
theorem dL_setColour_15 : decode cL_setColour 15 = .ok (.iconst 1, 1) := by decide +kernel
theorem dL_setColour_16 : decode cL_setColour 16 = .ok (.ireturn, 1) := by decide +kernel
theorem dL_setColour_17 : decode cL_setColour 17 = .ok (.astore 4, 2) := by decide +kernel
theorem dL_setColour_19 : decode cL_setColour 19 = .ok (.iconst 2, 1) := by decide +kernel
theorem dL_setColour_20 : decode cL_setColour 20 = .ok (.ireturn, 1) := by decide +kernel
theorem dL_setColour_21 : decode cL_setColour 21 = .ok (.iconst 0, 1) := by decide +kernel
theorem dL_setColour_22 : decode cL_setColour 22 = .ok (.ireturn, 1) := by decide +kernel
def f_L_setColour (F : Nat) (i1 : Int32) (i2 : Int32) (M : GM) : Option (Int32 × GM) := bndT (f_X10_setColour F i1 i2 M) (fun (n4, M5) => if n4 = 3 then (some ((1 : Int32), M5)) else (if n4 = 1 then (some ((2 : Int32), M5)) else (none))) (fun (v2, M3) => bnd (sL M3 162 0 v2.toInt64) (fun M6 => some ((0 : Int32), M6)))
set_option maxHeartbeats 4000000 in
set_option maxRecDepth 100000 in
theorem w_L_setColour {x : GX} (X : GC x cL_setColour 5 RL 8) (XU : GC (xup x) cL_setColour 5 RL 8) (hroom : xcells x + 1 ≤ (xR x).cells ∧ xslots x + 6 ≤ (xR x).slots) (htab : (xc x).exceptionTable.toList = tableOf [(0, 10, 13, 21), (0, 10, 17, 13)]) (hnc : gNcs (xs x)) {i1 : Int32} {i2 : Int32} {F : Nat} {M : GM} {r9 : (Int32 × GM)} (hR : ∀ (v9 : Int32) (M9 : GM) (lv9 : List (Nat × Value)) (pc9 : Nat), r9 = (v9, M9) → decode cL_setColour pc9 = .ok (.ireturn, 1) → WG (xup x) M9 lv9 pc9 [.int v9]) (h : f_L_setColour F i1 i2 M = some r9) : WG x M [(0, .ref (gad (xz x) 0)), (1, .int i1), (2, .int i2), (3, .ref (gad (xz x) 162))] 0 [] := by
  unfold f_L_setColour at h
  refine g_aload_n X (j := 3) dL_setColour_0 rfl rfl ?_
  refine g_iconst X (v := 0) dL_setColour_1 (by decide) ?_
  refine g_aload_n X (j := 0) dL_setColour_2 rfl rfl ?_
  refine g_iload_n X (j := 1) dL_setColour_3 rfl rfl ?_
  refine g_iload_n X (j := 2) dL_setColour_4 rfl rfl ?_
  rcases bndT_e h with ⟨⟨n4, M5⟩, hc1, h⟩ | ⟨⟨v2, M3⟩, hc1, h⟩
  · by_cases hb0 : n4 = 3
    · have h := ite_t hb0 h
      subst hb0
      refine gt_L_23 X gT_c0 (cx_X10_setColour X.htr  hc1) (by decide) (Nat.le_of_ble_eq_true rfl) dL_setColour_5 hroom htab [] { startPc := 0, endPc := 10, handlerPc := 13, catchType := 21 } [({ startPc := 0, endPc := 10, handlerPc := 17, catchType := 13 } : ExceptionTableEntry)] rfl (fun z hz => absurd hz List.not_mem_nil) (by decide +kernel) (by decide) q_863 (List.mem_of_getElem? (i := 2) rfl) (fun q9 => ?_)
      refine g_astore XU (lv' := (4, .ref q9) :: [(0, .ref (gad (xz x) 0)), (1, .int i1), (2, .int i2), (3, .ref (gad (xz x) 162))]) dL_setColour_13 (by decide) rfl ?_
      refine g_iconst XU (v := 1) dL_setColour_15 (by decide) ?_
      exact (hR (1 : Int32) M5 _ _ (Option.some.inj h).symm dL_setColour_16)
    have h := ite_f hb0 h
    by_cases hb1 : n4 = 1
    · have h := ite_t hb1 h
      subst hb1
      refine gt_L_23 X gT_c0 (cx_X10_setColour X.htr  hc1) (by decide) (Nat.le_of_ble_eq_true rfl) dL_setColour_5 hroom htab [({ startPc := 0, endPc := 10, handlerPc := 13, catchType := 21 } : ExceptionTableEntry)] { startPc := 0, endPc := 10, handlerPc := 17, catchType := 13 } [] rfl (fun z hz => by simp only [List.mem_cons, List.not_mem_nil, or_false] at hz; rcases hz with rfl <;> first | exact Or.inr ⟨by decide, gEx 3, q_863, hnc 1 3 (by decide) (by decide) (by decide) (by decide) (by decide)⟩) (by decide +kernel) (by decide) q_809 (List.mem_of_getElem? (i := 0) rfl) (fun q9 => ?_)
      refine g_astore XU (lv' := (4, .ref q9) :: [(0, .ref (gad (xz x) 0)), (1, .int i1), (2, .int i2), (3, .ref (gad (xz x) 162))]) dL_setColour_17 (by decide) rfl ?_
      refine g_iconst XU (v := 2) dL_setColour_19 (by decide) ?_
      exact (hR (2 : Int32) M5 _ _ (Option.some.inj h).symm dL_setColour_20)
    · have h := ite_f hb1 h
      cases h
  refine gc_L_23 X gT_c0 (ct_X10_setColour X.htr  hc1) (by decide) (Nat.le_of_ble_eq_true rfl) dL_setColour_5 ?_
  refine g_i2l X dL_setColour_8 ?_
  refine g_last X gT_c162 (by decide +kernel) dL_setColour_9 ?_
  rw [tn_0]
  refine g_mem (fun M6 e7 => ?_)
  have h := bnd_e e7 h
  refine g_goto X (tgt := 21) dL_setColour_10 (by decide) ?_
  refine g_iconst X (v := 0) dL_setColour_21 (by decide) ?_
  refine g_up ?_
  exact hR (0 : Int32) M6 _ _ (Option.some.inj h).symm dL_setColour_22
theorem ct_L_setColour {l : Launch} {z : GZ} (htr : l.stackTraces = false) {i1 : Int32} {i2 : Int32} {M : GM} {F : Nat} {v : Int32} {M1 : GM} (h : f_L_setColour F i1 i2 M = some (v, M1)) : gMetW l z yL_setColour cL_setColour 5 [(0, 10, 13, 21), (0, 10, 17, 13)] [.ref (gad z 0), .int i1, .int i2, .ref (gad z 162)] M v M1 := gMetW_of (by decide +kernel) (Nat.le_of_ble_eq_true rfl) htr (fun x X XU ez el htab hnc hR => by subst ez; subst el; exact w_L_setColour X XU ⟨XU.2.2.2.2.2.2.2.2.2.1, XU.2.2.2.2.2.2.2.2.2.2.1⟩ htab hnc (fun v9 M9 lv9 pc9 e9 d9 => by cases e9; exact hR lv9 pc9 d9) h)
theorem gc_L_27 {x : GX} {cc : ByteArray} {nL d pc : Nat} {M : GM} {lv : List (Nat × Value)} {st : List Value} (X : GC x cc nL RL d) {i0 : Int32} {i1 : Int32} {i2 : Int32} {i3 : Int32} {i4 : Int32} {i5 : Int32} {M1 : GM} {r : Int32} (ht : gT 0 = 10) (hM : gMet (xl x) (xz x) yX10_addPane cX10_addPane 9 (some .int) 7 [.ref (gad (xz x) 0), .int i0, .int i1, .int i2, .int i3, .int i4, .int i5] M (some (.int r)) M1) (hd : 8 ≤ d) (hsum : (st.map fun v => v.category).sum ≤ 8) (dec : decode cc pc = .ok (.invokevirtual 27, 3)) (go : WG x M1 lv (pc + 3) (.int r :: st)) : WG x M lv pc (.int i5 :: .int i4 :: .int i3 :: .int i2 :: .int i1 :: .int i0 :: .ref (gad (xz x) 0) :: st) := g_callV X (n := 6) (As := [.int i0, .int i1, .int i2, .int i3, .int i4, .int i5]) (rest := st) hM ht (by decide) (gE_10 ht) rfl q_882 q_883 q_884 q_52 q_885 (by decide +kernel) rfl hd (by decide) rfl hsum dec go
theorem gt_L_27 {x : GX} {cc : ByteArray} {nL d pc : Nat} {M : GM} {lv : List (Nat × Value)} {st : List Value} (X : GC x cc nL RL d) {i0 : Int32} {i1 : Int32} {i2 : Int32} {i3 : Int32} {i4 : Int32} {i5 : Int32} {M1 : GM} {n9 : Nat} (ht : gT 0 = 10) (hM : gMetX (xl x) (xz x) yX10_addPane cX10_addPane 9 (some .int) 7 [.ref (gad (xz x) 0), .int i0, .int i1, .int i2, .int i3, .int i4, .int i5] M n9 M1) (hd : 8 ≤ d) (hsum : (st.map fun v => v.category).sum ≤ 8) (dec : decode cc pc = .ok (.invokevirtual 27, 3)) {hh : List (Nat × Nat × Nat × Nat)} (hroom : xcells x + 1 ≤ (xR x).cells ∧ xslots x + 6 ≤ (xR x).slots) (htab : (xc x).exceptionTable.toList = tableOf hh) (pre : List ExceptionTableEntry) (en : ExceptionTableEntry) (suf : List ExceptionTableEntry) (hsplit : tableOf hh = pre ++ en :: suf) (hpass : ∀ q ∈ pre, covers q pc = false ∨ (q.catchType ≠ 0 ∧ ∃ nm : String, Cond.classLink RL q.catchType nm ∈ GW ∧ va_Nc (gEx n9) nm (xs x))) (hcov : covers en pc = true) (h0 : en.catchType ≠ 0) (hlink : Cond.classLink RL en.catchType (gEx n9) ∈ GW) (hcast : Cond.castable (gEx n9) (gEx n9) ∈ gFaceL) (go : ∀ q : Nat, WG (xup x) M1 lv en.handlerPc [.ref q]) : WG x M lv pc (.int i5 :: .int i4 :: .int i3 :: .int i2 :: .int i1 :: .int i0 :: .ref (gad (xz x) 0) :: st) := g_tryV X (n := 6) (As := [.int i0, .int i1, .int i2, .int i3, .int i4, .int i5]) (rest := st) hM ht (by decide) (gE_10 ht) rfl q_882 q_883 q_884 q_52 q_885 (by decide +kernel) rfl hd (by decide) rfl hsum dec hroom htab pre en suf hsplit hpass hcov h0 hlink hcast go
theorem dL_addPane_0 : decode cL_addPane 0 = .ok (.aload 7, 2) := by decide +kernel
theorem dL_addPane_2 : decode cL_addPane 2 = .ok (.iconst 0, 1) := by decide +kernel
theorem dL_addPane_3 : decode cL_addPane 3 = .ok (.aload_n 0, 1) := by decide +kernel
theorem dL_addPane_4 : decode cL_addPane 4 = .ok (.iload_n 1, 1) := by decide +kernel
theorem dL_addPane_5 : decode cL_addPane 5 = .ok (.iload_n 2, 1) := by decide +kernel
theorem dL_addPane_6 : decode cL_addPane 6 = .ok (.iload_n 3, 1) := by decide +kernel
theorem dL_addPane_7 : decode cL_addPane 7 = .ok (.iload 4, 2) := by decide +kernel
theorem dL_addPane_9 : decode cL_addPane 9 = .ok (.iload 5, 2) := by decide +kernel
theorem dL_addPane_11 : decode cL_addPane 11 = .ok (.iload 6, 2) := by decide +kernel
theorem dL_addPane_13 : decode cL_addPane 13 = .ok (.invokevirtual 27, 3) := by decide +kernel
theorem dL_addPane_16 : decode cL_addPane 16 = .ok (.i2l, 1) := by decide +kernel
theorem dL_addPane_17 : decode cL_addPane 17 = .ok (.lastore, 1) := by decide +kernel
theorem dL_addPane_18 : decode cL_addPane 18 = .ok (.goto 15, 3) := by decide +kernel
theorem dL_addPane_21 : decode cL_addPane 21 = .ok (.astore 8, 2) := by decide +kernel
theorem dL_addPane_23 : decode cL_addPane 23 = .ok (.iconst 1, 1) := by decide +kernel
theorem dL_addPane_24 : decode cL_addPane 24 = .ok (.ireturn, 1) := by decide +kernel
theorem dL_addPane_25 : decode cL_addPane 25 = .ok (.astore 8, 2) := by decide +kernel
theorem dL_addPane_27 : decode cL_addPane 27 = .ok (.iconst 2, 1) := by decide +kernel
theorem dL_addPane_28 : decode cL_addPane 28 = .ok (.ireturn, 1) := by decide +kernel
theorem dL_addPane_29 : decode cL_addPane 29 = .ok (.astore 8, 2) := by decide +kernel
theorem dL_addPane_31 : decode cL_addPane 31 = .ok (.iconst 3, 1) := by decide +kernel
theorem dL_addPane_32 : decode cL_addPane 32 = .ok (.ireturn, 1) := by decide +kernel
theorem dL_addPane_33 : decode cL_addPane 33 = .ok (.iconst 0, 1) := by decide +kernel
theorem dL_addPane_34 : decode cL_addPane 34 = .ok (.ireturn, 1) := by decide +kernel
def f_L_addPane (F : Nat) (i1 : Int32) (i2 : Int32) (i3 : Int32) (i4 : Int32) (i5 : Int32) (i6 : Int32) (M : GM) : Option (Int32 × GM) := bndT (f_X10_addPane F i1 i2 i3 i4 i5 i6 M) (fun (n4, M5) => if n4 = 3 then (some ((1 : Int32), M5)) else (if n4 = 1 then (some ((2 : Int32), M5)) else (if n4 = 2 then (some ((3 : Int32), M5)) else (none)))) (fun (v2, M3) => bnd (sL M3 162 0 v2.toInt64) (fun M6 => some ((0 : Int32), M6)))
set_option maxHeartbeats 4000000 in
set_option maxRecDepth 100000 in
theorem w_L_addPane {x : GX} (X : GC x cL_addPane 9 RL 8) (XU : GC (xup x) cL_addPane 9 RL 8) (hroom : xcells x + 1 ≤ (xR x).cells ∧ xslots x + 6 ≤ (xR x).slots) (htab : (xc x).exceptionTable.toList = tableOf [(0, 18, 21, 21), (0, 18, 25, 13), (0, 18, 29, 15)]) (hnc : gNcs (xs x)) {i1 : Int32} {i2 : Int32} {i3 : Int32} {i4 : Int32} {i5 : Int32} {i6 : Int32} {F : Nat} {M : GM} {r9 : (Int32 × GM)} (hR : ∀ (v9 : Int32) (M9 : GM) (lv9 : List (Nat × Value)) (pc9 : Nat), r9 = (v9, M9) → decode cL_addPane pc9 = .ok (.ireturn, 1) → WG (xup x) M9 lv9 pc9 [.int v9]) (h : f_L_addPane F i1 i2 i3 i4 i5 i6 M = some r9) : WG x M [(0, .ref (gad (xz x) 0)), (1, .int i1), (2, .int i2), (3, .int i3), (4, .int i4), (5, .int i5), (6, .int i6), (7, .ref (gad (xz x) 162))] 0 [] := by
  unfold f_L_addPane at h
  refine g_aload X (j := 7) dL_addPane_0 rfl ?_
  refine g_iconst X (v := 0) dL_addPane_2 (by decide) ?_
  refine g_aload_n X (j := 0) dL_addPane_3 rfl rfl ?_
  refine g_iload_n X (j := 1) dL_addPane_4 rfl rfl ?_
  refine g_iload_n X (j := 2) dL_addPane_5 rfl rfl ?_
  refine g_iload_n X (j := 3) dL_addPane_6 rfl rfl ?_
  refine g_iload X (j := 4) dL_addPane_7 rfl ?_
  refine g_iload X (j := 5) dL_addPane_9 rfl ?_
  refine g_iload X (j := 6) dL_addPane_11 rfl ?_
  rcases bndT_e h with ⟨⟨n4, M5⟩, hc1, h⟩ | ⟨⟨v2, M3⟩, hc1, h⟩
  · by_cases hb0 : n4 = 3
    · have h := ite_t hb0 h
      subst hb0
      refine gt_L_27 X gT_c0 (cx_X10_addPane X.htr  hc1) (by decide) (Nat.le_of_ble_eq_true rfl) dL_addPane_13 hroom htab [] { startPc := 0, endPc := 18, handlerPc := 21, catchType := 21 } [({ startPc := 0, endPc := 18, handlerPc := 25, catchType := 13 } : ExceptionTableEntry), ({ startPc := 0, endPc := 18, handlerPc := 29, catchType := 15 } : ExceptionTableEntry)] rfl (fun z hz => absurd hz List.not_mem_nil) (by decide +kernel) (by decide) q_863 (List.mem_of_getElem? (i := 2) rfl) (fun q9 => ?_)
      refine g_astore XU (lv' := (8, .ref q9) :: [(0, .ref (gad (xz x) 0)), (1, .int i1), (2, .int i2), (3, .int i3), (4, .int i4), (5, .int i5), (6, .int i6), (7, .ref (gad (xz x) 162))]) dL_addPane_21 (by decide) rfl ?_
      refine g_iconst XU (v := 1) dL_addPane_23 (by decide) ?_
      exact (hR (1 : Int32) M5 _ _ (Option.some.inj h).symm dL_addPane_24)
    have h := ite_f hb0 h
    by_cases hb1 : n4 = 1
    · have h := ite_t hb1 h
      subst hb1
      refine gt_L_27 X gT_c0 (cx_X10_addPane X.htr  hc1) (by decide) (Nat.le_of_ble_eq_true rfl) dL_addPane_13 hroom htab [({ startPc := 0, endPc := 18, handlerPc := 21, catchType := 21 } : ExceptionTableEntry)] { startPc := 0, endPc := 18, handlerPc := 25, catchType := 13 } [({ startPc := 0, endPc := 18, handlerPc := 29, catchType := 15 } : ExceptionTableEntry)] rfl (fun z hz => by simp only [List.mem_cons, List.not_mem_nil, or_false] at hz; rcases hz with rfl <;> first | exact Or.inr ⟨by decide, gEx 3, q_863, hnc 1 3 (by decide) (by decide) (by decide) (by decide) (by decide)⟩) (by decide +kernel) (by decide) q_809 (List.mem_of_getElem? (i := 0) rfl) (fun q9 => ?_)
      refine g_astore XU (lv' := (8, .ref q9) :: [(0, .ref (gad (xz x) 0)), (1, .int i1), (2, .int i2), (3, .int i3), (4, .int i4), (5, .int i5), (6, .int i6), (7, .ref (gad (xz x) 162))]) dL_addPane_25 (by decide) rfl ?_
      refine g_iconst XU (v := 2) dL_addPane_27 (by decide) ?_
      exact (hR (2 : Int32) M5 _ _ (Option.some.inj h).symm dL_addPane_28)
    have h := ite_f hb1 h
    by_cases hb2 : n4 = 2
    · have h := ite_t hb2 h
      subst hb2
      refine gt_L_27 X gT_c0 (cx_X10_addPane X.htr  hc1) (by decide) (Nat.le_of_ble_eq_true rfl) dL_addPane_13 hroom htab [({ startPc := 0, endPc := 18, handlerPc := 21, catchType := 21 } : ExceptionTableEntry), ({ startPc := 0, endPc := 18, handlerPc := 25, catchType := 13 } : ExceptionTableEntry)] { startPc := 0, endPc := 18, handlerPc := 29, catchType := 15 } [] rfl (fun z hz => by simp only [List.mem_cons, List.not_mem_nil, or_false] at hz; rcases hz with rfl | rfl <;> first | exact Or.inr ⟨by decide, gEx 3, q_863, hnc 2 3 (by decide) (by decide) (by decide) (by decide) (by decide)⟩ | exact Or.inr ⟨by decide, gEx 1, q_809, hnc 2 1 (by decide) (by decide) (by decide) (by decide) (by decide)⟩) (by decide +kernel) (by decide) q_810 (List.mem_of_getElem? (i := 1) rfl) (fun q9 => ?_)
      refine g_astore XU (lv' := (8, .ref q9) :: [(0, .ref (gad (xz x) 0)), (1, .int i1), (2, .int i2), (3, .int i3), (4, .int i4), (5, .int i5), (6, .int i6), (7, .ref (gad (xz x) 162))]) dL_addPane_29 (by decide) rfl ?_
      refine g_iconst XU (v := 3) dL_addPane_31 (by decide) ?_
      exact (hR (3 : Int32) M5 _ _ (Option.some.inj h).symm dL_addPane_32)
    · have h := ite_f hb2 h
      cases h
  refine gc_L_27 X gT_c0 (ct_X10_addPane X.htr  hc1) (by decide) (Nat.le_of_ble_eq_true rfl) dL_addPane_13 ?_
  refine g_i2l X dL_addPane_16 ?_
  refine g_last X gT_c162 (by decide +kernel) dL_addPane_17 ?_
  rw [tn_0]
  refine g_mem (fun M6 e7 => ?_)
  have h := bnd_e e7 h
  refine g_goto X (tgt := 33) dL_addPane_18 (by decide) ?_
  refine g_iconst X (v := 0) dL_addPane_33 (by decide) ?_
  refine g_up ?_
  exact hR (0 : Int32) M6 _ _ (Option.some.inj h).symm dL_addPane_34
theorem ct_L_addPane {l : Launch} {z : GZ} (htr : l.stackTraces = false) {i1 : Int32} {i2 : Int32} {i3 : Int32} {i4 : Int32} {i5 : Int32} {i6 : Int32} {M : GM} {F : Nat} {v : Int32} {M1 : GM} (h : f_L_addPane F i1 i2 i3 i4 i5 i6 M = some (v, M1)) : gMetW l z yL_addPane cL_addPane 9 [(0, 18, 21, 21), (0, 18, 25, 13), (0, 18, 29, 15)] [.ref (gad z 0), .int i1, .int i2, .int i3, .int i4, .int i5, .int i6, .ref (gad z 162)] M v M1 := gMetW_of (by decide +kernel) (Nat.le_of_ble_eq_true rfl) htr (fun x X XU ez el htab hnc hR => by subst ez; subst el; exact w_L_addPane X XU ⟨XU.2.2.2.2.2.2.2.2.2.1, XU.2.2.2.2.2.2.2.2.2.2.1⟩ htab hnc (fun v9 M9 lv9 pc9 e9 d9 => by cases e9; exact hR lv9 pc9 d9) h)
theorem gc_L_31 {x : GX} {cc : ByteArray} {nL d pc : Nat} {M : GM} {lv : List (Nat × Value)} {st : List Value} (X : GC x cc nL RL d) {i0 : Int32} {i1 : Int32} {M1 : GM} {r : Int32} (ht : gT 0 = 10) (hM : gMet (xl x) (xz x) yX10_show cX10_show 4 (some .boolean) 7 [.ref (gad (xz x) 0), .int i0, .int i1] M (some (.int r)) M1) (hd : 8 ≤ d) (hsum : (st.map fun v => v.category).sum ≤ 8) (dec : decode cc pc = .ok (.invokevirtual 31, 3)) (go : WG x M1 lv (pc + 3) (.int r :: st)) : WG x M lv pc (.int i1 :: .int i0 :: .ref (gad (xz x) 0) :: st) := g_callV X (n := 2) (As := [.int i0, .int i1]) (rest := st) hM ht (by decide) (gE_10 ht) rfl q_896 q_897 q_898 q_52 q_899 (by decide +kernel) rfl hd (by decide) rfl hsum dec go
theorem gt_L_31 {x : GX} {cc : ByteArray} {nL d pc : Nat} {M : GM} {lv : List (Nat × Value)} {st : List Value} (X : GC x cc nL RL d) {i0 : Int32} {i1 : Int32} {M1 : GM} {n9 : Nat} (ht : gT 0 = 10) (hM : gMetX (xl x) (xz x) yX10_show cX10_show 4 (some .boolean) 7 [.ref (gad (xz x) 0), .int i0, .int i1] M n9 M1) (hd : 8 ≤ d) (hsum : (st.map fun v => v.category).sum ≤ 8) (dec : decode cc pc = .ok (.invokevirtual 31, 3)) {hh : List (Nat × Nat × Nat × Nat)} (hroom : xcells x + 1 ≤ (xR x).cells ∧ xslots x + 6 ≤ (xR x).slots) (htab : (xc x).exceptionTable.toList = tableOf hh) (pre : List ExceptionTableEntry) (en : ExceptionTableEntry) (suf : List ExceptionTableEntry) (hsplit : tableOf hh = pre ++ en :: suf) (hpass : ∀ q ∈ pre, covers q pc = false ∨ (q.catchType ≠ 0 ∧ ∃ nm : String, Cond.classLink RL q.catchType nm ∈ GW ∧ va_Nc (gEx n9) nm (xs x))) (hcov : covers en pc = true) (h0 : en.catchType ≠ 0) (hlink : Cond.classLink RL en.catchType (gEx n9) ∈ GW) (hcast : Cond.castable (gEx n9) (gEx n9) ∈ gFaceL) (go : ∀ q : Nat, WG (xup x) M1 lv en.handlerPc [.ref q]) : WG x M lv pc (.int i1 :: .int i0 :: .ref (gad (xz x) 0) :: st) := g_tryV X (n := 2) (As := [.int i0, .int i1]) (rest := st) hM ht (by decide) (gE_10 ht) rfl q_896 q_897 q_898 q_52 q_899 (by decide +kernel) rfl hd (by decide) rfl hsum dec hroom htab pre en suf hsplit hpass hcov h0 hlink hcast go
theorem dL_show_0 : decode cL_show 0 = .ok (.aload_n 3, 1) := by decide +kernel
theorem dL_show_1 : decode cL_show 1 = .ok (.iconst 0, 1) := by decide +kernel
theorem dL_show_2 : decode cL_show 2 = .ok (.aload_n 0, 1) := by decide +kernel
theorem dL_show_3 : decode cL_show 3 = .ok (.iload_n 1, 1) := by decide +kernel
theorem dL_show_4 : decode cL_show 4 = .ok (.iload_n 2, 1) := by decide +kernel
theorem dL_show_5 : decode cL_show 5 = .ok (.invokevirtual 31, 3) := by decide +kernel
theorem dL_show_8 : decode cL_show 8 = .ok (.ifCond .eq 7, 3) := by decide +kernel
theorem dL_show_11 : decode cL_show 11 = .ok (.lconst 1, 1) := by decide +kernel
theorem dL_show_12 : decode cL_show 12 = .ok (.goto 4, 3) := by decide +kernel
theorem dL_show_15 : decode cL_show 15 = .ok (.lconst 0, 1) := by decide +kernel
theorem dL_show_16 : decode cL_show 16 = .ok (.lastore, 1) := by decide +kernel
theorem dL_show_17 : decode cL_show 17 = .ok (.goto 7, 3) := by decide +kernel
theorem dL_show_20 : decode cL_show 20 = .ok (.astore 4, 2) := by decide +kernel
theorem dL_show_22 : decode cL_show 22 = .ok (.iconst 1, 1) := by decide +kernel
theorem dL_show_23 : decode cL_show 23 = .ok (.ireturn, 1) := by decide +kernel
theorem dL_show_24 : decode cL_show 24 = .ok (.iconst 0, 1) := by decide +kernel
theorem dL_show_25 : decode cL_show 25 = .ok (.ireturn, 1) := by decide +kernel
def f_L_show (F : Nat) (i1 : Int32) (i2 : Int32) (M : GM) : Option (Int32 × GM) := bndT (f_X10_show F i1 i2 M) (fun (n4, M5) => if n4 = 3 then (some ((1 : Int32), M5)) else (none)) (fun (v2, M3) => if v2 = 0 then (bnd (sL M3 162 0 (0 : Int64)) (fun M6 => some ((0 : Int32), M6))) else (bnd (sL M3 162 0 (1 : Int64)) (fun M8 => some ((0 : Int32), M8))))
set_option maxHeartbeats 4000000 in
set_option maxRecDepth 100000 in
theorem w_L_show {x : GX} (X : GC x cL_show 5 RL 8) (XU : GC (xup x) cL_show 5 RL 8) (hroom : xcells x + 1 ≤ (xR x).cells ∧ xslots x + 6 ≤ (xR x).slots) (htab : (xc x).exceptionTable.toList = tableOf [(0, 17, 20, 21)]) (hnc : gNcs (xs x)) {i1 : Int32} {i2 : Int32} {F : Nat} {M : GM} {r9 : (Int32 × GM)} (hR : ∀ (v9 : Int32) (M9 : GM) (lv9 : List (Nat × Value)) (pc9 : Nat), r9 = (v9, M9) → decode cL_show pc9 = .ok (.ireturn, 1) → WG (xup x) M9 lv9 pc9 [.int v9]) (h : f_L_show F i1 i2 M = some r9) : WG x M [(0, .ref (gad (xz x) 0)), (1, .int i1), (2, .int i2), (3, .ref (gad (xz x) 162))] 0 [] := by
  unfold f_L_show at h
  refine g_aload_n X (j := 3) dL_show_0 rfl rfl ?_
  refine g_iconst X (v := 0) dL_show_1 (by decide) ?_
  refine g_aload_n X (j := 0) dL_show_2 rfl rfl ?_
  refine g_iload_n X (j := 1) dL_show_3 rfl rfl ?_
  refine g_iload_n X (j := 2) dL_show_4 rfl rfl ?_
  rcases bndT_e h with ⟨⟨n4, M5⟩, hc1, h⟩ | ⟨⟨v2, M3⟩, hc1, h⟩
  · by_cases hb0 : n4 = 3
    · have h := ite_t hb0 h
      subst hb0
      refine gt_L_31 X gT_c0 (cx_X10_show X.htr  hc1) (by decide) (Nat.le_of_ble_eq_true rfl) dL_show_5 hroom htab [] { startPc := 0, endPc := 17, handlerPc := 20, catchType := 21 } [] rfl (fun z hz => absurd hz List.not_mem_nil) (by decide +kernel) (by decide) q_863 (List.mem_of_getElem? (i := 2) rfl) (fun q9 => ?_)
      refine g_astore XU (lv' := (4, .ref q9) :: [(0, .ref (gad (xz x) 0)), (1, .int i1), (2, .int i2), (3, .ref (gad (xz x) 162))]) dL_show_20 (by decide) rfl ?_
      refine g_iconst XU (v := 1) dL_show_22 (by decide) ?_
      exact (hR (1 : Int32) M5 _ _ (Option.some.inj h).symm dL_show_23)
    · have h := ite_f hb0 h
      cases h
  refine gc_L_31 X gT_c0 (ct_X10_show X.htr  hc1) (by decide) (Nat.le_of_ble_eq_true rfl) dL_show_5 ?_
  refine g_if_eq X (tgt := 15) dL_show_8 (by decide) (fun hb => ?_) (fun hb => ?_)
  · have h := ite_t hb h
    refine g_lconst X (v := 0) dL_show_15 (by decide) ?_
    refine g_last X gT_c162 (by decide +kernel) dL_show_16 ?_
    rw [tn_0]
    refine g_mem (fun M6 e7 => ?_)
    have h := bnd_e e7 h
    refine g_goto X (tgt := 24) dL_show_17 (by decide) ?_
    refine g_iconst X (v := 0) dL_show_24 (by decide) ?_
    refine g_up ?_
    exact hR (0 : Int32) M6 _ _ (Option.some.inj h).symm dL_show_25
  · have h := ite_f hb h
    refine g_lconst X (v := 1) dL_show_11 (by decide) ?_
    refine g_goto X (tgt := 16) dL_show_12 (by decide) ?_
    refine g_last X gT_c162 (by decide +kernel) dL_show_16 ?_
    rw [tn_0]
    refine g_mem (fun M8 e9 => ?_)
    have h := bnd_e e9 h
    refine g_goto X (tgt := 24) dL_show_17 (by decide) ?_
    refine g_iconst X (v := 0) dL_show_24 (by decide) ?_
    refine g_up ?_
    exact hR (0 : Int32) M8 _ _ (Option.some.inj h).symm dL_show_25
theorem ct_L_show {l : Launch} {z : GZ} (htr : l.stackTraces = false) {i1 : Int32} {i2 : Int32} {M : GM} {F : Nat} {v : Int32} {M1 : GM} (h : f_L_show F i1 i2 M = some (v, M1)) : gMetW l z yL_show cL_show 5 [(0, 17, 20, 21)] [.ref (gad z 0), .int i1, .int i2, .ref (gad z 162)] M v M1 := gMetW_of (by decide +kernel) (Nat.le_of_ble_eq_true rfl) htr (fun x X XU ez el htab hnc hR => by subst ez; subst el; exact w_L_show X XU ⟨XU.2.2.2.2.2.2.2.2.2.1, XU.2.2.2.2.2.2.2.2.2.2.1⟩ htab hnc (fun v9 M9 lv9 pc9 e9 d9 => by cases e9; exact hR lv9 pc9 d9) h)
theorem gc_L_35 {x : GX} {cc : ByteArray} {nL d pc : Nat} {M : GM} {lv : List (Nat × Value)} {st : List Value} (X : GC x cc nL RL d) {i0 : Int32} {i1 : Int32} {i2 : Int32} {i3 : Int32} {M1 : GM} {r : Int32} (ht : gT 0 = 10) (hM : gMet (xl x) (xz x) yX10_setPattern cX10_setPattern 8 (some .int) 7 [.ref (gad (xz x) 0), .int i0, .int i1, .int i2, .int i3] M (some (.int r)) M1) (hd : 8 ≤ d) (hsum : (st.map fun v => v.category).sum ≤ 8) (dec : decode cc pc = .ok (.invokevirtual 35, 3)) (go : WG x M1 lv (pc + 3) (.int r :: st)) : WG x M lv pc (.int i3 :: .int i2 :: .int i1 :: .int i0 :: .ref (gad (xz x) 0) :: st) := g_callV X (n := 4) (As := [.int i0, .int i1, .int i2, .int i3]) (rest := st) hM ht (by decide) (gE_10 ht) rfl q_903 q_904 q_905 q_52 q_906 (by decide +kernel) rfl hd (by decide) rfl hsum dec go
theorem gt_L_35 {x : GX} {cc : ByteArray} {nL d pc : Nat} {M : GM} {lv : List (Nat × Value)} {st : List Value} (X : GC x cc nL RL d) {i0 : Int32} {i1 : Int32} {i2 : Int32} {i3 : Int32} {M1 : GM} {n9 : Nat} (ht : gT 0 = 10) (hM : gMetX (xl x) (xz x) yX10_setPattern cX10_setPattern 8 (some .int) 7 [.ref (gad (xz x) 0), .int i0, .int i1, .int i2, .int i3] M n9 M1) (hd : 8 ≤ d) (hsum : (st.map fun v => v.category).sum ≤ 8) (dec : decode cc pc = .ok (.invokevirtual 35, 3)) {hh : List (Nat × Nat × Nat × Nat)} (hroom : xcells x + 1 ≤ (xR x).cells ∧ xslots x + 6 ≤ (xR x).slots) (htab : (xc x).exceptionTable.toList = tableOf hh) (pre : List ExceptionTableEntry) (en : ExceptionTableEntry) (suf : List ExceptionTableEntry) (hsplit : tableOf hh = pre ++ en :: suf) (hpass : ∀ q ∈ pre, covers q pc = false ∨ (q.catchType ≠ 0 ∧ ∃ nm : String, Cond.classLink RL q.catchType nm ∈ GW ∧ va_Nc (gEx n9) nm (xs x))) (hcov : covers en pc = true) (h0 : en.catchType ≠ 0) (hlink : Cond.classLink RL en.catchType (gEx n9) ∈ GW) (hcast : Cond.castable (gEx n9) (gEx n9) ∈ gFaceL) (go : ∀ q : Nat, WG (xup x) M1 lv en.handlerPc [.ref q]) : WG x M lv pc (.int i3 :: .int i2 :: .int i1 :: .int i0 :: .ref (gad (xz x) 0) :: st) := g_tryV X (n := 4) (As := [.int i0, .int i1, .int i2, .int i3]) (rest := st) hM ht (by decide) (gE_10 ht) rfl q_903 q_904 q_905 q_52 q_906 (by decide +kernel) rfl hd (by decide) rfl hsum dec hroom htab pre en suf hsplit hpass hcov h0 hlink hcast go
theorem dL_setPattern_0 : decode cL_setPattern 0 = .ok (.aload 5, 2) := by decide +kernel
theorem dL_setPattern_2 : decode cL_setPattern 2 = .ok (.iconst 0, 1) := by decide +kernel
theorem dL_setPattern_3 : decode cL_setPattern 3 = .ok (.aload_n 0, 1) := by decide +kernel
theorem dL_setPattern_4 : decode cL_setPattern 4 = .ok (.iload_n 1, 1) := by decide +kernel
theorem dL_setPattern_5 : decode cL_setPattern 5 = .ok (.iload_n 2, 1) := by decide +kernel
theorem dL_setPattern_6 : decode cL_setPattern 6 = .ok (.iload_n 3, 1) := by decide +kernel
theorem dL_setPattern_7 : decode cL_setPattern 7 = .ok (.iload 4, 2) := by decide +kernel
theorem dL_setPattern_9 : decode cL_setPattern 9 = .ok (.invokevirtual 35, 3) := by decide +kernel
theorem dL_setPattern_12 : decode cL_setPattern 12 = .ok (.i2l, 1) := by decide +kernel
theorem dL_setPattern_13 : decode cL_setPattern 13 = .ok (.lastore, 1) := by decide +kernel
theorem dL_setPattern_14 : decode cL_setPattern 14 = .ok (.goto 11, 3) := by decide +kernel
theorem dL_setPattern_17 : decode cL_setPattern 17 = .ok (.astore 6, 2) := by decide +kernel
theorem dL_setPattern_19 : decode cL_setPattern 19 = .ok (.iconst 1, 1) := by decide +kernel
theorem dL_setPattern_20 : decode cL_setPattern 20 = .ok (.ireturn, 1) := by decide +kernel
theorem dL_setPattern_21 : decode cL_setPattern 21 = .ok (.astore 6, 2) := by decide +kernel
theorem dL_setPattern_23 : decode cL_setPattern 23 = .ok (.iconst 2, 1) := by decide +kernel
theorem dL_setPattern_24 : decode cL_setPattern 24 = .ok (.ireturn, 1) := by decide +kernel
theorem dL_setPattern_25 : decode cL_setPattern 25 = .ok (.iconst 0, 1) := by decide +kernel
theorem dL_setPattern_26 : decode cL_setPattern 26 = .ok (.ireturn, 1) := by decide +kernel
def f_L_setPattern (F : Nat) (i1 : Int32) (i2 : Int32) (i3 : Int32) (i4 : Int32) (M : GM) : Option (Int32 × GM) := bndT (f_X10_setPattern F i1 i2 i3 i4 M) (fun (n4, M5) => if n4 = 3 then (some ((1 : Int32), M5)) else (if n4 = 1 then (some ((2 : Int32), M5)) else (none))) (fun (v2, M3) => bnd (sL M3 162 0 v2.toInt64) (fun M6 => some ((0 : Int32), M6)))
set_option maxHeartbeats 4000000 in
set_option maxRecDepth 100000 in
theorem w_L_setPattern {x : GX} (X : GC x cL_setPattern 7 RL 8) (XU : GC (xup x) cL_setPattern 7 RL 8) (hroom : xcells x + 1 ≤ (xR x).cells ∧ xslots x + 6 ≤ (xR x).slots) (htab : (xc x).exceptionTable.toList = tableOf [(0, 14, 17, 21), (0, 14, 21, 13)]) (hnc : gNcs (xs x)) {i1 : Int32} {i2 : Int32} {i3 : Int32} {i4 : Int32} {F : Nat} {M : GM} {r9 : (Int32 × GM)} (hR : ∀ (v9 : Int32) (M9 : GM) (lv9 : List (Nat × Value)) (pc9 : Nat), r9 = (v9, M9) → decode cL_setPattern pc9 = .ok (.ireturn, 1) → WG (xup x) M9 lv9 pc9 [.int v9]) (h : f_L_setPattern F i1 i2 i3 i4 M = some r9) : WG x M [(0, .ref (gad (xz x) 0)), (1, .int i1), (2, .int i2), (3, .int i3), (4, .int i4), (5, .ref (gad (xz x) 162))] 0 [] := by
  unfold f_L_setPattern at h
  refine g_aload X (j := 5) dL_setPattern_0 rfl ?_
  refine g_iconst X (v := 0) dL_setPattern_2 (by decide) ?_
  refine g_aload_n X (j := 0) dL_setPattern_3 rfl rfl ?_
  refine g_iload_n X (j := 1) dL_setPattern_4 rfl rfl ?_
  refine g_iload_n X (j := 2) dL_setPattern_5 rfl rfl ?_
  refine g_iload_n X (j := 3) dL_setPattern_6 rfl rfl ?_
  refine g_iload X (j := 4) dL_setPattern_7 rfl ?_
  rcases bndT_e h with ⟨⟨n4, M5⟩, hc1, h⟩ | ⟨⟨v2, M3⟩, hc1, h⟩
  · by_cases hb0 : n4 = 3
    · have h := ite_t hb0 h
      subst hb0
      refine gt_L_35 X gT_c0 (cx_X10_setPattern X.htr  hc1) (by decide) (Nat.le_of_ble_eq_true rfl) dL_setPattern_9 hroom htab [] { startPc := 0, endPc := 14, handlerPc := 17, catchType := 21 } [({ startPc := 0, endPc := 14, handlerPc := 21, catchType := 13 } : ExceptionTableEntry)] rfl (fun z hz => absurd hz List.not_mem_nil) (by decide +kernel) (by decide) q_863 (List.mem_of_getElem? (i := 2) rfl) (fun q9 => ?_)
      refine g_astore XU (lv' := (6, .ref q9) :: [(0, .ref (gad (xz x) 0)), (1, .int i1), (2, .int i2), (3, .int i3), (4, .int i4), (5, .ref (gad (xz x) 162))]) dL_setPattern_17 (by decide) rfl ?_
      refine g_iconst XU (v := 1) dL_setPattern_19 (by decide) ?_
      exact (hR (1 : Int32) M5 _ _ (Option.some.inj h).symm dL_setPattern_20)
    have h := ite_f hb0 h
    by_cases hb1 : n4 = 1
    · have h := ite_t hb1 h
      subst hb1
      refine gt_L_35 X gT_c0 (cx_X10_setPattern X.htr  hc1) (by decide) (Nat.le_of_ble_eq_true rfl) dL_setPattern_9 hroom htab [({ startPc := 0, endPc := 14, handlerPc := 17, catchType := 21 } : ExceptionTableEntry)] { startPc := 0, endPc := 14, handlerPc := 21, catchType := 13 } [] rfl (fun z hz => by simp only [List.mem_cons, List.not_mem_nil, or_false] at hz; rcases hz with rfl <;> first | exact Or.inr ⟨by decide, gEx 3, q_863, hnc 1 3 (by decide) (by decide) (by decide) (by decide) (by decide)⟩) (by decide +kernel) (by decide) q_809 (List.mem_of_getElem? (i := 0) rfl) (fun q9 => ?_)
      refine g_astore XU (lv' := (6, .ref q9) :: [(0, .ref (gad (xz x) 0)), (1, .int i1), (2, .int i2), (3, .int i3), (4, .int i4), (5, .ref (gad (xz x) 162))]) dL_setPattern_21 (by decide) rfl ?_
      refine g_iconst XU (v := 2) dL_setPattern_23 (by decide) ?_
      exact (hR (2 : Int32) M5 _ _ (Option.some.inj h).symm dL_setPattern_24)
    · have h := ite_f hb1 h
      cases h
  refine gc_L_35 X gT_c0 (ct_X10_setPattern X.htr  hc1) (by decide) (Nat.le_of_ble_eq_true rfl) dL_setPattern_9 ?_
  refine g_i2l X dL_setPattern_12 ?_
  refine g_last X gT_c162 (by decide +kernel) dL_setPattern_13 ?_
  rw [tn_0]
  refine g_mem (fun M6 e7 => ?_)
  have h := bnd_e e7 h
  refine g_goto X (tgt := 25) dL_setPattern_14 (by decide) ?_
  refine g_iconst X (v := 0) dL_setPattern_25 (by decide) ?_
  refine g_up ?_
  exact hR (0 : Int32) M6 _ _ (Option.some.inj h).symm dL_setPattern_26
theorem ct_L_setPattern {l : Launch} {z : GZ} (htr : l.stackTraces = false) {i1 : Int32} {i2 : Int32} {i3 : Int32} {i4 : Int32} {M : GM} {F : Nat} {v : Int32} {M1 : GM} (h : f_L_setPattern F i1 i2 i3 i4 M = some (v, M1)) : gMetW l z yL_setPattern cL_setPattern 7 [(0, 14, 17, 21), (0, 14, 21, 13)] [.ref (gad z 0), .int i1, .int i2, .int i3, .int i4, .ref (gad z 162)] M v M1 := gMetW_of (by decide +kernel) (Nat.le_of_ble_eq_true rfl) htr (fun x X XU ez el htab hnc hR => by subst ez; subst el; exact w_L_setPattern X XU ⟨XU.2.2.2.2.2.2.2.2.2.1, XU.2.2.2.2.2.2.2.2.2.2.1⟩ htab hnc (fun v9 M9 lv9 pc9 e9 d9 => by cases e9; exact hR lv9 pc9 d9) h)
theorem gc_L_38 {x : GX} {cc : ByteArray} {nL d pc : Nat} {M : GM} {lv : List (Nat × Value)} {st : List Value} (X : GC x cc nL RL d) {i0 : Int32} {i1 : Int32} {M1 : GM} {r : Int32} (ht : gT 0 = 10) (hM : gMet (xl x) (xz x) yX10_setRepeats cX10_setRepeats 4 (some .boolean) 7 [.ref (gad (xz x) 0), .int i0, .int i1] M (some (.int r)) M1) (hd : 8 ≤ d) (hsum : (st.map fun v => v.category).sum ≤ 8) (dec : decode cc pc = .ok (.invokevirtual 38, 3)) (go : WG x M1 lv (pc + 3) (.int r :: st)) : WG x M lv pc (.int i1 :: .int i0 :: .ref (gad (xz x) 0) :: st) := g_callV X (n := 2) (As := [.int i0, .int i1]) (rest := st) hM ht (by decide) (gE_10 ht) rfl q_915 q_916 q_917 q_52 q_918 (by decide +kernel) rfl hd (by decide) rfl hsum dec go
theorem gt_L_38 {x : GX} {cc : ByteArray} {nL d pc : Nat} {M : GM} {lv : List (Nat × Value)} {st : List Value} (X : GC x cc nL RL d) {i0 : Int32} {i1 : Int32} {M1 : GM} {n9 : Nat} (ht : gT 0 = 10) (hM : gMetX (xl x) (xz x) yX10_setRepeats cX10_setRepeats 4 (some .boolean) 7 [.ref (gad (xz x) 0), .int i0, .int i1] M n9 M1) (hd : 8 ≤ d) (hsum : (st.map fun v => v.category).sum ≤ 8) (dec : decode cc pc = .ok (.invokevirtual 38, 3)) {hh : List (Nat × Nat × Nat × Nat)} (hroom : xcells x + 1 ≤ (xR x).cells ∧ xslots x + 6 ≤ (xR x).slots) (htab : (xc x).exceptionTable.toList = tableOf hh) (pre : List ExceptionTableEntry) (en : ExceptionTableEntry) (suf : List ExceptionTableEntry) (hsplit : tableOf hh = pre ++ en :: suf) (hpass : ∀ q ∈ pre, covers q pc = false ∨ (q.catchType ≠ 0 ∧ ∃ nm : String, Cond.classLink RL q.catchType nm ∈ GW ∧ va_Nc (gEx n9) nm (xs x))) (hcov : covers en pc = true) (h0 : en.catchType ≠ 0) (hlink : Cond.classLink RL en.catchType (gEx n9) ∈ GW) (hcast : Cond.castable (gEx n9) (gEx n9) ∈ gFaceL) (go : ∀ q : Nat, WG (xup x) M1 lv en.handlerPc [.ref q]) : WG x M lv pc (.int i1 :: .int i0 :: .ref (gad (xz x) 0) :: st) := g_tryV X (n := 2) (As := [.int i0, .int i1]) (rest := st) hM ht (by decide) (gE_10 ht) rfl q_915 q_916 q_917 q_52 q_918 (by decide +kernel) rfl hd (by decide) rfl hsum dec hroom htab pre en suf hsplit hpass hcov h0 hlink hcast go
theorem dL_setRepeats_0 : decode cL_setRepeats 0 = .ok (.aload_n 3, 1) := by decide +kernel
theorem dL_setRepeats_1 : decode cL_setRepeats 1 = .ok (.iconst 0, 1) := by decide +kernel
theorem dL_setRepeats_2 : decode cL_setRepeats 2 = .ok (.aload_n 0, 1) := by decide +kernel
theorem dL_setRepeats_3 : decode cL_setRepeats 3 = .ok (.iload_n 1, 1) := by decide +kernel
theorem dL_setRepeats_4 : decode cL_setRepeats 4 = .ok (.iload_n 2, 1) := by decide +kernel
theorem dL_setRepeats_5 : decode cL_setRepeats 5 = .ok (.invokevirtual 38, 3) := by decide +kernel
theorem dL_setRepeats_8 : decode cL_setRepeats 8 = .ok (.ifCond .eq 7, 3) := by decide +kernel
theorem dL_setRepeats_11 : decode cL_setRepeats 11 = .ok (.lconst 1, 1) := by decide +kernel
theorem dL_setRepeats_12 : decode cL_setRepeats 12 = .ok (.goto 4, 3) := by decide +kernel
theorem dL_setRepeats_15 : decode cL_setRepeats 15 = .ok (.lconst 0, 1) := by decide +kernel
theorem dL_setRepeats_16 : decode cL_setRepeats 16 = .ok (.lastore, 1) := by decide +kernel
theorem dL_setRepeats_17 : decode cL_setRepeats 17 = .ok (.goto 7, 3) := by decide +kernel
theorem dL_setRepeats_20 : decode cL_setRepeats 20 = .ok (.astore 4, 2) := by decide +kernel
theorem dL_setRepeats_22 : decode cL_setRepeats 22 = .ok (.iconst 1, 1) := by decide +kernel
theorem dL_setRepeats_23 : decode cL_setRepeats 23 = .ok (.ireturn, 1) := by decide +kernel
theorem dL_setRepeats_24 : decode cL_setRepeats 24 = .ok (.iconst 0, 1) := by decide +kernel
theorem dL_setRepeats_25 : decode cL_setRepeats 25 = .ok (.ireturn, 1) := by decide +kernel
def f_L_setRepeats (F : Nat) (i1 : Int32) (i2 : Int32) (M : GM) : Option (Int32 × GM) := bndT (f_X10_setRepeats F i1 i2 M) (fun (n4, M5) => if n4 = 3 then (some ((1 : Int32), M5)) else (none)) (fun (v2, M3) => if v2 = 0 then (bnd (sL M3 162 0 (0 : Int64)) (fun M6 => some ((0 : Int32), M6))) else (bnd (sL M3 162 0 (1 : Int64)) (fun M8 => some ((0 : Int32), M8))))
set_option maxHeartbeats 4000000 in
set_option maxRecDepth 100000 in
theorem w_L_setRepeats {x : GX} (X : GC x cL_setRepeats 5 RL 8) (XU : GC (xup x) cL_setRepeats 5 RL 8) (hroom : xcells x + 1 ≤ (xR x).cells ∧ xslots x + 6 ≤ (xR x).slots) (htab : (xc x).exceptionTable.toList = tableOf [(0, 17, 20, 21)]) (hnc : gNcs (xs x)) {i1 : Int32} {i2 : Int32} {F : Nat} {M : GM} {r9 : (Int32 × GM)} (hR : ∀ (v9 : Int32) (M9 : GM) (lv9 : List (Nat × Value)) (pc9 : Nat), r9 = (v9, M9) → decode cL_setRepeats pc9 = .ok (.ireturn, 1) → WG (xup x) M9 lv9 pc9 [.int v9]) (h : f_L_setRepeats F i1 i2 M = some r9) : WG x M [(0, .ref (gad (xz x) 0)), (1, .int i1), (2, .int i2), (3, .ref (gad (xz x) 162))] 0 [] := by
  unfold f_L_setRepeats at h
  refine g_aload_n X (j := 3) dL_setRepeats_0 rfl rfl ?_
  refine g_iconst X (v := 0) dL_setRepeats_1 (by decide) ?_
  refine g_aload_n X (j := 0) dL_setRepeats_2 rfl rfl ?_
  refine g_iload_n X (j := 1) dL_setRepeats_3 rfl rfl ?_
  refine g_iload_n X (j := 2) dL_setRepeats_4 rfl rfl ?_
  rcases bndT_e h with ⟨⟨n4, M5⟩, hc1, h⟩ | ⟨⟨v2, M3⟩, hc1, h⟩
  · by_cases hb0 : n4 = 3
    · have h := ite_t hb0 h
      subst hb0
      refine gt_L_38 X gT_c0 (cx_X10_setRepeats X.htr  hc1) (by decide) (Nat.le_of_ble_eq_true rfl) dL_setRepeats_5 hroom htab [] { startPc := 0, endPc := 17, handlerPc := 20, catchType := 21 } [] rfl (fun z hz => absurd hz List.not_mem_nil) (by decide +kernel) (by decide) q_863 (List.mem_of_getElem? (i := 2) rfl) (fun q9 => ?_)
      refine g_astore XU (lv' := (4, .ref q9) :: [(0, .ref (gad (xz x) 0)), (1, .int i1), (2, .int i2), (3, .ref (gad (xz x) 162))]) dL_setRepeats_20 (by decide) rfl ?_
      refine g_iconst XU (v := 1) dL_setRepeats_22 (by decide) ?_
      exact (hR (1 : Int32) M5 _ _ (Option.some.inj h).symm dL_setRepeats_23)
    · have h := ite_f hb0 h
      cases h
  refine gc_L_38 X gT_c0 (ct_X10_setRepeats X.htr  hc1) (by decide) (Nat.le_of_ble_eq_true rfl) dL_setRepeats_5 ?_
  refine g_if_eq X (tgt := 15) dL_setRepeats_8 (by decide) (fun hb => ?_) (fun hb => ?_)
  · have h := ite_t hb h
    refine g_lconst X (v := 0) dL_setRepeats_15 (by decide) ?_
    refine g_last X gT_c162 (by decide +kernel) dL_setRepeats_16 ?_
    rw [tn_0]
    refine g_mem (fun M6 e7 => ?_)
    have h := bnd_e e7 h
    refine g_goto X (tgt := 24) dL_setRepeats_17 (by decide) ?_
    refine g_iconst X (v := 0) dL_setRepeats_24 (by decide) ?_
    refine g_up ?_
    exact hR (0 : Int32) M6 _ _ (Option.some.inj h).symm dL_setRepeats_25
  · have h := ite_f hb h
    refine g_lconst X (v := 1) dL_setRepeats_11 (by decide) ?_
    refine g_goto X (tgt := 16) dL_setRepeats_12 (by decide) ?_
    refine g_last X gT_c162 (by decide +kernel) dL_setRepeats_16 ?_
    rw [tn_0]
    refine g_mem (fun M8 e9 => ?_)
    have h := bnd_e e9 h
    refine g_goto X (tgt := 24) dL_setRepeats_17 (by decide) ?_
    refine g_iconst X (v := 0) dL_setRepeats_24 (by decide) ?_
    refine g_up ?_
    exact hR (0 : Int32) M8 _ _ (Option.some.inj h).symm dL_setRepeats_25
theorem ct_L_setRepeats {l : Launch} {z : GZ} (htr : l.stackTraces = false) {i1 : Int32} {i2 : Int32} {M : GM} {F : Nat} {v : Int32} {M1 : GM} (h : f_L_setRepeats F i1 i2 M = some (v, M1)) : gMetW l z yL_setRepeats cL_setRepeats 5 [(0, 17, 20, 21)] [.ref (gad z 0), .int i1, .int i2, .ref (gad z 162)] M v M1 := gMetW_of (by decide +kernel) (Nat.le_of_ble_eq_true rfl) htr (fun x X XU ez el htab hnc hR => by subst ez; subst el; exact w_L_setRepeats X XU ⟨XU.2.2.2.2.2.2.2.2.2.1, XU.2.2.2.2.2.2.2.2.2.2.1⟩ htab hnc (fun v9 M9 lv9 pc9 e9 d9 => by cases e9; exact hR lv9 pc9 d9) h)
theorem gc_L_41 {x : GX} {cc : ByteArray} {nL d pc : Nat} {M : GM} {lv : List (Nat × Value)} {st : List Value} (X : GC x cc nL RL d) {i0 : Int32} {i1 : Int32} {i2 : Int32} {i3 : Int32} {i4 : Int32} {M1 : GM} {r : Int32} (ht : gT 0 = 10) (hM : gMet (xl x) (xz x) yX10_setCamera cX10_setCamera 6 (some .int) 7 [.ref (gad (xz x) 0), .int i0, .int i1, .int i2, .int i3, .int i4] M (some (.int r)) M1) (hd : 8 ≤ d) (hsum : (st.map fun v => v.category).sum ≤ 8) (dec : decode cc pc = .ok (.invokevirtual 41, 3)) (go : WG x M1 lv (pc + 3) (.int r :: st)) : WG x M lv pc (.int i4 :: .int i3 :: .int i2 :: .int i1 :: .int i0 :: .ref (gad (xz x) 0) :: st) := g_callV X (n := 5) (As := [.int i0, .int i1, .int i2, .int i3, .int i4]) (rest := st) hM ht (by decide) (gE_10 ht) rfl q_922 q_923 q_924 q_52 q_925 (by decide +kernel) rfl hd (by decide) rfl hsum dec go
theorem gt_L_41 {x : GX} {cc : ByteArray} {nL d pc : Nat} {M : GM} {lv : List (Nat × Value)} {st : List Value} (X : GC x cc nL RL d) {i0 : Int32} {i1 : Int32} {i2 : Int32} {i3 : Int32} {i4 : Int32} {M1 : GM} {n9 : Nat} (ht : gT 0 = 10) (hM : gMetX (xl x) (xz x) yX10_setCamera cX10_setCamera 6 (some .int) 7 [.ref (gad (xz x) 0), .int i0, .int i1, .int i2, .int i3, .int i4] M n9 M1) (hd : 8 ≤ d) (hsum : (st.map fun v => v.category).sum ≤ 8) (dec : decode cc pc = .ok (.invokevirtual 41, 3)) {hh : List (Nat × Nat × Nat × Nat)} (hroom : xcells x + 1 ≤ (xR x).cells ∧ xslots x + 6 ≤ (xR x).slots) (htab : (xc x).exceptionTable.toList = tableOf hh) (pre : List ExceptionTableEntry) (en : ExceptionTableEntry) (suf : List ExceptionTableEntry) (hsplit : tableOf hh = pre ++ en :: suf) (hpass : ∀ q ∈ pre, covers q pc = false ∨ (q.catchType ≠ 0 ∧ ∃ nm : String, Cond.classLink RL q.catchType nm ∈ GW ∧ va_Nc (gEx n9) nm (xs x))) (hcov : covers en pc = true) (h0 : en.catchType ≠ 0) (hlink : Cond.classLink RL en.catchType (gEx n9) ∈ GW) (hcast : Cond.castable (gEx n9) (gEx n9) ∈ gFaceL) (go : ∀ q : Nat, WG (xup x) M1 lv en.handlerPc [.ref q]) : WG x M lv pc (.int i4 :: .int i3 :: .int i2 :: .int i1 :: .int i0 :: .ref (gad (xz x) 0) :: st) := g_tryV X (n := 5) (As := [.int i0, .int i1, .int i2, .int i3, .int i4]) (rest := st) hM ht (by decide) (gE_10 ht) rfl q_922 q_923 q_924 q_52 q_925 (by decide +kernel) rfl hd (by decide) rfl hsum dec hroom htab pre en suf hsplit hpass hcov h0 hlink hcast go
theorem dL_setCamera_0 : decode cL_setCamera 0 = .ok (.aload 6, 2) := by decide +kernel
theorem dL_setCamera_2 : decode cL_setCamera 2 = .ok (.iconst 0, 1) := by decide +kernel
theorem dL_setCamera_3 : decode cL_setCamera 3 = .ok (.aload_n 0, 1) := by decide +kernel
theorem dL_setCamera_4 : decode cL_setCamera 4 = .ok (.iload_n 1, 1) := by decide +kernel
theorem dL_setCamera_5 : decode cL_setCamera 5 = .ok (.iload_n 2, 1) := by decide +kernel
theorem dL_setCamera_6 : decode cL_setCamera 6 = .ok (.iload_n 3, 1) := by decide +kernel
theorem dL_setCamera_7 : decode cL_setCamera 7 = .ok (.iload 4, 2) := by decide +kernel
theorem dL_setCamera_9 : decode cL_setCamera 9 = .ok (.iload 5, 2) := by decide +kernel
theorem dL_setCamera_11 : decode cL_setCamera 11 = .ok (.invokevirtual 41, 3) := by decide +kernel
theorem dL_setCamera_14 : decode cL_setCamera 14 = .ok (.i2l, 1) := by decide +kernel
theorem dL_setCamera_15 : decode cL_setCamera 15 = .ok (.lastore, 1) := by decide +kernel
theorem dL_setCamera_16 : decode cL_setCamera 16 = .ok (.goto 11, 3) := by decide +kernel
theorem dL_setCamera_19 : decode cL_setCamera 19 = .ok (.astore 7, 2) := by decide +kernel
theorem dL_setCamera_21 : decode cL_setCamera 21 = .ok (.iconst 1, 1) := by decide +kernel
theorem dL_setCamera_22 : decode cL_setCamera 22 = .ok (.ireturn, 1) := by decide +kernel
theorem dL_setCamera_23 : decode cL_setCamera 23 = .ok (.astore 7, 2) := by decide +kernel
theorem dL_setCamera_25 : decode cL_setCamera 25 = .ok (.iconst 2, 1) := by decide +kernel
theorem dL_setCamera_26 : decode cL_setCamera 26 = .ok (.ireturn, 1) := by decide +kernel
theorem dL_setCamera_27 : decode cL_setCamera 27 = .ok (.iconst 0, 1) := by decide +kernel
theorem dL_setCamera_28 : decode cL_setCamera 28 = .ok (.ireturn, 1) := by decide +kernel
def f_L_setCamera (F : Nat) (i1 : Int32) (i2 : Int32) (i3 : Int32) (i4 : Int32) (i5 : Int32) (M : GM) : Option (Int32 × GM) := bndT (f_X10_setCamera F i1 i2 i3 i4 i5 M) (fun (n4, M5) => if n4 = 3 then (some ((1 : Int32), M5)) else (if n4 = 1 then (some ((2 : Int32), M5)) else (none))) (fun (v2, M3) => bnd (sL M3 162 0 v2.toInt64) (fun M6 => some ((0 : Int32), M6)))
set_option maxHeartbeats 4000000 in
set_option maxRecDepth 100000 in
theorem w_L_setCamera {x : GX} (X : GC x cL_setCamera 8 RL 8) (XU : GC (xup x) cL_setCamera 8 RL 8) (hroom : xcells x + 1 ≤ (xR x).cells ∧ xslots x + 6 ≤ (xR x).slots) (htab : (xc x).exceptionTable.toList = tableOf [(0, 16, 19, 21), (0, 16, 23, 13)]) (hnc : gNcs (xs x)) {i1 : Int32} {i2 : Int32} {i3 : Int32} {i4 : Int32} {i5 : Int32} {F : Nat} {M : GM} {r9 : (Int32 × GM)} (hR : ∀ (v9 : Int32) (M9 : GM) (lv9 : List (Nat × Value)) (pc9 : Nat), r9 = (v9, M9) → decode cL_setCamera pc9 = .ok (.ireturn, 1) → WG (xup x) M9 lv9 pc9 [.int v9]) (h : f_L_setCamera F i1 i2 i3 i4 i5 M = some r9) : WG x M [(0, .ref (gad (xz x) 0)), (1, .int i1), (2, .int i2), (3, .int i3), (4, .int i4), (5, .int i5), (6, .ref (gad (xz x) 162))] 0 [] := by
  unfold f_L_setCamera at h
  refine g_aload X (j := 6) dL_setCamera_0 rfl ?_
  refine g_iconst X (v := 0) dL_setCamera_2 (by decide) ?_
  refine g_aload_n X (j := 0) dL_setCamera_3 rfl rfl ?_
  refine g_iload_n X (j := 1) dL_setCamera_4 rfl rfl ?_
  refine g_iload_n X (j := 2) dL_setCamera_5 rfl rfl ?_
  refine g_iload_n X (j := 3) dL_setCamera_6 rfl rfl ?_
  refine g_iload X (j := 4) dL_setCamera_7 rfl ?_
  refine g_iload X (j := 5) dL_setCamera_9 rfl ?_
  rcases bndT_e h with ⟨⟨n4, M5⟩, hc1, h⟩ | ⟨⟨v2, M3⟩, hc1, h⟩
  · by_cases hb0 : n4 = 3
    · have h := ite_t hb0 h
      subst hb0
      refine gt_L_41 X gT_c0 (cx_X10_setCamera X.htr  hc1) (by decide) (Nat.le_of_ble_eq_true rfl) dL_setCamera_11 hroom htab [] { startPc := 0, endPc := 16, handlerPc := 19, catchType := 21 } [({ startPc := 0, endPc := 16, handlerPc := 23, catchType := 13 } : ExceptionTableEntry)] rfl (fun z hz => absurd hz List.not_mem_nil) (by decide +kernel) (by decide) q_863 (List.mem_of_getElem? (i := 2) rfl) (fun q9 => ?_)
      refine g_astore XU (lv' := (7, .ref q9) :: [(0, .ref (gad (xz x) 0)), (1, .int i1), (2, .int i2), (3, .int i3), (4, .int i4), (5, .int i5), (6, .ref (gad (xz x) 162))]) dL_setCamera_19 (by decide) rfl ?_
      refine g_iconst XU (v := 1) dL_setCamera_21 (by decide) ?_
      exact (hR (1 : Int32) M5 _ _ (Option.some.inj h).symm dL_setCamera_22)
    have h := ite_f hb0 h
    by_cases hb1 : n4 = 1
    · have h := ite_t hb1 h
      subst hb1
      refine gt_L_41 X gT_c0 (cx_X10_setCamera X.htr  hc1) (by decide) (Nat.le_of_ble_eq_true rfl) dL_setCamera_11 hroom htab [({ startPc := 0, endPc := 16, handlerPc := 19, catchType := 21 } : ExceptionTableEntry)] { startPc := 0, endPc := 16, handlerPc := 23, catchType := 13 } [] rfl (fun z hz => by simp only [List.mem_cons, List.not_mem_nil, or_false] at hz; rcases hz with rfl <;> first | exact Or.inr ⟨by decide, gEx 3, q_863, hnc 1 3 (by decide) (by decide) (by decide) (by decide) (by decide)⟩) (by decide +kernel) (by decide) q_809 (List.mem_of_getElem? (i := 0) rfl) (fun q9 => ?_)
      refine g_astore XU (lv' := (7, .ref q9) :: [(0, .ref (gad (xz x) 0)), (1, .int i1), (2, .int i2), (3, .int i3), (4, .int i4), (5, .int i5), (6, .ref (gad (xz x) 162))]) dL_setCamera_23 (by decide) rfl ?_
      refine g_iconst XU (v := 2) dL_setCamera_25 (by decide) ?_
      exact (hR (2 : Int32) M5 _ _ (Option.some.inj h).symm dL_setCamera_26)
    · have h := ite_f hb1 h
      cases h
  refine gc_L_41 X gT_c0 (ct_X10_setCamera X.htr  hc1) (by decide) (Nat.le_of_ble_eq_true rfl) dL_setCamera_11 ?_
  refine g_i2l X dL_setCamera_14 ?_
  refine g_last X gT_c162 (by decide +kernel) dL_setCamera_15 ?_
  rw [tn_0]
  refine g_mem (fun M6 e7 => ?_)
  have h := bnd_e e7 h
  refine g_goto X (tgt := 27) dL_setCamera_16 (by decide) ?_
  refine g_iconst X (v := 0) dL_setCamera_27 (by decide) ?_
  refine g_up ?_
  exact hR (0 : Int32) M6 _ _ (Option.some.inj h).symm dL_setCamera_28
theorem ct_L_setCamera {l : Launch} {z : GZ} (htr : l.stackTraces = false) {i1 : Int32} {i2 : Int32} {i3 : Int32} {i4 : Int32} {i5 : Int32} {M : GM} {F : Nat} {v : Int32} {M1 : GM} (h : f_L_setCamera F i1 i2 i3 i4 i5 M = some (v, M1)) : gMetW l z yL_setCamera cL_setCamera 8 [(0, 16, 19, 21), (0, 16, 23, 13)] [.ref (gad z 0), .int i1, .int i2, .int i3, .int i4, .int i5, .ref (gad z 162)] M v M1 := gMetW_of (by decide +kernel) (Nat.le_of_ble_eq_true rfl) htr (fun x X XU ez el htab hnc hR => by subst ez; subst el; exact w_L_setCamera X XU ⟨XU.2.2.2.2.2.2.2.2.2.1, XU.2.2.2.2.2.2.2.2.2.2.1⟩ htab hnc (fun v9 M9 lv9 pc9 e9 d9 => by cases e9; exact hR lv9 pc9 d9) h)
theorem gc_L_45 {x : GX} {cc : ByteArray} {nL d pc : Nat} {M : GM} {lv : List (Nat × Value)} {st : List Value} (X : GC x cc nL RL d) {i0 : Int32} {i1 : Int32} {M1 : GM} {r : Int32} (ht : gT 0 = 10) (hM : gMet (xl x) (xz x) yX10_setLens cX10_setLens 3 (some .int) 6 [.ref (gad (xz x) 0), .int i0, .int i1] M (some (.int r)) M1) (hd : 7 ≤ d) (hsum : (st.map fun v => v.category).sum ≤ 8) (dec : decode cc pc = .ok (.invokevirtual 45, 3)) (go : WG x M1 lv (pc + 3) (.int r :: st)) : WG x M lv pc (.int i1 :: .int i0 :: .ref (gad (xz x) 0) :: st) := g_callV X (n := 2) (As := [.int i0, .int i1]) (rest := st) hM ht (by decide) (gE_10 ht) rfl q_939 q_940 q_941 q_52 q_942 (by decide +kernel) rfl hd (by decide) rfl hsum dec go
theorem gt_L_45 {x : GX} {cc : ByteArray} {nL d pc : Nat} {M : GM} {lv : List (Nat × Value)} {st : List Value} (X : GC x cc nL RL d) {i0 : Int32} {i1 : Int32} {M1 : GM} {n9 : Nat} (ht : gT 0 = 10) (hM : gMetX (xl x) (xz x) yX10_setLens cX10_setLens 3 (some .int) 6 [.ref (gad (xz x) 0), .int i0, .int i1] M n9 M1) (hd : 7 ≤ d) (hsum : (st.map fun v => v.category).sum ≤ 8) (dec : decode cc pc = .ok (.invokevirtual 45, 3)) {hh : List (Nat × Nat × Nat × Nat)} (hroom : xcells x + 1 ≤ (xR x).cells ∧ xslots x + 6 ≤ (xR x).slots) (htab : (xc x).exceptionTable.toList = tableOf hh) (pre : List ExceptionTableEntry) (en : ExceptionTableEntry) (suf : List ExceptionTableEntry) (hsplit : tableOf hh = pre ++ en :: suf) (hpass : ∀ q ∈ pre, covers q pc = false ∨ (q.catchType ≠ 0 ∧ ∃ nm : String, Cond.classLink RL q.catchType nm ∈ GW ∧ va_Nc (gEx n9) nm (xs x))) (hcov : covers en pc = true) (h0 : en.catchType ≠ 0) (hlink : Cond.classLink RL en.catchType (gEx n9) ∈ GW) (hcast : Cond.castable (gEx n9) (gEx n9) ∈ gFaceL) (go : ∀ q : Nat, WG (xup x) M1 lv en.handlerPc [.ref q]) : WG x M lv pc (.int i1 :: .int i0 :: .ref (gad (xz x) 0) :: st) := g_tryV X (n := 2) (As := [.int i0, .int i1]) (rest := st) hM ht (by decide) (gE_10 ht) rfl q_939 q_940 q_941 q_52 q_942 (by decide +kernel) rfl hd (by decide) rfl hsum dec hroom htab pre en suf hsplit hpass hcov h0 hlink hcast go
theorem dL_setLens_0 : decode cL_setLens 0 = .ok (.aload_n 3, 1) := by decide +kernel
theorem dL_setLens_1 : decode cL_setLens 1 = .ok (.iconst 0, 1) := by decide +kernel
theorem dL_setLens_2 : decode cL_setLens 2 = .ok (.aload_n 0, 1) := by decide +kernel
theorem dL_setLens_3 : decode cL_setLens 3 = .ok (.iload_n 1, 1) := by decide +kernel
theorem dL_setLens_4 : decode cL_setLens 4 = .ok (.iload_n 2, 1) := by decide +kernel
theorem dL_setLens_5 : decode cL_setLens 5 = .ok (.invokevirtual 45, 3) := by decide +kernel
theorem dL_setLens_8 : decode cL_setLens 8 = .ok (.i2l, 1) := by decide +kernel
theorem dL_setLens_9 : decode cL_setLens 9 = .ok (.lastore, 1) := by decide +kernel
theorem dL_setLens_10 : decode cL_setLens 10 = .ok (.goto 7, 3) := by decide +kernel
theorem dL_setLens_13 : decode cL_setLens 13 = .ok (.astore 4, 2) := by decide +kernel
theorem dL_setLens_15 : decode cL_setLens 15 = .ok (.iconst 1, 1) := by decide +kernel
theorem dL_setLens_16 : decode cL_setLens 16 = .ok (.ireturn, 1) := by decide +kernel
theorem dL_setLens_17 : decode cL_setLens 17 = .ok (.iconst 0, 1) := by decide +kernel
theorem dL_setLens_18 : decode cL_setLens 18 = .ok (.ireturn, 1) := by decide +kernel
def f_L_setLens (F : Nat) (i1 : Int32) (i2 : Int32) (M : GM) : Option (Int32 × GM) := bndT (f_X10_setLens F i1 i2 M) (fun (n4, M5) => if n4 = 1 then (some ((1 : Int32), M5)) else (none)) (fun (v2, M3) => bnd (sL M3 162 0 v2.toInt64) (fun M6 => some ((0 : Int32), M6)))
set_option maxHeartbeats 4000000 in
set_option maxRecDepth 100000 in
theorem w_L_setLens {x : GX} (X : GC x cL_setLens 5 RL 8) (XU : GC (xup x) cL_setLens 5 RL 8) (hroom : xcells x + 1 ≤ (xR x).cells ∧ xslots x + 6 ≤ (xR x).slots) (htab : (xc x).exceptionTable.toList = tableOf [(0, 10, 13, 13)]) (hnc : gNcs (xs x)) {i1 : Int32} {i2 : Int32} {F : Nat} {M : GM} {r9 : (Int32 × GM)} (hR : ∀ (v9 : Int32) (M9 : GM) (lv9 : List (Nat × Value)) (pc9 : Nat), r9 = (v9, M9) → decode cL_setLens pc9 = .ok (.ireturn, 1) → WG (xup x) M9 lv9 pc9 [.int v9]) (h : f_L_setLens F i1 i2 M = some r9) : WG x M [(0, .ref (gad (xz x) 0)), (1, .int i1), (2, .int i2), (3, .ref (gad (xz x) 162))] 0 [] := by
  unfold f_L_setLens at h
  refine g_aload_n X (j := 3) dL_setLens_0 rfl rfl ?_
  refine g_iconst X (v := 0) dL_setLens_1 (by decide) ?_
  refine g_aload_n X (j := 0) dL_setLens_2 rfl rfl ?_
  refine g_iload_n X (j := 1) dL_setLens_3 rfl rfl ?_
  refine g_iload_n X (j := 2) dL_setLens_4 rfl rfl ?_
  rcases bndT_e h with ⟨⟨n4, M5⟩, hc1, h⟩ | ⟨⟨v2, M3⟩, hc1, h⟩
  · by_cases hb0 : n4 = 1
    · have h := ite_t hb0 h
      subst hb0
      refine gt_L_45 X gT_c0 (cx_X10_setLens X.htr  hc1) (by decide) (Nat.le_of_ble_eq_true rfl) dL_setLens_5 hroom htab [] { startPc := 0, endPc := 10, handlerPc := 13, catchType := 13 } [] rfl (fun z hz => absurd hz List.not_mem_nil) (by decide +kernel) (by decide) q_809 (List.mem_of_getElem? (i := 0) rfl) (fun q9 => ?_)
      refine g_astore XU (lv' := (4, .ref q9) :: [(0, .ref (gad (xz x) 0)), (1, .int i1), (2, .int i2), (3, .ref (gad (xz x) 162))]) dL_setLens_13 (by decide) rfl ?_
      refine g_iconst XU (v := 1) dL_setLens_15 (by decide) ?_
      exact (hR (1 : Int32) M5 _ _ (Option.some.inj h).symm dL_setLens_16)
    · have h := ite_f hb0 h
      cases h
  refine gc_L_45 X gT_c0 (ct_X10_setLens X.htr  hc1) (by decide) (Nat.le_of_ble_eq_true rfl) dL_setLens_5 ?_
  refine g_i2l X dL_setLens_8 ?_
  refine g_last X gT_c162 (by decide +kernel) dL_setLens_9 ?_
  rw [tn_0]
  refine g_mem (fun M6 e7 => ?_)
  have h := bnd_e e7 h
  refine g_goto X (tgt := 17) dL_setLens_10 (by decide) ?_
  refine g_iconst X (v := 0) dL_setLens_17 (by decide) ?_
  refine g_up ?_
  exact hR (0 : Int32) M6 _ _ (Option.some.inj h).symm dL_setLens_18
theorem ct_L_setLens {l : Launch} {z : GZ} (htr : l.stackTraces = false) {i1 : Int32} {i2 : Int32} {M : GM} {F : Nat} {v : Int32} {M1 : GM} (h : f_L_setLens F i1 i2 M = some (v, M1)) : gMetW l z yL_setLens cL_setLens 5 [(0, 10, 13, 13)] [.ref (gad z 0), .int i1, .int i2, .ref (gad z 162)] M v M1 := gMetW_of (by decide +kernel) (Nat.le_of_ble_eq_true rfl) htr (fun x X XU ez el htab hnc hR => by subst ez; subst el; exact w_L_setLens X XU ⟨XU.2.2.2.2.2.2.2.2.2.1, XU.2.2.2.2.2.2.2.2.2.2.1⟩ htab hnc (fun v9 M9 lv9 pc9 e9 d9 => by cases e9; exact hR lv9 pc9 d9) h)
theorem gc_L_48 {x : GX} {cc : ByteArray} {nL d pc : Nat} {M : GM} {lv : List (Nat × Value)} {st : List Value} (X : GC x cc nL RL d) {i0 : Int32} {M1 : GM} {r : Int32} (ht : gT 0 = 10) (hM : gMet (xl x) (xz x) yX10_setBackground cX10_setBackground 3 (some .int) 7 [.ref (gad (xz x) 0), .int i0] M (some (.int r)) M1) (hd : 8 ≤ d) (hsum : (st.map fun v => v.category).sum ≤ 8) (dec : decode cc pc = .ok (.invokevirtual 48, 3)) (go : WG x M1 lv (pc + 3) (.int r :: st)) : WG x M lv pc (.int i0 :: .ref (gad (xz x) 0) :: st) := g_callV X (n := 1) (As := [.int i0]) (rest := st) hM ht (by decide) (gE_10 ht) rfl q_948 q_949 q_950 q_52 q_951 (by decide +kernel) rfl hd (by decide) rfl hsum dec go
theorem gt_L_48 {x : GX} {cc : ByteArray} {nL d pc : Nat} {M : GM} {lv : List (Nat × Value)} {st : List Value} (X : GC x cc nL RL d) {i0 : Int32} {M1 : GM} {n9 : Nat} (ht : gT 0 = 10) (hM : gMetX (xl x) (xz x) yX10_setBackground cX10_setBackground 3 (some .int) 7 [.ref (gad (xz x) 0), .int i0] M n9 M1) (hd : 8 ≤ d) (hsum : (st.map fun v => v.category).sum ≤ 8) (dec : decode cc pc = .ok (.invokevirtual 48, 3)) {hh : List (Nat × Nat × Nat × Nat)} (hroom : xcells x + 1 ≤ (xR x).cells ∧ xslots x + 6 ≤ (xR x).slots) (htab : (xc x).exceptionTable.toList = tableOf hh) (pre : List ExceptionTableEntry) (en : ExceptionTableEntry) (suf : List ExceptionTableEntry) (hsplit : tableOf hh = pre ++ en :: suf) (hpass : ∀ q ∈ pre, covers q pc = false ∨ (q.catchType ≠ 0 ∧ ∃ nm : String, Cond.classLink RL q.catchType nm ∈ GW ∧ va_Nc (gEx n9) nm (xs x))) (hcov : covers en pc = true) (h0 : en.catchType ≠ 0) (hlink : Cond.classLink RL en.catchType (gEx n9) ∈ GW) (hcast : Cond.castable (gEx n9) (gEx n9) ∈ gFaceL) (go : ∀ q : Nat, WG (xup x) M1 lv en.handlerPc [.ref q]) : WG x M lv pc (.int i0 :: .ref (gad (xz x) 0) :: st) := g_tryV X (n := 1) (As := [.int i0]) (rest := st) hM ht (by decide) (gE_10 ht) rfl q_948 q_949 q_950 q_52 q_951 (by decide +kernel) rfl hd (by decide) rfl hsum dec hroom htab pre en suf hsplit hpass hcov h0 hlink hcast go
theorem dL_setBackground_0 : decode cL_setBackground 0 = .ok (.aload_n 2, 1) := by decide +kernel
theorem dL_setBackground_1 : decode cL_setBackground 1 = .ok (.iconst 0, 1) := by decide +kernel
theorem dL_setBackground_2 : decode cL_setBackground 2 = .ok (.aload_n 0, 1) := by decide +kernel
theorem dL_setBackground_3 : decode cL_setBackground 3 = .ok (.iload_n 1, 1) := by decide +kernel
theorem dL_setBackground_4 : decode cL_setBackground 4 = .ok (.invokevirtual 48, 3) := by decide +kernel
theorem dL_setBackground_7 : decode cL_setBackground 7 = .ok (.i2l, 1) := by decide +kernel
theorem dL_setBackground_8 : decode cL_setBackground 8 = .ok (.lastore, 1) := by decide +kernel
theorem dL_setBackground_9 : decode cL_setBackground 9 = .ok (.goto 6, 3) := by decide +kernel
theorem dL_setBackground_12 : decode cL_setBackground 12 = .ok (.astore_n 3, 1) := by decide +kernel
theorem dL_setBackground_13 : decode cL_setBackground 13 = .ok (.iconst 1, 1) := by decide +kernel
theorem dL_setBackground_14 : decode cL_setBackground 14 = .ok (.ireturn, 1) := by decide +kernel
theorem dL_setBackground_15 : decode cL_setBackground 15 = .ok (.iconst 0, 1) := by decide +kernel
theorem dL_setBackground_16 : decode cL_setBackground 16 = .ok (.ireturn, 1) := by decide +kernel
def f_L_setBackground (F : Nat) (i1 : Int32) (M : GM) : Option (Int32 × GM) := bndT (f_X10_setBackground F i1 M) (fun (n4, M5) => if n4 = 1 then (some ((1 : Int32), M5)) else (none)) (fun (v2, M3) => bnd (sL M3 162 0 v2.toInt64) (fun M6 => some ((0 : Int32), M6)))
set_option maxHeartbeats 4000000 in
set_option maxRecDepth 100000 in
theorem w_L_setBackground {x : GX} (X : GC x cL_setBackground 4 RL 8) (XU : GC (xup x) cL_setBackground 4 RL 8) (hroom : xcells x + 1 ≤ (xR x).cells ∧ xslots x + 6 ≤ (xR x).slots) (htab : (xc x).exceptionTable.toList = tableOf [(0, 9, 12, 13)]) (hnc : gNcs (xs x)) {i1 : Int32} {F : Nat} {M : GM} {r9 : (Int32 × GM)} (hR : ∀ (v9 : Int32) (M9 : GM) (lv9 : List (Nat × Value)) (pc9 : Nat), r9 = (v9, M9) → decode cL_setBackground pc9 = .ok (.ireturn, 1) → WG (xup x) M9 lv9 pc9 [.int v9]) (h : f_L_setBackground F i1 M = some r9) : WG x M [(0, .ref (gad (xz x) 0)), (1, .int i1), (2, .ref (gad (xz x) 162))] 0 [] := by
  unfold f_L_setBackground at h
  refine g_aload_n X (j := 2) dL_setBackground_0 rfl rfl ?_
  refine g_iconst X (v := 0) dL_setBackground_1 (by decide) ?_
  refine g_aload_n X (j := 0) dL_setBackground_2 rfl rfl ?_
  refine g_iload_n X (j := 1) dL_setBackground_3 rfl rfl ?_
  rcases bndT_e h with ⟨⟨n4, M5⟩, hc1, h⟩ | ⟨⟨v2, M3⟩, hc1, h⟩
  · by_cases hb0 : n4 = 1
    · have h := ite_t hb0 h
      subst hb0
      refine gt_L_48 X gT_c0 (cx_X10_setBackground X.htr  hc1) (by decide) (Nat.le_of_ble_eq_true rfl) dL_setBackground_4 hroom htab [] { startPc := 0, endPc := 9, handlerPc := 12, catchType := 13 } [] rfl (fun z hz => absurd hz List.not_mem_nil) (by decide +kernel) (by decide) q_809 (List.mem_of_getElem? (i := 0) rfl) (fun q9 => ?_)
      refine g_astore_n XU (lv' := (3, .ref q9) :: [(0, .ref (gad (xz x) 0)), (1, .int i1), (2, .ref (gad (xz x) 162))]) dL_setBackground_12 rfl (by decide) rfl ?_
      refine g_iconst XU (v := 1) dL_setBackground_13 (by decide) ?_
      exact (hR (1 : Int32) M5 _ _ (Option.some.inj h).symm dL_setBackground_14)
    · have h := ite_f hb0 h
      cases h
  refine gc_L_48 X gT_c0 (ct_X10_setBackground X.htr  hc1) (by decide) (Nat.le_of_ble_eq_true rfl) dL_setBackground_4 ?_
  refine g_i2l X dL_setBackground_7 ?_
  refine g_last X gT_c162 (by decide +kernel) dL_setBackground_8 ?_
  rw [tn_0]
  refine g_mem (fun M6 e7 => ?_)
  have h := bnd_e e7 h
  refine g_goto X (tgt := 15) dL_setBackground_9 (by decide) ?_
  refine g_iconst X (v := 0) dL_setBackground_15 (by decide) ?_
  refine g_up ?_
  exact hR (0 : Int32) M6 _ _ (Option.some.inj h).symm dL_setBackground_16
theorem ct_L_setBackground {l : Launch} {z : GZ} (htr : l.stackTraces = false) {i1 : Int32} {M : GM} {F : Nat} {v : Int32} {M1 : GM} (h : f_L_setBackground F i1 M = some (v, M1)) : gMetW l z yL_setBackground cL_setBackground 4 [(0, 9, 12, 13)] [.ref (gad z 0), .int i1, .ref (gad z 162)] M v M1 := gMetW_of (by decide +kernel) (Nat.le_of_ble_eq_true rfl) htr (fun x X XU ez el htab hnc hR => by subst ez; subst el; exact w_L_setBackground X XU ⟨XU.2.2.2.2.2.2.2.2.2.1, XU.2.2.2.2.2.2.2.2.2.2.1⟩ htab hnc (fun v9 M9 lv9 pc9 e9 d9 => by cases e9; exact hR lv9 pc9 d9) h)
theorem gc_L_52 {x : GX} {cc : ByteArray} {nL d pc : Nat} {M : GM} {lv : List (Nat × Value)} {st : List Value} (X : GC x cc nL RL d) {i0 : Int32} {i1 : Int32} {M1 : GM} {r : Int32} (ht : gT 0 = 10) (hM : gMet (xl x) (xz x) yX10_seen cX10_seen 3 (some .int) 7 [.ref (gad (xz x) 0), .int i0, .int i1] M (some (.int r)) M1) (hd : 8 ≤ d) (hsum : (st.map fun v => v.category).sum ≤ 8) (dec : decode cc pc = .ok (.invokevirtual 52, 3)) (go : WG x M1 lv (pc + 3) (.int r :: st)) : WG x M lv pc (.int i1 :: .int i0 :: .ref (gad (xz x) 0) :: st) := g_callV X (n := 2) (As := [.int i0, .int i1]) (rest := st) hM ht (by decide) (gE_10 ht) rfl q_955 q_660 q_661 q_52 q_662 (by decide +kernel) rfl hd (by decide) rfl hsum dec go
theorem gt_L_52 {x : GX} {cc : ByteArray} {nL d pc : Nat} {M : GM} {lv : List (Nat × Value)} {st : List Value} (X : GC x cc nL RL d) {i0 : Int32} {i1 : Int32} {M1 : GM} {n9 : Nat} (ht : gT 0 = 10) (hM : gMetX (xl x) (xz x) yX10_seen cX10_seen 3 (some .int) 7 [.ref (gad (xz x) 0), .int i0, .int i1] M n9 M1) (hd : 8 ≤ d) (hsum : (st.map fun v => v.category).sum ≤ 8) (dec : decode cc pc = .ok (.invokevirtual 52, 3)) {hh : List (Nat × Nat × Nat × Nat)} (hroom : xcells x + 1 ≤ (xR x).cells ∧ xslots x + 6 ≤ (xR x).slots) (htab : (xc x).exceptionTable.toList = tableOf hh) (pre : List ExceptionTableEntry) (en : ExceptionTableEntry) (suf : List ExceptionTableEntry) (hsplit : tableOf hh = pre ++ en :: suf) (hpass : ∀ q ∈ pre, covers q pc = false ∨ (q.catchType ≠ 0 ∧ ∃ nm : String, Cond.classLink RL q.catchType nm ∈ GW ∧ va_Nc (gEx n9) nm (xs x))) (hcov : covers en pc = true) (h0 : en.catchType ≠ 0) (hlink : Cond.classLink RL en.catchType (gEx n9) ∈ GW) (hcast : Cond.castable (gEx n9) (gEx n9) ∈ gFaceL) (go : ∀ q : Nat, WG (xup x) M1 lv en.handlerPc [.ref q]) : WG x M lv pc (.int i1 :: .int i0 :: .ref (gad (xz x) 0) :: st) := g_tryV X (n := 2) (As := [.int i0, .int i1]) (rest := st) hM ht (by decide) (gE_10 ht) rfl q_955 q_660 q_661 q_52 q_662 (by decide +kernel) rfl hd (by decide) rfl hsum dec hroom htab pre en suf hsplit hpass hcov h0 hlink hcast go
theorem dL_seen_0 : decode cL_seen 0 = .ok (.aload_n 3, 1) := by decide +kernel
theorem dL_seen_1 : decode cL_seen 1 = .ok (.iconst 0, 1) := by decide +kernel
theorem dL_seen_2 : decode cL_seen 2 = .ok (.aload_n 0, 1) := by decide +kernel
theorem dL_seen_3 : decode cL_seen 3 = .ok (.iload_n 1, 1) := by decide +kernel
theorem dL_seen_4 : decode cL_seen 4 = .ok (.iload_n 2, 1) := by decide +kernel
theorem dL_seen_5 : decode cL_seen 5 = .ok (.invokevirtual 52, 3) := by decide +kernel
theorem dL_seen_8 : decode cL_seen 8 = .ok (.i2l, 1) := by decide +kernel
theorem dL_seen_9 : decode cL_seen 9 = .ok (.lastore, 1) := by decide +kernel
theorem dL_seen_10 : decode cL_seen 10 = .ok (.goto 7, 3) := by decide +kernel
theorem dL_seen_13 : decode cL_seen 13 = .ok (.astore 4, 2) := by decide +kernel
theorem dL_seen_15 : decode cL_seen 15 = .ok (.iconst 1, 1) := by decide +kernel
theorem dL_seen_16 : decode cL_seen 16 = .ok (.ireturn, 1) := by decide +kernel
theorem dL_seen_17 : decode cL_seen 17 = .ok (.iconst 0, 1) := by decide +kernel
theorem dL_seen_18 : decode cL_seen 18 = .ok (.ireturn, 1) := by decide +kernel
def f_L_seen (F : Nat) (i1 : Int32) (i2 : Int32) (M : GM) : Option (Int32 × GM) := bndT (f_X10_seen F i1 i2 M) (fun n3 => if n3 = 3 then (some ((1 : Int32), M)) else (none)) (fun v2 => bnd (sL M 162 0 v2.toInt64) (fun M4 => some ((0 : Int32), M4)))
set_option maxHeartbeats 4000000 in
set_option maxRecDepth 100000 in
theorem w_L_seen {x : GX} (X : GC x cL_seen 5 RL 8) (XU : GC (xup x) cL_seen 5 RL 8) (hroom : xcells x + 1 ≤ (xR x).cells ∧ xslots x + 6 ≤ (xR x).slots) (htab : (xc x).exceptionTable.toList = tableOf [(0, 10, 13, 21)]) (hnc : gNcs (xs x)) {i1 : Int32} {i2 : Int32} {F : Nat} {M : GM} {r9 : (Int32 × GM)} (hR : ∀ (v9 : Int32) (M9 : GM) (lv9 : List (Nat × Value)) (pc9 : Nat), r9 = (v9, M9) → decode cL_seen pc9 = .ok (.ireturn, 1) → WG (xup x) M9 lv9 pc9 [.int v9]) (h : f_L_seen F i1 i2 M = some r9) : WG x M [(0, .ref (gad (xz x) 0)), (1, .int i1), (2, .int i2), (3, .ref (gad (xz x) 162))] 0 [] := by
  unfold f_L_seen at h
  refine g_aload_n X (j := 3) dL_seen_0 rfl rfl ?_
  refine g_iconst X (v := 0) dL_seen_1 (by decide) ?_
  refine g_aload_n X (j := 0) dL_seen_2 rfl rfl ?_
  refine g_iload_n X (j := 1) dL_seen_3 rfl rfl ?_
  refine g_iload_n X (j := 2) dL_seen_4 rfl rfl ?_
  rcases bndT_e h with ⟨n3, hc1, h⟩ | ⟨v2, hc1, h⟩
  · by_cases hb0 : n3 = 3
    · have h := ite_t hb0 h
      subst hb0
      refine gt_L_52 X gT_c0 (cx_X10_seen X.htr  hc1) (by decide) (Nat.le_of_ble_eq_true rfl) dL_seen_5 hroom htab [] { startPc := 0, endPc := 10, handlerPc := 13, catchType := 21 } [] rfl (fun z hz => absurd hz List.not_mem_nil) (by decide +kernel) (by decide) q_863 (List.mem_of_getElem? (i := 2) rfl) (fun q9 => ?_)
      refine g_astore XU (lv' := (4, .ref q9) :: [(0, .ref (gad (xz x) 0)), (1, .int i1), (2, .int i2), (3, .ref (gad (xz x) 162))]) dL_seen_13 (by decide) rfl ?_
      refine g_iconst XU (v := 1) dL_seen_15 (by decide) ?_
      exact (hR (1 : Int32) M _ _ (Option.some.inj h).symm dL_seen_16)
    · have h := ite_f hb0 h
      cases h
  refine gc_L_52 X gT_c0 (ct_X10_seen X.htr  hc1) (by decide) (Nat.le_of_ble_eq_true rfl) dL_seen_5 ?_
  refine g_i2l X dL_seen_8 ?_
  refine g_last X gT_c162 (by decide +kernel) dL_seen_9 ?_
  rw [tn_0]
  refine g_mem (fun M4 e5 => ?_)
  have h := bnd_e e5 h
  refine g_goto X (tgt := 17) dL_seen_10 (by decide) ?_
  refine g_iconst X (v := 0) dL_seen_17 (by decide) ?_
  refine g_up ?_
  exact hR (0 : Int32) M4 _ _ (Option.some.inj h).symm dL_seen_18
theorem ct_L_seen {l : Launch} {z : GZ} (htr : l.stackTraces = false) {i1 : Int32} {i2 : Int32} {M : GM} {F : Nat} {v : Int32} {M1 : GM} (h : f_L_seen F i1 i2 M = some (v, M1)) : gMetW l z yL_seen cL_seen 5 [(0, 10, 13, 21)] [.ref (gad z 0), .int i1, .int i2, .ref (gad z 162)] M v M1 := gMetW_of (by decide +kernel) (Nat.le_of_ble_eq_true rfl) htr (fun x X XU ez el htab hnc hR => by subst ez; subst el; exact w_L_seen X XU ⟨XU.2.2.2.2.2.2.2.2.2.1, XU.2.2.2.2.2.2.2.2.2.2.1⟩ htab hnc (fun v9 M9 lv9 pc9 e9 d9 => by cases e9; exact hR lv9 pc9 d9) h)
theorem gc_L_55 {x : GX} {cc : ByteArray} {nL d pc : Nat} {M : GM} {lv : List (Nat × Value)} {st : List Value} (X : GC x cc nL RL d) {i0 : Int32} {M1 : GM} {r : Int32} (ht : gT 0 = 10) (hM : gMet (xl x) (xz x) yX10_polygonOf cX10_polygonOf 2 (some .int) 7 [.ref (gad (xz x) 0), .int i0] M (some (.int r)) M1) (hd : 8 ≤ d) (hsum : (st.map fun v => v.category).sum ≤ 8) (dec : decode cc pc = .ok (.invokevirtual 55, 3)) (go : WG x M1 lv (pc + 3) (.int r :: st)) : WG x M lv pc (.int i0 :: .ref (gad (xz x) 0) :: st) := g_callV X (n := 1) (As := [.int i0]) (rest := st) hM ht (by decide) (gE_10 ht) rfl q_959 q_745 q_746 q_52 q_747 (by decide +kernel) rfl hd (by decide) rfl hsum dec go
theorem gt_L_55 {x : GX} {cc : ByteArray} {nL d pc : Nat} {M : GM} {lv : List (Nat × Value)} {st : List Value} (X : GC x cc nL RL d) {i0 : Int32} {M1 : GM} {n9 : Nat} (ht : gT 0 = 10) (hM : gMetX (xl x) (xz x) yX10_polygonOf cX10_polygonOf 2 (some .int) 7 [.ref (gad (xz x) 0), .int i0] M n9 M1) (hd : 8 ≤ d) (hsum : (st.map fun v => v.category).sum ≤ 8) (dec : decode cc pc = .ok (.invokevirtual 55, 3)) {hh : List (Nat × Nat × Nat × Nat)} (hroom : xcells x + 1 ≤ (xR x).cells ∧ xslots x + 6 ≤ (xR x).slots) (htab : (xc x).exceptionTable.toList = tableOf hh) (pre : List ExceptionTableEntry) (en : ExceptionTableEntry) (suf : List ExceptionTableEntry) (hsplit : tableOf hh = pre ++ en :: suf) (hpass : ∀ q ∈ pre, covers q pc = false ∨ (q.catchType ≠ 0 ∧ ∃ nm : String, Cond.classLink RL q.catchType nm ∈ GW ∧ va_Nc (gEx n9) nm (xs x))) (hcov : covers en pc = true) (h0 : en.catchType ≠ 0) (hlink : Cond.classLink RL en.catchType (gEx n9) ∈ GW) (hcast : Cond.castable (gEx n9) (gEx n9) ∈ gFaceL) (go : ∀ q : Nat, WG (xup x) M1 lv en.handlerPc [.ref q]) : WG x M lv pc (.int i0 :: .ref (gad (xz x) 0) :: st) := g_tryV X (n := 1) (As := [.int i0]) (rest := st) hM ht (by decide) (gE_10 ht) rfl q_959 q_745 q_746 q_52 q_747 (by decide +kernel) rfl hd (by decide) rfl hsum dec hroom htab pre en suf hsplit hpass hcov h0 hlink hcast go
theorem dL_polygonOf_0 : decode cL_polygonOf 0 = .ok (.aload_n 2, 1) := by decide +kernel
theorem dL_polygonOf_1 : decode cL_polygonOf 1 = .ok (.iconst 0, 1) := by decide +kernel
theorem dL_polygonOf_2 : decode cL_polygonOf 2 = .ok (.aload_n 0, 1) := by decide +kernel
theorem dL_polygonOf_3 : decode cL_polygonOf 3 = .ok (.iload_n 1, 1) := by decide +kernel
theorem dL_polygonOf_4 : decode cL_polygonOf 4 = .ok (.invokevirtual 55, 3) := by decide +kernel
theorem dL_polygonOf_7 : decode cL_polygonOf 7 = .ok (.i2l, 1) := by decide +kernel
theorem dL_polygonOf_8 : decode cL_polygonOf 8 = .ok (.lastore, 1) := by decide +kernel
theorem dL_polygonOf_9 : decode cL_polygonOf 9 = .ok (.goto 6, 3) := by decide +kernel
theorem dL_polygonOf_12 : decode cL_polygonOf 12 = .ok (.astore_n 3, 1) := by decide +kernel
theorem dL_polygonOf_13 : decode cL_polygonOf 13 = .ok (.iconst 1, 1) := by decide +kernel
theorem dL_polygonOf_14 : decode cL_polygonOf 14 = .ok (.ireturn, 1) := by decide +kernel
theorem dL_polygonOf_15 : decode cL_polygonOf 15 = .ok (.iconst 0, 1) := by decide +kernel
theorem dL_polygonOf_16 : decode cL_polygonOf 16 = .ok (.ireturn, 1) := by decide +kernel
def f_L_polygonOf (F : Nat) (i1 : Int32) (M : GM) : Option (Int32 × GM) := bndT (f_X10_polygonOf F i1 M) (fun (n4, M5) => if n4 = 3 then (some ((1 : Int32), M5)) else (none)) (fun (v2, M3) => bnd (sL M3 162 0 v2.toInt64) (fun M6 => some ((0 : Int32), M6)))
set_option maxHeartbeats 4000000 in
set_option maxRecDepth 100000 in
theorem w_L_polygonOf {x : GX} (X : GC x cL_polygonOf 4 RL 8) (XU : GC (xup x) cL_polygonOf 4 RL 8) (hroom : xcells x + 1 ≤ (xR x).cells ∧ xslots x + 6 ≤ (xR x).slots) (htab : (xc x).exceptionTable.toList = tableOf [(0, 9, 12, 21)]) (hnc : gNcs (xs x)) {i1 : Int32} {F : Nat} {M : GM} {r9 : (Int32 × GM)} (hR : ∀ (v9 : Int32) (M9 : GM) (lv9 : List (Nat × Value)) (pc9 : Nat), r9 = (v9, M9) → decode cL_polygonOf pc9 = .ok (.ireturn, 1) → WG (xup x) M9 lv9 pc9 [.int v9]) (h : f_L_polygonOf F i1 M = some r9) : WG x M [(0, .ref (gad (xz x) 0)), (1, .int i1), (2, .ref (gad (xz x) 162))] 0 [] := by
  unfold f_L_polygonOf at h
  refine g_aload_n X (j := 2) dL_polygonOf_0 rfl rfl ?_
  refine g_iconst X (v := 0) dL_polygonOf_1 (by decide) ?_
  refine g_aload_n X (j := 0) dL_polygonOf_2 rfl rfl ?_
  refine g_iload_n X (j := 1) dL_polygonOf_3 rfl rfl ?_
  rcases bndT_e h with ⟨⟨n4, M5⟩, hc1, h⟩ | ⟨⟨v2, M3⟩, hc1, h⟩
  · by_cases hb0 : n4 = 3
    · have h := ite_t hb0 h
      subst hb0
      refine gt_L_55 X gT_c0 (cx_X10_polygonOf X.htr  hc1) (by decide) (Nat.le_of_ble_eq_true rfl) dL_polygonOf_4 hroom htab [] { startPc := 0, endPc := 9, handlerPc := 12, catchType := 21 } [] rfl (fun z hz => absurd hz List.not_mem_nil) (by decide +kernel) (by decide) q_863 (List.mem_of_getElem? (i := 2) rfl) (fun q9 => ?_)
      refine g_astore_n XU (lv' := (3, .ref q9) :: [(0, .ref (gad (xz x) 0)), (1, .int i1), (2, .ref (gad (xz x) 162))]) dL_polygonOf_12 rfl (by decide) rfl ?_
      refine g_iconst XU (v := 1) dL_polygonOf_13 (by decide) ?_
      exact (hR (1 : Int32) M5 _ _ (Option.some.inj h).symm dL_polygonOf_14)
    · have h := ite_f hb0 h
      cases h
  refine gc_L_55 X gT_c0 (ct_X10_polygonOf X.htr  hc1) (by decide) (Nat.le_of_ble_eq_true rfl) dL_polygonOf_4 ?_
  refine g_i2l X dL_polygonOf_7 ?_
  refine g_last X gT_c162 (by decide +kernel) dL_polygonOf_8 ?_
  rw [tn_0]
  refine g_mem (fun M6 e7 => ?_)
  have h := bnd_e e7 h
  refine g_goto X (tgt := 15) dL_polygonOf_9 (by decide) ?_
  refine g_iconst X (v := 0) dL_polygonOf_15 (by decide) ?_
  refine g_up ?_
  exact hR (0 : Int32) M6 _ _ (Option.some.inj h).symm dL_polygonOf_16
theorem ct_L_polygonOf {l : Launch} {z : GZ} (htr : l.stackTraces = false) {i1 : Int32} {M : GM} {F : Nat} {v : Int32} {M1 : GM} (h : f_L_polygonOf F i1 M = some (v, M1)) : gMetW l z yL_polygonOf cL_polygonOf 4 [(0, 9, 12, 21)] [.ref (gad z 0), .int i1, .ref (gad z 162)] M v M1 := gMetW_of (by decide +kernel) (Nat.le_of_ble_eq_true rfl) htr (fun x X XU ez el htab hnc hR => by subst ez; subst el; exact w_L_polygonOf X XU ⟨XU.2.2.2.2.2.2.2.2.2.1, XU.2.2.2.2.2.2.2.2.2.2.1⟩ htab hnc (fun v9 M9 lv9 pc9 e9 d9 => by cases e9; exact hR lv9 pc9 d9) h)
theorem gc_L_58 {x : GX} {cc : ByteArray} {nL d pc : Nat} {M : GM} {lv : List (Nat × Value)} {st : List Value} (X : GC x cc nL RL d) {i0 : Int32} {i1 : Int32} {i2 : Int32} {M1 : GM} {r : Int32} (ht : gT 0 = 10) (hM : gMet (xl x) (xz x) yX10_cornerOf cX10_cornerOf 5 (some .int) 7 [.ref (gad (xz x) 0), .int i0, .int i1, .int i2] M (some (.int r)) M1) (hd : 8 ≤ d) (hsum : (st.map fun v => v.category).sum ≤ 8) (dec : decode cc pc = .ok (.invokevirtual 58, 3)) (go : WG x M1 lv (pc + 3) (.int r :: st)) : WG x M lv pc (.int i2 :: .int i1 :: .int i0 :: .ref (gad (xz x) 0) :: st) := g_callV X (n := 3) (As := [.int i0, .int i1, .int i2]) (rest := st) hM ht (by decide) (gE_10 ht) rfl q_963 q_964 q_965 q_52 q_966 (by decide +kernel) rfl hd (by decide) rfl hsum dec go
theorem gt_L_58 {x : GX} {cc : ByteArray} {nL d pc : Nat} {M : GM} {lv : List (Nat × Value)} {st : List Value} (X : GC x cc nL RL d) {i0 : Int32} {i1 : Int32} {i2 : Int32} {M1 : GM} {n9 : Nat} (ht : gT 0 = 10) (hM : gMetX (xl x) (xz x) yX10_cornerOf cX10_cornerOf 5 (some .int) 7 [.ref (gad (xz x) 0), .int i0, .int i1, .int i2] M n9 M1) (hd : 8 ≤ d) (hsum : (st.map fun v => v.category).sum ≤ 8) (dec : decode cc pc = .ok (.invokevirtual 58, 3)) {hh : List (Nat × Nat × Nat × Nat)} (hroom : xcells x + 1 ≤ (xR x).cells ∧ xslots x + 6 ≤ (xR x).slots) (htab : (xc x).exceptionTable.toList = tableOf hh) (pre : List ExceptionTableEntry) (en : ExceptionTableEntry) (suf : List ExceptionTableEntry) (hsplit : tableOf hh = pre ++ en :: suf) (hpass : ∀ q ∈ pre, covers q pc = false ∨ (q.catchType ≠ 0 ∧ ∃ nm : String, Cond.classLink RL q.catchType nm ∈ GW ∧ va_Nc (gEx n9) nm (xs x))) (hcov : covers en pc = true) (h0 : en.catchType ≠ 0) (hlink : Cond.classLink RL en.catchType (gEx n9) ∈ GW) (hcast : Cond.castable (gEx n9) (gEx n9) ∈ gFaceL) (go : ∀ q : Nat, WG (xup x) M1 lv en.handlerPc [.ref q]) : WG x M lv pc (.int i2 :: .int i1 :: .int i0 :: .ref (gad (xz x) 0) :: st) := g_tryV X (n := 3) (As := [.int i0, .int i1, .int i2]) (rest := st) hM ht (by decide) (gE_10 ht) rfl q_963 q_964 q_965 q_52 q_966 (by decide +kernel) rfl hd (by decide) rfl hsum dec hroom htab pre en suf hsplit hpass hcov h0 hlink hcast go
theorem dL_cornerOf_0 : decode cL_cornerOf 0 = .ok (.aload 4, 2) := by decide +kernel
theorem dL_cornerOf_2 : decode cL_cornerOf 2 = .ok (.iconst 0, 1) := by decide +kernel
theorem dL_cornerOf_3 : decode cL_cornerOf 3 = .ok (.aload_n 0, 1) := by decide +kernel
theorem dL_cornerOf_4 : decode cL_cornerOf 4 = .ok (.iload_n 1, 1) := by decide +kernel
theorem dL_cornerOf_5 : decode cL_cornerOf 5 = .ok (.iload_n 2, 1) := by decide +kernel
theorem dL_cornerOf_6 : decode cL_cornerOf 6 = .ok (.iload_n 3, 1) := by decide +kernel
theorem dL_cornerOf_7 : decode cL_cornerOf 7 = .ok (.invokevirtual 58, 3) := by decide +kernel
theorem dL_cornerOf_10 : decode cL_cornerOf 10 = .ok (.i2l, 1) := by decide +kernel
theorem dL_cornerOf_11 : decode cL_cornerOf 11 = .ok (.lastore, 1) := by decide +kernel
theorem dL_cornerOf_12 : decode cL_cornerOf 12 = .ok (.goto 7, 3) := by decide +kernel
theorem dL_cornerOf_15 : decode cL_cornerOf 15 = .ok (.astore 5, 2) := by decide +kernel
theorem dL_cornerOf_17 : decode cL_cornerOf 17 = .ok (.iconst 1, 1) := by decide +kernel
theorem dL_cornerOf_18 : decode cL_cornerOf 18 = .ok (.ireturn, 1) := by decide +kernel
theorem dL_cornerOf_19 : decode cL_cornerOf 19 = .ok (.iconst 0, 1) := by decide +kernel
theorem dL_cornerOf_20 : decode cL_cornerOf 20 = .ok (.ireturn, 1) := by decide +kernel
def f_L_cornerOf (F : Nat) (i1 : Int32) (i2 : Int32) (i3 : Int32) (M : GM) : Option (Int32 × GM) := bndT (f_X10_cornerOf F i1 i2 i3 M) (fun (n4, M5) => if n4 = 3 then (some ((1 : Int32), M5)) else (none)) (fun (v2, M3) => bnd (sL M3 162 0 v2.toInt64) (fun M6 => some ((0 : Int32), M6)))
set_option maxHeartbeats 4000000 in
set_option maxRecDepth 100000 in
theorem w_L_cornerOf {x : GX} (X : GC x cL_cornerOf 6 RL 8) (XU : GC (xup x) cL_cornerOf 6 RL 8) (hroom : xcells x + 1 ≤ (xR x).cells ∧ xslots x + 6 ≤ (xR x).slots) (htab : (xc x).exceptionTable.toList = tableOf [(0, 12, 15, 21)]) (hnc : gNcs (xs x)) {i1 : Int32} {i2 : Int32} {i3 : Int32} {F : Nat} {M : GM} {r9 : (Int32 × GM)} (hR : ∀ (v9 : Int32) (M9 : GM) (lv9 : List (Nat × Value)) (pc9 : Nat), r9 = (v9, M9) → decode cL_cornerOf pc9 = .ok (.ireturn, 1) → WG (xup x) M9 lv9 pc9 [.int v9]) (h : f_L_cornerOf F i1 i2 i3 M = some r9) : WG x M [(0, .ref (gad (xz x) 0)), (1, .int i1), (2, .int i2), (3, .int i3), (4, .ref (gad (xz x) 162))] 0 [] := by
  unfold f_L_cornerOf at h
  refine g_aload X (j := 4) dL_cornerOf_0 rfl ?_
  refine g_iconst X (v := 0) dL_cornerOf_2 (by decide) ?_
  refine g_aload_n X (j := 0) dL_cornerOf_3 rfl rfl ?_
  refine g_iload_n X (j := 1) dL_cornerOf_4 rfl rfl ?_
  refine g_iload_n X (j := 2) dL_cornerOf_5 rfl rfl ?_
  refine g_iload_n X (j := 3) dL_cornerOf_6 rfl rfl ?_
  rcases bndT_e h with ⟨⟨n4, M5⟩, hc1, h⟩ | ⟨⟨v2, M3⟩, hc1, h⟩
  · by_cases hb0 : n4 = 3
    · have h := ite_t hb0 h
      subst hb0
      refine gt_L_58 X gT_c0 (cx_X10_cornerOf X.htr  hc1) (by decide) (Nat.le_of_ble_eq_true rfl) dL_cornerOf_7 hroom htab [] { startPc := 0, endPc := 12, handlerPc := 15, catchType := 21 } [] rfl (fun z hz => absurd hz List.not_mem_nil) (by decide +kernel) (by decide) q_863 (List.mem_of_getElem? (i := 2) rfl) (fun q9 => ?_)
      refine g_astore XU (lv' := (5, .ref q9) :: [(0, .ref (gad (xz x) 0)), (1, .int i1), (2, .int i2), (3, .int i3), (4, .ref (gad (xz x) 162))]) dL_cornerOf_15 (by decide) rfl ?_
      refine g_iconst XU (v := 1) dL_cornerOf_17 (by decide) ?_
      exact (hR (1 : Int32) M5 _ _ (Option.some.inj h).symm dL_cornerOf_18)
    · have h := ite_f hb0 h
      cases h
  refine gc_L_58 X gT_c0 (ct_X10_cornerOf X.htr  hc1) (by decide) (Nat.le_of_ble_eq_true rfl) dL_cornerOf_7 ?_
  refine g_i2l X dL_cornerOf_10 ?_
  refine g_last X gT_c162 (by decide +kernel) dL_cornerOf_11 ?_
  rw [tn_0]
  refine g_mem (fun M6 e7 => ?_)
  have h := bnd_e e7 h
  refine g_goto X (tgt := 19) dL_cornerOf_12 (by decide) ?_
  refine g_iconst X (v := 0) dL_cornerOf_19 (by decide) ?_
  refine g_up ?_
  exact hR (0 : Int32) M6 _ _ (Option.some.inj h).symm dL_cornerOf_20
theorem ct_L_cornerOf {l : Launch} {z : GZ} (htr : l.stackTraces = false) {i1 : Int32} {i2 : Int32} {i3 : Int32} {M : GM} {F : Nat} {v : Int32} {M1 : GM} (h : f_L_cornerOf F i1 i2 i3 M = some (v, M1)) : gMetW l z yL_cornerOf cL_cornerOf 6 [(0, 12, 15, 21)] [.ref (gad z 0), .int i1, .int i2, .int i3, .ref (gad z 162)] M v M1 := gMetW_of (by decide +kernel) (Nat.le_of_ble_eq_true rfl) htr (fun x X XU ez el htab hnc hR => by subst ez; subst el; exact w_L_cornerOf X XU ⟨XU.2.2.2.2.2.2.2.2.2.1, XU.2.2.2.2.2.2.2.2.2.2.1⟩ htab hnc (fun v9 M9 lv9 pc9 e9 d9 => by cases e9; exact hR lv9 pc9 d9) h)
theorem gc_L_62 {x : GX} {cc : ByteArray} {nL d pc : Nat} {M : GM} {lv : List (Nat × Value)} {st : List Value} (X : GC x cc nL RL d) {i0 : Int32} {i1 : Int32} {i2 : Int32} {M1 : GM} {r : Int32} (ht : gT 0 = 10) (hM : gMet (xl x) (xz x) yX10_screenOf cX10_screenOf 5 (some .int) 7 [.ref (gad (xz x) 0), .int i0, .int i1, .int i2] M (some (.int r)) M1) (hd : 8 ≤ d) (hsum : (st.map fun v => v.category).sum ≤ 8) (dec : decode cc pc = .ok (.invokevirtual 62, 3)) (go : WG x M1 lv (pc + 3) (.int r :: st)) : WG x M lv pc (.int i2 :: .int i1 :: .int i0 :: .ref (gad (xz x) 0) :: st) := g_callV X (n := 3) (As := [.int i0, .int i1, .int i2]) (rest := st) hM ht (by decide) (gE_10 ht) rfl q_971 q_776 q_777 q_52 q_778 (by decide +kernel) rfl hd (by decide) rfl hsum dec go
theorem gt_L_62 {x : GX} {cc : ByteArray} {nL d pc : Nat} {M : GM} {lv : List (Nat × Value)} {st : List Value} (X : GC x cc nL RL d) {i0 : Int32} {i1 : Int32} {i2 : Int32} {M1 : GM} {n9 : Nat} (ht : gT 0 = 10) (hM : gMetX (xl x) (xz x) yX10_screenOf cX10_screenOf 5 (some .int) 7 [.ref (gad (xz x) 0), .int i0, .int i1, .int i2] M n9 M1) (hd : 8 ≤ d) (hsum : (st.map fun v => v.category).sum ≤ 8) (dec : decode cc pc = .ok (.invokevirtual 62, 3)) {hh : List (Nat × Nat × Nat × Nat)} (hroom : xcells x + 1 ≤ (xR x).cells ∧ xslots x + 6 ≤ (xR x).slots) (htab : (xc x).exceptionTable.toList = tableOf hh) (pre : List ExceptionTableEntry) (en : ExceptionTableEntry) (suf : List ExceptionTableEntry) (hsplit : tableOf hh = pre ++ en :: suf) (hpass : ∀ q ∈ pre, covers q pc = false ∨ (q.catchType ≠ 0 ∧ ∃ nm : String, Cond.classLink RL q.catchType nm ∈ GW ∧ va_Nc (gEx n9) nm (xs x))) (hcov : covers en pc = true) (h0 : en.catchType ≠ 0) (hlink : Cond.classLink RL en.catchType (gEx n9) ∈ GW) (hcast : Cond.castable (gEx n9) (gEx n9) ∈ gFaceL) (go : ∀ q : Nat, WG (xup x) M1 lv en.handlerPc [.ref q]) : WG x M lv pc (.int i2 :: .int i1 :: .int i0 :: .ref (gad (xz x) 0) :: st) := g_tryV X (n := 3) (As := [.int i0, .int i1, .int i2]) (rest := st) hM ht (by decide) (gE_10 ht) rfl q_971 q_776 q_777 q_52 q_778 (by decide +kernel) rfl hd (by decide) rfl hsum dec hroom htab pre en suf hsplit hpass hcov h0 hlink hcast go
theorem dL_screenOf_0 : decode cL_screenOf 0 = .ok (.aload 4, 2) := by decide +kernel
theorem dL_screenOf_2 : decode cL_screenOf 2 = .ok (.iconst 0, 1) := by decide +kernel
theorem dL_screenOf_3 : decode cL_screenOf 3 = .ok (.aload_n 0, 1) := by decide +kernel
theorem dL_screenOf_4 : decode cL_screenOf 4 = .ok (.iload_n 1, 1) := by decide +kernel
theorem dL_screenOf_5 : decode cL_screenOf 5 = .ok (.iload_n 2, 1) := by decide +kernel
theorem dL_screenOf_6 : decode cL_screenOf 6 = .ok (.iload_n 3, 1) := by decide +kernel
theorem dL_screenOf_7 : decode cL_screenOf 7 = .ok (.invokevirtual 62, 3) := by decide +kernel
theorem dL_screenOf_10 : decode cL_screenOf 10 = .ok (.i2l, 1) := by decide +kernel
theorem dL_screenOf_11 : decode cL_screenOf 11 = .ok (.lastore, 1) := by decide +kernel
theorem dL_screenOf_12 : decode cL_screenOf 12 = .ok (.goto 7, 3) := by decide +kernel
theorem dL_screenOf_15 : decode cL_screenOf 15 = .ok (.astore 5, 2) := by decide +kernel
theorem dL_screenOf_17 : decode cL_screenOf 17 = .ok (.iconst 1, 1) := by decide +kernel
theorem dL_screenOf_18 : decode cL_screenOf 18 = .ok (.ireturn, 1) := by decide +kernel
theorem dL_screenOf_19 : decode cL_screenOf 19 = .ok (.iconst 0, 1) := by decide +kernel
theorem dL_screenOf_20 : decode cL_screenOf 20 = .ok (.ireturn, 1) := by decide +kernel
def f_L_screenOf (F : Nat) (i1 : Int32) (i2 : Int32) (i3 : Int32) (M : GM) : Option (Int32 × GM) := bndT (f_X10_screenOf F i1 i2 i3 M) (fun (n4, M5) => if n4 = 3 then (some ((1 : Int32), M5)) else (none)) (fun (v2, M3) => bnd (sL M3 162 0 v2.toInt64) (fun M6 => some ((0 : Int32), M6)))
set_option maxHeartbeats 4000000 in
set_option maxRecDepth 100000 in
theorem w_L_screenOf {x : GX} (X : GC x cL_screenOf 6 RL 8) (XU : GC (xup x) cL_screenOf 6 RL 8) (hroom : xcells x + 1 ≤ (xR x).cells ∧ xslots x + 6 ≤ (xR x).slots) (htab : (xc x).exceptionTable.toList = tableOf [(0, 12, 15, 21)]) (hnc : gNcs (xs x)) {i1 : Int32} {i2 : Int32} {i3 : Int32} {F : Nat} {M : GM} {r9 : (Int32 × GM)} (hR : ∀ (v9 : Int32) (M9 : GM) (lv9 : List (Nat × Value)) (pc9 : Nat), r9 = (v9, M9) → decode cL_screenOf pc9 = .ok (.ireturn, 1) → WG (xup x) M9 lv9 pc9 [.int v9]) (h : f_L_screenOf F i1 i2 i3 M = some r9) : WG x M [(0, .ref (gad (xz x) 0)), (1, .int i1), (2, .int i2), (3, .int i3), (4, .ref (gad (xz x) 162))] 0 [] := by
  unfold f_L_screenOf at h
  refine g_aload X (j := 4) dL_screenOf_0 rfl ?_
  refine g_iconst X (v := 0) dL_screenOf_2 (by decide) ?_
  refine g_aload_n X (j := 0) dL_screenOf_3 rfl rfl ?_
  refine g_iload_n X (j := 1) dL_screenOf_4 rfl rfl ?_
  refine g_iload_n X (j := 2) dL_screenOf_5 rfl rfl ?_
  refine g_iload_n X (j := 3) dL_screenOf_6 rfl rfl ?_
  rcases bndT_e h with ⟨⟨n4, M5⟩, hc1, h⟩ | ⟨⟨v2, M3⟩, hc1, h⟩
  · by_cases hb0 : n4 = 3
    · have h := ite_t hb0 h
      subst hb0
      refine gt_L_62 X gT_c0 (cx_X10_screenOf X.htr  hc1) (by decide) (Nat.le_of_ble_eq_true rfl) dL_screenOf_7 hroom htab [] { startPc := 0, endPc := 12, handlerPc := 15, catchType := 21 } [] rfl (fun z hz => absurd hz List.not_mem_nil) (by decide +kernel) (by decide) q_863 (List.mem_of_getElem? (i := 2) rfl) (fun q9 => ?_)
      refine g_astore XU (lv' := (5, .ref q9) :: [(0, .ref (gad (xz x) 0)), (1, .int i1), (2, .int i2), (3, .int i3), (4, .ref (gad (xz x) 162))]) dL_screenOf_15 (by decide) rfl ?_
      refine g_iconst XU (v := 1) dL_screenOf_17 (by decide) ?_
      exact (hR (1 : Int32) M5 _ _ (Option.some.inj h).symm dL_screenOf_18)
    · have h := ite_f hb0 h
      cases h
  refine gc_L_62 X gT_c0 (ct_X10_screenOf X.htr  hc1) (by decide) (Nat.le_of_ble_eq_true rfl) dL_screenOf_7 ?_
  refine g_i2l X dL_screenOf_10 ?_
  refine g_last X gT_c162 (by decide +kernel) dL_screenOf_11 ?_
  rw [tn_0]
  refine g_mem (fun M6 e7 => ?_)
  have h := bnd_e e7 h
  refine g_goto X (tgt := 19) dL_screenOf_12 (by decide) ?_
  refine g_iconst X (v := 0) dL_screenOf_19 (by decide) ?_
  refine g_up ?_
  exact hR (0 : Int32) M6 _ _ (Option.some.inj h).symm dL_screenOf_20
theorem ct_L_screenOf {l : Launch} {z : GZ} (htr : l.stackTraces = false) {i1 : Int32} {i2 : Int32} {i3 : Int32} {M : GM} {F : Nat} {v : Int32} {M1 : GM} (h : f_L_screenOf F i1 i2 i3 M = some (v, M1)) : gMetW l z yL_screenOf cL_screenOf 6 [(0, 12, 15, 21)] [.ref (gad z 0), .int i1, .int i2, .int i3, .ref (gad z 162)] M v M1 := gMetW_of (by decide +kernel) (Nat.le_of_ble_eq_true rfl) htr (fun x X XU ez el htab hnc hR => by subst ez; subst el; exact w_L_screenOf X XU ⟨XU.2.2.2.2.2.2.2.2.2.1, XU.2.2.2.2.2.2.2.2.2.2.1⟩ htab hnc (fun v9 M9 lv9 pc9 e9 d9 => by cases e9; exact hR lv9 pc9 d9) h)
theorem gc_L_65 {x : GX} {cc : ByteArray} {nL d pc : Nat} {M : GM} {lv : List (Nat × Value)} {st : List Value} (X : GC x cc nL RL d) {i0 : Int32} {M1 : GM} {r : Int32} (ht : gT 0 = 10) (hM : gMet (xl x) (xz x) yX10_piecesOf cX10_piecesOf 7 (some .int) 7 [.ref (gad (xz x) 0), .int i0] M (some (.int r)) M1) (hd : 8 ≤ d) (hsum : (st.map fun v => v.category).sum ≤ 8) (dec : decode cc pc = .ok (.invokevirtual 65, 3)) (go : WG x M1 lv (pc + 3) (.int r :: st)) : WG x M lv pc (.int i0 :: .ref (gad (xz x) 0) :: st) := g_callV X (n := 1) (As := [.int i0]) (rest := st) hM ht (by decide) (gE_10 ht) rfl q_975 q_754 q_755 q_52 q_756 (by decide +kernel) rfl hd (by decide) rfl hsum dec go
theorem gt_L_65 {x : GX} {cc : ByteArray} {nL d pc : Nat} {M : GM} {lv : List (Nat × Value)} {st : List Value} (X : GC x cc nL RL d) {i0 : Int32} {M1 : GM} {n9 : Nat} (ht : gT 0 = 10) (hM : gMetX (xl x) (xz x) yX10_piecesOf cX10_piecesOf 7 (some .int) 7 [.ref (gad (xz x) 0), .int i0] M n9 M1) (hd : 8 ≤ d) (hsum : (st.map fun v => v.category).sum ≤ 8) (dec : decode cc pc = .ok (.invokevirtual 65, 3)) {hh : List (Nat × Nat × Nat × Nat)} (hroom : xcells x + 1 ≤ (xR x).cells ∧ xslots x + 6 ≤ (xR x).slots) (htab : (xc x).exceptionTable.toList = tableOf hh) (pre : List ExceptionTableEntry) (en : ExceptionTableEntry) (suf : List ExceptionTableEntry) (hsplit : tableOf hh = pre ++ en :: suf) (hpass : ∀ q ∈ pre, covers q pc = false ∨ (q.catchType ≠ 0 ∧ ∃ nm : String, Cond.classLink RL q.catchType nm ∈ GW ∧ va_Nc (gEx n9) nm (xs x))) (hcov : covers en pc = true) (h0 : en.catchType ≠ 0) (hlink : Cond.classLink RL en.catchType (gEx n9) ∈ GW) (hcast : Cond.castable (gEx n9) (gEx n9) ∈ gFaceL) (go : ∀ q : Nat, WG (xup x) M1 lv en.handlerPc [.ref q]) : WG x M lv pc (.int i0 :: .ref (gad (xz x) 0) :: st) := g_tryV X (n := 1) (As := [.int i0]) (rest := st) hM ht (by decide) (gE_10 ht) rfl q_975 q_754 q_755 q_52 q_756 (by decide +kernel) rfl hd (by decide) rfl hsum dec hroom htab pre en suf hsplit hpass hcov h0 hlink hcast go
theorem dL_piecesOf_0 : decode cL_piecesOf 0 = .ok (.aload_n 2, 1) := by decide +kernel
theorem dL_piecesOf_1 : decode cL_piecesOf 1 = .ok (.iconst 0, 1) := by decide +kernel
theorem dL_piecesOf_2 : decode cL_piecesOf 2 = .ok (.aload_n 0, 1) := by decide +kernel
theorem dL_piecesOf_3 : decode cL_piecesOf 3 = .ok (.iload_n 1, 1) := by decide +kernel
theorem dL_piecesOf_4 : decode cL_piecesOf 4 = .ok (.invokevirtual 65, 3) := by decide +kernel
theorem dL_piecesOf_7 : decode cL_piecesOf 7 = .ok (.i2l, 1) := by decide +kernel
theorem dL_piecesOf_8 : decode cL_piecesOf 8 = .ok (.lastore, 1) := by decide +kernel
theorem dL_piecesOf_9 : decode cL_piecesOf 9 = .ok (.goto 6, 3) := by decide +kernel
theorem dL_piecesOf_12 : decode cL_piecesOf 12 = .ok (.astore_n 3, 1) := by decide +kernel
theorem dL_piecesOf_13 : decode cL_piecesOf 13 = .ok (.iconst 1, 1) := by decide +kernel
theorem dL_piecesOf_14 : decode cL_piecesOf 14 = .ok (.ireturn, 1) := by decide +kernel
theorem dL_piecesOf_15 : decode cL_piecesOf 15 = .ok (.iconst 0, 1) := by decide +kernel
theorem dL_piecesOf_16 : decode cL_piecesOf 16 = .ok (.ireturn, 1) := by decide +kernel
def f_L_piecesOf (F : Nat) (i1 : Int32) (M : GM) : Option (Int32 × GM) := bndT (f_X10_piecesOf F i1 M) (fun (n4, M5) => if n4 = 3 then (some ((1 : Int32), M5)) else (none)) (fun (v2, M3) => bnd (sL M3 162 0 v2.toInt64) (fun M6 => some ((0 : Int32), M6)))
set_option maxHeartbeats 4000000 in
set_option maxRecDepth 100000 in
theorem w_L_piecesOf {x : GX} (X : GC x cL_piecesOf 4 RL 8) (XU : GC (xup x) cL_piecesOf 4 RL 8) (hroom : xcells x + 1 ≤ (xR x).cells ∧ xslots x + 6 ≤ (xR x).slots) (htab : (xc x).exceptionTable.toList = tableOf [(0, 9, 12, 21)]) (hnc : gNcs (xs x)) {i1 : Int32} {F : Nat} {M : GM} {r9 : (Int32 × GM)} (hR : ∀ (v9 : Int32) (M9 : GM) (lv9 : List (Nat × Value)) (pc9 : Nat), r9 = (v9, M9) → decode cL_piecesOf pc9 = .ok (.ireturn, 1) → WG (xup x) M9 lv9 pc9 [.int v9]) (h : f_L_piecesOf F i1 M = some r9) : WG x M [(0, .ref (gad (xz x) 0)), (1, .int i1), (2, .ref (gad (xz x) 162))] 0 [] := by
  unfold f_L_piecesOf at h
  refine g_aload_n X (j := 2) dL_piecesOf_0 rfl rfl ?_
  refine g_iconst X (v := 0) dL_piecesOf_1 (by decide) ?_
  refine g_aload_n X (j := 0) dL_piecesOf_2 rfl rfl ?_
  refine g_iload_n X (j := 1) dL_piecesOf_3 rfl rfl ?_
  rcases bndT_e h with ⟨⟨n4, M5⟩, hc1, h⟩ | ⟨⟨v2, M3⟩, hc1, h⟩
  · by_cases hb0 : n4 = 3
    · have h := ite_t hb0 h
      subst hb0
      refine gt_L_65 X gT_c0 (cx_X10_piecesOf X.htr  hc1) (by decide) (Nat.le_of_ble_eq_true rfl) dL_piecesOf_4 hroom htab [] { startPc := 0, endPc := 9, handlerPc := 12, catchType := 21 } [] rfl (fun z hz => absurd hz List.not_mem_nil) (by decide +kernel) (by decide) q_863 (List.mem_of_getElem? (i := 2) rfl) (fun q9 => ?_)
      refine g_astore_n XU (lv' := (3, .ref q9) :: [(0, .ref (gad (xz x) 0)), (1, .int i1), (2, .ref (gad (xz x) 162))]) dL_piecesOf_12 rfl (by decide) rfl ?_
      refine g_iconst XU (v := 1) dL_piecesOf_13 (by decide) ?_
      exact (hR (1 : Int32) M5 _ _ (Option.some.inj h).symm dL_piecesOf_14)
    · have h := ite_f hb0 h
      cases h
  refine gc_L_65 X gT_c0 (ct_X10_piecesOf X.htr  hc1) (by decide) (Nat.le_of_ble_eq_true rfl) dL_piecesOf_4 ?_
  refine g_i2l X dL_piecesOf_7 ?_
  refine g_last X gT_c162 (by decide +kernel) dL_piecesOf_8 ?_
  rw [tn_0]
  refine g_mem (fun M6 e7 => ?_)
  have h := bnd_e e7 h
  refine g_goto X (tgt := 15) dL_piecesOf_9 (by decide) ?_
  refine g_iconst X (v := 0) dL_piecesOf_15 (by decide) ?_
  refine g_up ?_
  exact hR (0 : Int32) M6 _ _ (Option.some.inj h).symm dL_piecesOf_16
theorem ct_L_piecesOf {l : Launch} {z : GZ} (htr : l.stackTraces = false) {i1 : Int32} {M : GM} {F : Nat} {v : Int32} {M1 : GM} (h : f_L_piecesOf F i1 M = some (v, M1)) : gMetW l z yL_piecesOf cL_piecesOf 4 [(0, 9, 12, 21)] [.ref (gad z 0), .int i1, .ref (gad z 162)] M v M1 := gMetW_of (by decide +kernel) (Nat.le_of_ble_eq_true rfl) htr (fun x X XU ez el htab hnc hR => by subst ez; subst el; exact w_L_piecesOf X XU ⟨XU.2.2.2.2.2.2.2.2.2.1, XU.2.2.2.2.2.2.2.2.2.2.1⟩ htab hnc (fun v9 M9 lv9 pc9 e9 d9 => by cases e9; exact hR lv9 pc9 d9) h)
theorem gc_L_68 {x : GX} {cc : ByteArray} {nL d pc : Nat} {M : GM} {lv : List (Nat × Value)} {st : List Value} (X : GC x cc nL RL d) {i0 : Int32} {M1 : GM} {r : Int32} (ht : gT 0 = 10) (hM : gMet (xl x) (xz x) yX10_pointsOf cX10_pointsOf 5 (some .int) 7 [.ref (gad (xz x) 0), .int i0] M (some (.int r)) M1) (hd : 8 ≤ d) (hsum : (st.map fun v => v.category).sum ≤ 8) (dec : decode cc pc = .ok (.invokevirtual 68, 3)) (go : WG x M1 lv (pc + 3) (.int r :: st)) : WG x M lv pc (.int i0 :: .ref (gad (xz x) 0) :: st) := g_callV X (n := 1) (As := [.int i0]) (rest := st) hM ht (by decide) (gE_10 ht) rfl q_979 q_758 q_759 q_52 q_760 (by decide +kernel) rfl hd (by decide) rfl hsum dec go
theorem gt_L_68 {x : GX} {cc : ByteArray} {nL d pc : Nat} {M : GM} {lv : List (Nat × Value)} {st : List Value} (X : GC x cc nL RL d) {i0 : Int32} {M1 : GM} {n9 : Nat} (ht : gT 0 = 10) (hM : gMetX (xl x) (xz x) yX10_pointsOf cX10_pointsOf 5 (some .int) 7 [.ref (gad (xz x) 0), .int i0] M n9 M1) (hd : 8 ≤ d) (hsum : (st.map fun v => v.category).sum ≤ 8) (dec : decode cc pc = .ok (.invokevirtual 68, 3)) {hh : List (Nat × Nat × Nat × Nat)} (hroom : xcells x + 1 ≤ (xR x).cells ∧ xslots x + 6 ≤ (xR x).slots) (htab : (xc x).exceptionTable.toList = tableOf hh) (pre : List ExceptionTableEntry) (en : ExceptionTableEntry) (suf : List ExceptionTableEntry) (hsplit : tableOf hh = pre ++ en :: suf) (hpass : ∀ q ∈ pre, covers q pc = false ∨ (q.catchType ≠ 0 ∧ ∃ nm : String, Cond.classLink RL q.catchType nm ∈ GW ∧ va_Nc (gEx n9) nm (xs x))) (hcov : covers en pc = true) (h0 : en.catchType ≠ 0) (hlink : Cond.classLink RL en.catchType (gEx n9) ∈ GW) (hcast : Cond.castable (gEx n9) (gEx n9) ∈ gFaceL) (go : ∀ q : Nat, WG (xup x) M1 lv en.handlerPc [.ref q]) : WG x M lv pc (.int i0 :: .ref (gad (xz x) 0) :: st) := g_tryV X (n := 1) (As := [.int i0]) (rest := st) hM ht (by decide) (gE_10 ht) rfl q_979 q_758 q_759 q_52 q_760 (by decide +kernel) rfl hd (by decide) rfl hsum dec hroom htab pre en suf hsplit hpass hcov h0 hlink hcast go
theorem dL_pointsOf_0 : decode cL_pointsOf 0 = .ok (.aload_n 2, 1) := by decide +kernel
theorem dL_pointsOf_1 : decode cL_pointsOf 1 = .ok (.iconst 0, 1) := by decide +kernel
theorem dL_pointsOf_2 : decode cL_pointsOf 2 = .ok (.aload_n 0, 1) := by decide +kernel
theorem dL_pointsOf_3 : decode cL_pointsOf 3 = .ok (.iload_n 1, 1) := by decide +kernel
theorem dL_pointsOf_4 : decode cL_pointsOf 4 = .ok (.invokevirtual 68, 3) := by decide +kernel
theorem dL_pointsOf_7 : decode cL_pointsOf 7 = .ok (.i2l, 1) := by decide +kernel
theorem dL_pointsOf_8 : decode cL_pointsOf 8 = .ok (.lastore, 1) := by decide +kernel
theorem dL_pointsOf_9 : decode cL_pointsOf 9 = .ok (.goto 6, 3) := by decide +kernel
theorem dL_pointsOf_12 : decode cL_pointsOf 12 = .ok (.astore_n 3, 1) := by decide +kernel
theorem dL_pointsOf_13 : decode cL_pointsOf 13 = .ok (.iconst 1, 1) := by decide +kernel
theorem dL_pointsOf_14 : decode cL_pointsOf 14 = .ok (.ireturn, 1) := by decide +kernel
theorem dL_pointsOf_15 : decode cL_pointsOf 15 = .ok (.iconst 0, 1) := by decide +kernel
theorem dL_pointsOf_16 : decode cL_pointsOf 16 = .ok (.ireturn, 1) := by decide +kernel
def f_L_pointsOf (F : Nat) (i1 : Int32) (M : GM) : Option (Int32 × GM) := bndT (f_X10_pointsOf F i1 M) (fun (n4, M5) => if n4 = 3 then (some ((1 : Int32), M5)) else (none)) (fun (v2, M3) => bnd (sL M3 162 0 v2.toInt64) (fun M6 => some ((0 : Int32), M6)))
set_option maxHeartbeats 4000000 in
set_option maxRecDepth 100000 in
theorem w_L_pointsOf {x : GX} (X : GC x cL_pointsOf 4 RL 8) (XU : GC (xup x) cL_pointsOf 4 RL 8) (hroom : xcells x + 1 ≤ (xR x).cells ∧ xslots x + 6 ≤ (xR x).slots) (htab : (xc x).exceptionTable.toList = tableOf [(0, 9, 12, 21)]) (hnc : gNcs (xs x)) {i1 : Int32} {F : Nat} {M : GM} {r9 : (Int32 × GM)} (hR : ∀ (v9 : Int32) (M9 : GM) (lv9 : List (Nat × Value)) (pc9 : Nat), r9 = (v9, M9) → decode cL_pointsOf pc9 = .ok (.ireturn, 1) → WG (xup x) M9 lv9 pc9 [.int v9]) (h : f_L_pointsOf F i1 M = some r9) : WG x M [(0, .ref (gad (xz x) 0)), (1, .int i1), (2, .ref (gad (xz x) 162))] 0 [] := by
  unfold f_L_pointsOf at h
  refine g_aload_n X (j := 2) dL_pointsOf_0 rfl rfl ?_
  refine g_iconst X (v := 0) dL_pointsOf_1 (by decide) ?_
  refine g_aload_n X (j := 0) dL_pointsOf_2 rfl rfl ?_
  refine g_iload_n X (j := 1) dL_pointsOf_3 rfl rfl ?_
  rcases bndT_e h with ⟨⟨n4, M5⟩, hc1, h⟩ | ⟨⟨v2, M3⟩, hc1, h⟩
  · by_cases hb0 : n4 = 3
    · have h := ite_t hb0 h
      subst hb0
      refine gt_L_68 X gT_c0 (cx_X10_pointsOf X.htr  hc1) (by decide) (Nat.le_of_ble_eq_true rfl) dL_pointsOf_4 hroom htab [] { startPc := 0, endPc := 9, handlerPc := 12, catchType := 21 } [] rfl (fun z hz => absurd hz List.not_mem_nil) (by decide +kernel) (by decide) q_863 (List.mem_of_getElem? (i := 2) rfl) (fun q9 => ?_)
      refine g_astore_n XU (lv' := (3, .ref q9) :: [(0, .ref (gad (xz x) 0)), (1, .int i1), (2, .ref (gad (xz x) 162))]) dL_pointsOf_12 rfl (by decide) rfl ?_
      refine g_iconst XU (v := 1) dL_pointsOf_13 (by decide) ?_
      exact (hR (1 : Int32) M5 _ _ (Option.some.inj h).symm dL_pointsOf_14)
    · have h := ite_f hb0 h
      cases h
  refine gc_L_68 X gT_c0 (ct_X10_pointsOf X.htr  hc1) (by decide) (Nat.le_of_ble_eq_true rfl) dL_pointsOf_4 ?_
  refine g_i2l X dL_pointsOf_7 ?_
  refine g_last X gT_c162 (by decide +kernel) dL_pointsOf_8 ?_
  rw [tn_0]
  refine g_mem (fun M6 e7 => ?_)
  have h := bnd_e e7 h
  refine g_goto X (tgt := 15) dL_pointsOf_9 (by decide) ?_
  refine g_iconst X (v := 0) dL_pointsOf_15 (by decide) ?_
  refine g_up ?_
  exact hR (0 : Int32) M6 _ _ (Option.some.inj h).symm dL_pointsOf_16
theorem ct_L_pointsOf {l : Launch} {z : GZ} (htr : l.stackTraces = false) {i1 : Int32} {M : GM} {F : Nat} {v : Int32} {M1 : GM} (h : f_L_pointsOf F i1 M = some (v, M1)) : gMetW l z yL_pointsOf cL_pointsOf 4 [(0, 9, 12, 21)] [.ref (gad z 0), .int i1, .ref (gad z 162)] M v M1 := gMetW_of (by decide +kernel) (Nat.le_of_ble_eq_true rfl) htr (fun x X XU ez el htab hnc hR => by subst ez; subst el; exact w_L_pointsOf X XU ⟨XU.2.2.2.2.2.2.2.2.2.1, XU.2.2.2.2.2.2.2.2.2.2.1⟩ htab hnc (fun v9 M9 lv9 pc9 e9 d9 => by cases e9; exact hR lv9 pc9 d9) h)
theorem gc_L_71 {x : GX} {cc : ByteArray} {nL d pc : Nat} {M : GM} {lv : List (Nat × Value)} {st : List Value} (X : GC x cc nL RL d) {i0 : Int32} {i1 : Int32} {i2 : Int32} {M1 : GM} {r : Int32} (ht : gT 0 = 10) (hM : gMet (xl x) (xz x) yX10_liesIn cX10_liesIn 4 (some .boolean) 7 [.ref (gad (xz x) 0), .int i0, .int i1, .int i2] M (some (.int r)) M1) (hd : 8 ≤ d) (hsum : (st.map fun v => v.category).sum ≤ 8) (dec : decode cc pc = .ok (.invokevirtual 71, 3)) (go : WG x M1 lv (pc + 3) (.int r :: st)) : WG x M lv pc (.int i2 :: .int i1 :: .int i0 :: .ref (gad (xz x) 0) :: st) := g_callV X (n := 3) (As := [.int i0, .int i1, .int i2]) (rest := st) hM ht (by decide) (gE_10 ht) rfl q_983 q_984 q_985 q_52 q_986 (by decide +kernel) rfl hd (by decide) rfl hsum dec go
theorem gt_L_71 {x : GX} {cc : ByteArray} {nL d pc : Nat} {M : GM} {lv : List (Nat × Value)} {st : List Value} (X : GC x cc nL RL d) {i0 : Int32} {i1 : Int32} {i2 : Int32} {M1 : GM} {n9 : Nat} (ht : gT 0 = 10) (hM : gMetX (xl x) (xz x) yX10_liesIn cX10_liesIn 4 (some .boolean) 7 [.ref (gad (xz x) 0), .int i0, .int i1, .int i2] M n9 M1) (hd : 8 ≤ d) (hsum : (st.map fun v => v.category).sum ≤ 8) (dec : decode cc pc = .ok (.invokevirtual 71, 3)) {hh : List (Nat × Nat × Nat × Nat)} (hroom : xcells x + 1 ≤ (xR x).cells ∧ xslots x + 6 ≤ (xR x).slots) (htab : (xc x).exceptionTable.toList = tableOf hh) (pre : List ExceptionTableEntry) (en : ExceptionTableEntry) (suf : List ExceptionTableEntry) (hsplit : tableOf hh = pre ++ en :: suf) (hpass : ∀ q ∈ pre, covers q pc = false ∨ (q.catchType ≠ 0 ∧ ∃ nm : String, Cond.classLink RL q.catchType nm ∈ GW ∧ va_Nc (gEx n9) nm (xs x))) (hcov : covers en pc = true) (h0 : en.catchType ≠ 0) (hlink : Cond.classLink RL en.catchType (gEx n9) ∈ GW) (hcast : Cond.castable (gEx n9) (gEx n9) ∈ gFaceL) (go : ∀ q : Nat, WG (xup x) M1 lv en.handlerPc [.ref q]) : WG x M lv pc (.int i2 :: .int i1 :: .int i0 :: .ref (gad (xz x) 0) :: st) := g_tryV X (n := 3) (As := [.int i0, .int i1, .int i2]) (rest := st) hM ht (by decide) (gE_10 ht) rfl q_983 q_984 q_985 q_52 q_986 (by decide +kernel) rfl hd (by decide) rfl hsum dec hroom htab pre en suf hsplit hpass hcov h0 hlink hcast go
theorem dL_liesIn_0 : decode cL_liesIn 0 = .ok (.aload 4, 2) := by decide +kernel
theorem dL_liesIn_2 : decode cL_liesIn 2 = .ok (.iconst 0, 1) := by decide +kernel
theorem dL_liesIn_3 : decode cL_liesIn 3 = .ok (.aload_n 0, 1) := by decide +kernel
theorem dL_liesIn_4 : decode cL_liesIn 4 = .ok (.iload_n 1, 1) := by decide +kernel
theorem dL_liesIn_5 : decode cL_liesIn 5 = .ok (.iload_n 2, 1) := by decide +kernel
theorem dL_liesIn_6 : decode cL_liesIn 6 = .ok (.iload_n 3, 1) := by decide +kernel
theorem dL_liesIn_7 : decode cL_liesIn 7 = .ok (.invokevirtual 71, 3) := by decide +kernel
theorem dL_liesIn_10 : decode cL_liesIn 10 = .ok (.ifCond .eq 7, 3) := by decide +kernel
theorem dL_liesIn_13 : decode cL_liesIn 13 = .ok (.lconst 1, 1) := by decide +kernel
theorem dL_liesIn_14 : decode cL_liesIn 14 = .ok (.goto 4, 3) := by decide +kernel
theorem dL_liesIn_17 : decode cL_liesIn 17 = .ok (.lconst 0, 1) := by decide +kernel
theorem dL_liesIn_18 : decode cL_liesIn 18 = .ok (.lastore, 1) := by decide +kernel
theorem dL_liesIn_19 : decode cL_liesIn 19 = .ok (.goto 7, 3) := by decide +kernel
theorem dL_liesIn_22 : decode cL_liesIn 22 = .ok (.astore 5, 2) := by decide +kernel
theorem dL_liesIn_24 : decode cL_liesIn 24 = .ok (.iconst 1, 1) := by decide +kernel
theorem dL_liesIn_25 : decode cL_liesIn 25 = .ok (.ireturn, 1) := by decide +kernel
theorem dL_liesIn_26 : decode cL_liesIn 26 = .ok (.iconst 0, 1) := by decide +kernel
theorem dL_liesIn_27 : decode cL_liesIn 27 = .ok (.ireturn, 1) := by decide +kernel
def f_L_liesIn (F : Nat) (i1 : Int32) (i2 : Int32) (i3 : Int32) (M : GM) : Option (Int32 × GM) := bndT (f_X10_liesIn F i1 i2 i3 M) (fun (n4, M5) => if n4 = 3 then (some ((1 : Int32), M5)) else (none)) (fun (v2, M3) => if v2 = 0 then (bnd (sL M3 162 0 (0 : Int64)) (fun M6 => some ((0 : Int32), M6))) else (bnd (sL M3 162 0 (1 : Int64)) (fun M8 => some ((0 : Int32), M8))))
set_option maxHeartbeats 4000000 in
set_option maxRecDepth 100000 in
theorem w_L_liesIn {x : GX} (X : GC x cL_liesIn 6 RL 8) (XU : GC (xup x) cL_liesIn 6 RL 8) (hroom : xcells x + 1 ≤ (xR x).cells ∧ xslots x + 6 ≤ (xR x).slots) (htab : (xc x).exceptionTable.toList = tableOf [(0, 19, 22, 21)]) (hnc : gNcs (xs x)) {i1 : Int32} {i2 : Int32} {i3 : Int32} {F : Nat} {M : GM} {r9 : (Int32 × GM)} (hR : ∀ (v9 : Int32) (M9 : GM) (lv9 : List (Nat × Value)) (pc9 : Nat), r9 = (v9, M9) → decode cL_liesIn pc9 = .ok (.ireturn, 1) → WG (xup x) M9 lv9 pc9 [.int v9]) (h : f_L_liesIn F i1 i2 i3 M = some r9) : WG x M [(0, .ref (gad (xz x) 0)), (1, .int i1), (2, .int i2), (3, .int i3), (4, .ref (gad (xz x) 162))] 0 [] := by
  unfold f_L_liesIn at h
  refine g_aload X (j := 4) dL_liesIn_0 rfl ?_
  refine g_iconst X (v := 0) dL_liesIn_2 (by decide) ?_
  refine g_aload_n X (j := 0) dL_liesIn_3 rfl rfl ?_
  refine g_iload_n X (j := 1) dL_liesIn_4 rfl rfl ?_
  refine g_iload_n X (j := 2) dL_liesIn_5 rfl rfl ?_
  refine g_iload_n X (j := 3) dL_liesIn_6 rfl rfl ?_
  rcases bndT_e h with ⟨⟨n4, M5⟩, hc1, h⟩ | ⟨⟨v2, M3⟩, hc1, h⟩
  · by_cases hb0 : n4 = 3
    · have h := ite_t hb0 h
      subst hb0
      refine gt_L_71 X gT_c0 (cx_X10_liesIn X.htr  hc1) (by decide) (Nat.le_of_ble_eq_true rfl) dL_liesIn_7 hroom htab [] { startPc := 0, endPc := 19, handlerPc := 22, catchType := 21 } [] rfl (fun z hz => absurd hz List.not_mem_nil) (by decide +kernel) (by decide) q_863 (List.mem_of_getElem? (i := 2) rfl) (fun q9 => ?_)
      refine g_astore XU (lv' := (5, .ref q9) :: [(0, .ref (gad (xz x) 0)), (1, .int i1), (2, .int i2), (3, .int i3), (4, .ref (gad (xz x) 162))]) dL_liesIn_22 (by decide) rfl ?_
      refine g_iconst XU (v := 1) dL_liesIn_24 (by decide) ?_
      exact (hR (1 : Int32) M5 _ _ (Option.some.inj h).symm dL_liesIn_25)
    · have h := ite_f hb0 h
      cases h
  refine gc_L_71 X gT_c0 (ct_X10_liesIn X.htr  hc1) (by decide) (Nat.le_of_ble_eq_true rfl) dL_liesIn_7 ?_
  refine g_if_eq X (tgt := 17) dL_liesIn_10 (by decide) (fun hb => ?_) (fun hb => ?_)
  · have h := ite_t hb h
    refine g_lconst X (v := 0) dL_liesIn_17 (by decide) ?_
    refine g_last X gT_c162 (by decide +kernel) dL_liesIn_18 ?_
    rw [tn_0]
    refine g_mem (fun M6 e7 => ?_)
    have h := bnd_e e7 h
    refine g_goto X (tgt := 26) dL_liesIn_19 (by decide) ?_
    refine g_iconst X (v := 0) dL_liesIn_26 (by decide) ?_
    refine g_up ?_
    exact hR (0 : Int32) M6 _ _ (Option.some.inj h).symm dL_liesIn_27
  · have h := ite_f hb h
    refine g_lconst X (v := 1) dL_liesIn_13 (by decide) ?_
    refine g_goto X (tgt := 18) dL_liesIn_14 (by decide) ?_
    refine g_last X gT_c162 (by decide +kernel) dL_liesIn_18 ?_
    rw [tn_0]
    refine g_mem (fun M8 e9 => ?_)
    have h := bnd_e e9 h
    refine g_goto X (tgt := 26) dL_liesIn_19 (by decide) ?_
    refine g_iconst X (v := 0) dL_liesIn_26 (by decide) ?_
    refine g_up ?_
    exact hR (0 : Int32) M8 _ _ (Option.some.inj h).symm dL_liesIn_27
theorem ct_L_liesIn {l : Launch} {z : GZ} (htr : l.stackTraces = false) {i1 : Int32} {i2 : Int32} {i3 : Int32} {M : GM} {F : Nat} {v : Int32} {M1 : GM} (h : f_L_liesIn F i1 i2 i3 M = some (v, M1)) : gMetW l z yL_liesIn cL_liesIn 6 [(0, 19, 22, 21)] [.ref (gad z 0), .int i1, .int i2, .int i3, .ref (gad z 162)] M v M1 := gMetW_of (by decide +kernel) (Nat.le_of_ble_eq_true rfl) htr (fun x X XU ez el htab hnc hR => by subst ez; subst el; exact w_L_liesIn X XU ⟨XU.2.2.2.2.2.2.2.2.2.1, XU.2.2.2.2.2.2.2.2.2.2.1⟩ htab hnc (fun v9 M9 lv9 pc9 e9 d9 => by cases e9; exact hR lv9 pc9 d9) h)
theorem gc_L_75 {x : GX} {cc : ByteArray} {nL d pc : Nat} {M : GM} {lv : List (Nat × Value)} {st : List Value} (X : GC x cc nL RL d) {i0 : Int32} {i1 : Int32} {i2 : Int32} {M1 : GM} {r : Int32} (ht : gT 0 = 10) (hM : gMet (xl x) (xz x) yX10_depthOf cX10_depthOf 5 (some .int) 7 [.ref (gad (xz x) 0), .int i0, .int i1, .int i2] M (some (.int r)) M1) (hd : 8 ≤ d) (hsum : (st.map fun v => v.category).sum ≤ 8) (dec : decode cc pc = .ok (.invokevirtual 75, 3)) (go : WG x M1 lv (pc + 3) (.int r :: st)) : WG x M lv pc (.int i2 :: .int i1 :: .int i0 :: .ref (gad (xz x) 0) :: st) := g_callV X (n := 3) (As := [.int i0, .int i1, .int i2]) (rest := st) hM ht (by decide) (gE_10 ht) rfl q_990 q_991 q_992 q_52 q_993 (by decide +kernel) rfl hd (by decide) rfl hsum dec go
theorem gt_L_75 {x : GX} {cc : ByteArray} {nL d pc : Nat} {M : GM} {lv : List (Nat × Value)} {st : List Value} (X : GC x cc nL RL d) {i0 : Int32} {i1 : Int32} {i2 : Int32} {M1 : GM} {n9 : Nat} (ht : gT 0 = 10) (hM : gMetX (xl x) (xz x) yX10_depthOf cX10_depthOf 5 (some .int) 7 [.ref (gad (xz x) 0), .int i0, .int i1, .int i2] M n9 M1) (hd : 8 ≤ d) (hsum : (st.map fun v => v.category).sum ≤ 8) (dec : decode cc pc = .ok (.invokevirtual 75, 3)) {hh : List (Nat × Nat × Nat × Nat)} (hroom : xcells x + 1 ≤ (xR x).cells ∧ xslots x + 6 ≤ (xR x).slots) (htab : (xc x).exceptionTable.toList = tableOf hh) (pre : List ExceptionTableEntry) (en : ExceptionTableEntry) (suf : List ExceptionTableEntry) (hsplit : tableOf hh = pre ++ en :: suf) (hpass : ∀ q ∈ pre, covers q pc = false ∨ (q.catchType ≠ 0 ∧ ∃ nm : String, Cond.classLink RL q.catchType nm ∈ GW ∧ va_Nc (gEx n9) nm (xs x))) (hcov : covers en pc = true) (h0 : en.catchType ≠ 0) (hlink : Cond.classLink RL en.catchType (gEx n9) ∈ GW) (hcast : Cond.castable (gEx n9) (gEx n9) ∈ gFaceL) (go : ∀ q : Nat, WG (xup x) M1 lv en.handlerPc [.ref q]) : WG x M lv pc (.int i2 :: .int i1 :: .int i0 :: .ref (gad (xz x) 0) :: st) := g_tryV X (n := 3) (As := [.int i0, .int i1, .int i2]) (rest := st) hM ht (by decide) (gE_10 ht) rfl q_990 q_991 q_992 q_52 q_993 (by decide +kernel) rfl hd (by decide) rfl hsum dec hroom htab pre en suf hsplit hpass hcov h0 hlink hcast go
theorem dL_depthOf_0 : decode cL_depthOf 0 = .ok (.aload 4, 2) := by decide +kernel
theorem dL_depthOf_2 : decode cL_depthOf 2 = .ok (.iconst 0, 1) := by decide +kernel
theorem dL_depthOf_3 : decode cL_depthOf 3 = .ok (.aload_n 0, 1) := by decide +kernel
theorem dL_depthOf_4 : decode cL_depthOf 4 = .ok (.iload_n 1, 1) := by decide +kernel
theorem dL_depthOf_5 : decode cL_depthOf 5 = .ok (.iload_n 2, 1) := by decide +kernel
theorem dL_depthOf_6 : decode cL_depthOf 6 = .ok (.iload_n 3, 1) := by decide +kernel
theorem dL_depthOf_7 : decode cL_depthOf 7 = .ok (.invokevirtual 75, 3) := by decide +kernel
theorem dL_depthOf_10 : decode cL_depthOf 10 = .ok (.i2l, 1) := by decide +kernel
theorem dL_depthOf_11 : decode cL_depthOf 11 = .ok (.lastore, 1) := by decide +kernel
theorem dL_depthOf_12 : decode cL_depthOf 12 = .ok (.goto 7, 3) := by decide +kernel
theorem dL_depthOf_15 : decode cL_depthOf 15 = .ok (.astore 5, 2) := by decide +kernel
theorem dL_depthOf_17 : decode cL_depthOf 17 = .ok (.iconst 1, 1) := by decide +kernel
theorem dL_depthOf_18 : decode cL_depthOf 18 = .ok (.ireturn, 1) := by decide +kernel
theorem dL_depthOf_19 : decode cL_depthOf 19 = .ok (.iconst 0, 1) := by decide +kernel
theorem dL_depthOf_20 : decode cL_depthOf 20 = .ok (.ireturn, 1) := by decide +kernel
def f_L_depthOf (F : Nat) (i1 : Int32) (i2 : Int32) (i3 : Int32) (M : GM) : Option (Int32 × GM) := bndT (f_X10_depthOf F i1 i2 i3 M) (fun (n4, M5) => if n4 = 3 then (some ((1 : Int32), M5)) else (none)) (fun (v2, M3) => bnd (sL M3 162 0 v2.toInt64) (fun M6 => some ((0 : Int32), M6)))
set_option maxHeartbeats 4000000 in
set_option maxRecDepth 100000 in
theorem w_L_depthOf {x : GX} (X : GC x cL_depthOf 6 RL 8) (XU : GC (xup x) cL_depthOf 6 RL 8) (hroom : xcells x + 1 ≤ (xR x).cells ∧ xslots x + 6 ≤ (xR x).slots) (htab : (xc x).exceptionTable.toList = tableOf [(0, 12, 15, 21)]) (hnc : gNcs (xs x)) {i1 : Int32} {i2 : Int32} {i3 : Int32} {F : Nat} {M : GM} {r9 : (Int32 × GM)} (hR : ∀ (v9 : Int32) (M9 : GM) (lv9 : List (Nat × Value)) (pc9 : Nat), r9 = (v9, M9) → decode cL_depthOf pc9 = .ok (.ireturn, 1) → WG (xup x) M9 lv9 pc9 [.int v9]) (h : f_L_depthOf F i1 i2 i3 M = some r9) : WG x M [(0, .ref (gad (xz x) 0)), (1, .int i1), (2, .int i2), (3, .int i3), (4, .ref (gad (xz x) 162))] 0 [] := by
  unfold f_L_depthOf at h
  refine g_aload X (j := 4) dL_depthOf_0 rfl ?_
  refine g_iconst X (v := 0) dL_depthOf_2 (by decide) ?_
  refine g_aload_n X (j := 0) dL_depthOf_3 rfl rfl ?_
  refine g_iload_n X (j := 1) dL_depthOf_4 rfl rfl ?_
  refine g_iload_n X (j := 2) dL_depthOf_5 rfl rfl ?_
  refine g_iload_n X (j := 3) dL_depthOf_6 rfl rfl ?_
  rcases bndT_e h with ⟨⟨n4, M5⟩, hc1, h⟩ | ⟨⟨v2, M3⟩, hc1, h⟩
  · by_cases hb0 : n4 = 3
    · have h := ite_t hb0 h
      subst hb0
      refine gt_L_75 X gT_c0 (cx_X10_depthOf X.htr  hc1) (by decide) (Nat.le_of_ble_eq_true rfl) dL_depthOf_7 hroom htab [] { startPc := 0, endPc := 12, handlerPc := 15, catchType := 21 } [] rfl (fun z hz => absurd hz List.not_mem_nil) (by decide +kernel) (by decide) q_863 (List.mem_of_getElem? (i := 2) rfl) (fun q9 => ?_)
      refine g_astore XU (lv' := (5, .ref q9) :: [(0, .ref (gad (xz x) 0)), (1, .int i1), (2, .int i2), (3, .int i3), (4, .ref (gad (xz x) 162))]) dL_depthOf_15 (by decide) rfl ?_
      refine g_iconst XU (v := 1) dL_depthOf_17 (by decide) ?_
      exact (hR (1 : Int32) M5 _ _ (Option.some.inj h).symm dL_depthOf_18)
    · have h := ite_f hb0 h
      cases h
  refine gc_L_75 X gT_c0 (ct_X10_depthOf X.htr  hc1) (by decide) (Nat.le_of_ble_eq_true rfl) dL_depthOf_7 ?_
  refine g_i2l X dL_depthOf_10 ?_
  refine g_last X gT_c162 (by decide +kernel) dL_depthOf_11 ?_
  rw [tn_0]
  refine g_mem (fun M6 e7 => ?_)
  have h := bnd_e e7 h
  refine g_goto X (tgt := 19) dL_depthOf_12 (by decide) ?_
  refine g_iconst X (v := 0) dL_depthOf_19 (by decide) ?_
  refine g_up ?_
  exact hR (0 : Int32) M6 _ _ (Option.some.inj h).symm dL_depthOf_20
theorem ct_L_depthOf {l : Launch} {z : GZ} (htr : l.stackTraces = false) {i1 : Int32} {i2 : Int32} {i3 : Int32} {M : GM} {F : Nat} {v : Int32} {M1 : GM} (h : f_L_depthOf F i1 i2 i3 M = some (v, M1)) : gMetW l z yL_depthOf cL_depthOf 6 [(0, 12, 15, 21)] [.ref (gad z 0), .int i1, .int i2, .int i3, .ref (gad z 162)] M v M1 := gMetW_of (by decide +kernel) (Nat.le_of_ble_eq_true rfl) htr (fun x X XU ez el htab hnc hR => by subst ez; subst el; exact w_L_depthOf X XU ⟨XU.2.2.2.2.2.2.2.2.2.1, XU.2.2.2.2.2.2.2.2.2.2.1⟩ htab hnc (fun v9 M9 lv9 pc9 e9 d9 => by cases e9; exact hR lv9 pc9 d9) h)
theorem gc_L_78 {x : GX} {cc : ByteArray} {nL d pc : Nat} {M : GM} {lv : List (Nat × Value)} {st : List Value} (X : GC x cc nL RL d) {i0 : Int32} {i1 : Int32} {i2 : Int32} {M1 : GM} {r : Int32} (ht : gT 0 = 10) (hM : gMet (xl x) (xz x) yX10_colourOf cX10_colourOf 5 (some .int) 7 [.ref (gad (xz x) 0), .int i0, .int i1, .int i2] M (some (.int r)) M1) (hd : 8 ≤ d) (hsum : (st.map fun v => v.category).sum ≤ 8) (dec : decode cc pc = .ok (.invokevirtual 78, 3)) (go : WG x M1 lv (pc + 3) (.int r :: st)) : WG x M lv pc (.int i2 :: .int i1 :: .int i0 :: .ref (gad (xz x) 0) :: st) := g_callV X (n := 3) (As := [.int i0, .int i1, .int i2]) (rest := st) hM ht (by decide) (gE_10 ht) rfl q_997 q_998 q_999 q_52 q_1000 (by decide +kernel) rfl hd (by decide) rfl hsum dec go
theorem gt_L_78 {x : GX} {cc : ByteArray} {nL d pc : Nat} {M : GM} {lv : List (Nat × Value)} {st : List Value} (X : GC x cc nL RL d) {i0 : Int32} {i1 : Int32} {i2 : Int32} {M1 : GM} {n9 : Nat} (ht : gT 0 = 10) (hM : gMetX (xl x) (xz x) yX10_colourOf cX10_colourOf 5 (some .int) 7 [.ref (gad (xz x) 0), .int i0, .int i1, .int i2] M n9 M1) (hd : 8 ≤ d) (hsum : (st.map fun v => v.category).sum ≤ 8) (dec : decode cc pc = .ok (.invokevirtual 78, 3)) {hh : List (Nat × Nat × Nat × Nat)} (hroom : xcells x + 1 ≤ (xR x).cells ∧ xslots x + 6 ≤ (xR x).slots) (htab : (xc x).exceptionTable.toList = tableOf hh) (pre : List ExceptionTableEntry) (en : ExceptionTableEntry) (suf : List ExceptionTableEntry) (hsplit : tableOf hh = pre ++ en :: suf) (hpass : ∀ q ∈ pre, covers q pc = false ∨ (q.catchType ≠ 0 ∧ ∃ nm : String, Cond.classLink RL q.catchType nm ∈ GW ∧ va_Nc (gEx n9) nm (xs x))) (hcov : covers en pc = true) (h0 : en.catchType ≠ 0) (hlink : Cond.classLink RL en.catchType (gEx n9) ∈ GW) (hcast : Cond.castable (gEx n9) (gEx n9) ∈ gFaceL) (go : ∀ q : Nat, WG (xup x) M1 lv en.handlerPc [.ref q]) : WG x M lv pc (.int i2 :: .int i1 :: .int i0 :: .ref (gad (xz x) 0) :: st) := g_tryV X (n := 3) (As := [.int i0, .int i1, .int i2]) (rest := st) hM ht (by decide) (gE_10 ht) rfl q_997 q_998 q_999 q_52 q_1000 (by decide +kernel) rfl hd (by decide) rfl hsum dec hroom htab pre en suf hsplit hpass hcov h0 hlink hcast go
theorem dL_colourOf_0 : decode cL_colourOf 0 = .ok (.aload 4, 2) := by decide +kernel
theorem dL_colourOf_2 : decode cL_colourOf 2 = .ok (.iconst 0, 1) := by decide +kernel
theorem dL_colourOf_3 : decode cL_colourOf 3 = .ok (.aload_n 0, 1) := by decide +kernel
theorem dL_colourOf_4 : decode cL_colourOf 4 = .ok (.iload_n 1, 1) := by decide +kernel
theorem dL_colourOf_5 : decode cL_colourOf 5 = .ok (.iload_n 2, 1) := by decide +kernel
theorem dL_colourOf_6 : decode cL_colourOf 6 = .ok (.iload_n 3, 1) := by decide +kernel
theorem dL_colourOf_7 : decode cL_colourOf 7 = .ok (.invokevirtual 78, 3) := by decide +kernel
theorem dL_colourOf_10 : decode cL_colourOf 10 = .ok (.i2l, 1) := by decide +kernel
theorem dL_colourOf_11 : decode cL_colourOf 11 = .ok (.lastore, 1) := by decide +kernel
theorem dL_colourOf_12 : decode cL_colourOf 12 = .ok (.goto 7, 3) := by decide +kernel
theorem dL_colourOf_15 : decode cL_colourOf 15 = .ok (.astore 5, 2) := by decide +kernel
theorem dL_colourOf_17 : decode cL_colourOf 17 = .ok (.iconst 1, 1) := by decide +kernel
theorem dL_colourOf_18 : decode cL_colourOf 18 = .ok (.ireturn, 1) := by decide +kernel
theorem dL_colourOf_19 : decode cL_colourOf 19 = .ok (.iconst 0, 1) := by decide +kernel
theorem dL_colourOf_20 : decode cL_colourOf 20 = .ok (.ireturn, 1) := by decide +kernel
def f_L_colourOf (F : Nat) (i1 : Int32) (i2 : Int32) (i3 : Int32) (M : GM) : Option (Int32 × GM) := bndT (f_X10_colourOf F i1 i2 i3 M) (fun (n4, M5) => if n4 = 3 then (some ((1 : Int32), M5)) else (none)) (fun (v2, M3) => bnd (sL M3 162 0 v2.toInt64) (fun M6 => some ((0 : Int32), M6)))
set_option maxHeartbeats 4000000 in
set_option maxRecDepth 100000 in
theorem w_L_colourOf {x : GX} (X : GC x cL_colourOf 6 RL 8) (XU : GC (xup x) cL_colourOf 6 RL 8) (hroom : xcells x + 1 ≤ (xR x).cells ∧ xslots x + 6 ≤ (xR x).slots) (htab : (xc x).exceptionTable.toList = tableOf [(0, 12, 15, 21)]) (hnc : gNcs (xs x)) {i1 : Int32} {i2 : Int32} {i3 : Int32} {F : Nat} {M : GM} {r9 : (Int32 × GM)} (hR : ∀ (v9 : Int32) (M9 : GM) (lv9 : List (Nat × Value)) (pc9 : Nat), r9 = (v9, M9) → decode cL_colourOf pc9 = .ok (.ireturn, 1) → WG (xup x) M9 lv9 pc9 [.int v9]) (h : f_L_colourOf F i1 i2 i3 M = some r9) : WG x M [(0, .ref (gad (xz x) 0)), (1, .int i1), (2, .int i2), (3, .int i3), (4, .ref (gad (xz x) 162))] 0 [] := by
  unfold f_L_colourOf at h
  refine g_aload X (j := 4) dL_colourOf_0 rfl ?_
  refine g_iconst X (v := 0) dL_colourOf_2 (by decide) ?_
  refine g_aload_n X (j := 0) dL_colourOf_3 rfl rfl ?_
  refine g_iload_n X (j := 1) dL_colourOf_4 rfl rfl ?_
  refine g_iload_n X (j := 2) dL_colourOf_5 rfl rfl ?_
  refine g_iload_n X (j := 3) dL_colourOf_6 rfl rfl ?_
  rcases bndT_e h with ⟨⟨n4, M5⟩, hc1, h⟩ | ⟨⟨v2, M3⟩, hc1, h⟩
  · by_cases hb0 : n4 = 3
    · have h := ite_t hb0 h
      subst hb0
      refine gt_L_78 X gT_c0 (cx_X10_colourOf X.htr  hc1) (by decide) (Nat.le_of_ble_eq_true rfl) dL_colourOf_7 hroom htab [] { startPc := 0, endPc := 12, handlerPc := 15, catchType := 21 } [] rfl (fun z hz => absurd hz List.not_mem_nil) (by decide +kernel) (by decide) q_863 (List.mem_of_getElem? (i := 2) rfl) (fun q9 => ?_)
      refine g_astore XU (lv' := (5, .ref q9) :: [(0, .ref (gad (xz x) 0)), (1, .int i1), (2, .int i2), (3, .int i3), (4, .ref (gad (xz x) 162))]) dL_colourOf_15 (by decide) rfl ?_
      refine g_iconst XU (v := 1) dL_colourOf_17 (by decide) ?_
      exact (hR (1 : Int32) M5 _ _ (Option.some.inj h).symm dL_colourOf_18)
    · have h := ite_f hb0 h
      cases h
  refine gc_L_78 X gT_c0 (ct_X10_colourOf X.htr  hc1) (by decide) (Nat.le_of_ble_eq_true rfl) dL_colourOf_7 ?_
  refine g_i2l X dL_colourOf_10 ?_
  refine g_last X gT_c162 (by decide +kernel) dL_colourOf_11 ?_
  rw [tn_0]
  refine g_mem (fun M6 e7 => ?_)
  have h := bnd_e e7 h
  refine g_goto X (tgt := 19) dL_colourOf_12 (by decide) ?_
  refine g_iconst X (v := 0) dL_colourOf_19 (by decide) ?_
  refine g_up ?_
  exact hR (0 : Int32) M6 _ _ (Option.some.inj h).symm dL_colourOf_20
theorem ct_L_colourOf {l : Launch} {z : GZ} (htr : l.stackTraces = false) {i1 : Int32} {i2 : Int32} {i3 : Int32} {M : GM} {F : Nat} {v : Int32} {M1 : GM} (h : f_L_colourOf F i1 i2 i3 M = some (v, M1)) : gMetW l z yL_colourOf cL_colourOf 6 [(0, 12, 15, 21)] [.ref (gad z 0), .int i1, .int i2, .int i3, .ref (gad z 162)] M v M1 := gMetW_of (by decide +kernel) (Nat.le_of_ble_eq_true rfl) htr (fun x X XU ez el htab hnc hR => by subst ez; subst el; exact w_L_colourOf X XU ⟨XU.2.2.2.2.2.2.2.2.2.1, XU.2.2.2.2.2.2.2.2.2.2.1⟩ htab hnc (fun v9 M9 lv9 pc9 e9 d9 => by cases e9; exact hR lv9 pc9 d9) h)
theorem gc_L_81 {x : GX} {cc : ByteArray} {nL d pc : Nat} {M : GM} {lv : List (Nat × Value)} {st : List Value} (X : GC x cc nL RL d) {i0 : Int32} {M1 : GM} {r : Int32} (ht : gT 0 = 10) (hM : gMet (xl x) (xz x) yX10_isStale cX10_isStale 2 (some .boolean) 7 [.ref (gad (xz x) 0), .int i0] M (some (.int r)) M1) (hd : 8 ≤ d) (hsum : (st.map fun v => v.category).sum ≤ 8) (dec : decode cc pc = .ok (.invokevirtual 81, 3)) (go : WG x M1 lv (pc + 3) (.int r :: st)) : WG x M lv pc (.int i0 :: .ref (gad (xz x) 0) :: st) := g_callV X (n := 1) (As := [.int i0]) (rest := st) hM ht (by decide) (gE_10 ht) rfl q_1004 q_1005 q_1006 q_52 q_1007 (by decide +kernel) rfl hd (by decide) rfl hsum dec go
theorem gt_L_81 {x : GX} {cc : ByteArray} {nL d pc : Nat} {M : GM} {lv : List (Nat × Value)} {st : List Value} (X : GC x cc nL RL d) {i0 : Int32} {M1 : GM} {n9 : Nat} (ht : gT 0 = 10) (hM : gMetX (xl x) (xz x) yX10_isStale cX10_isStale 2 (some .boolean) 7 [.ref (gad (xz x) 0), .int i0] M n9 M1) (hd : 8 ≤ d) (hsum : (st.map fun v => v.category).sum ≤ 8) (dec : decode cc pc = .ok (.invokevirtual 81, 3)) {hh : List (Nat × Nat × Nat × Nat)} (hroom : xcells x + 1 ≤ (xR x).cells ∧ xslots x + 6 ≤ (xR x).slots) (htab : (xc x).exceptionTable.toList = tableOf hh) (pre : List ExceptionTableEntry) (en : ExceptionTableEntry) (suf : List ExceptionTableEntry) (hsplit : tableOf hh = pre ++ en :: suf) (hpass : ∀ q ∈ pre, covers q pc = false ∨ (q.catchType ≠ 0 ∧ ∃ nm : String, Cond.classLink RL q.catchType nm ∈ GW ∧ va_Nc (gEx n9) nm (xs x))) (hcov : covers en pc = true) (h0 : en.catchType ≠ 0) (hlink : Cond.classLink RL en.catchType (gEx n9) ∈ GW) (hcast : Cond.castable (gEx n9) (gEx n9) ∈ gFaceL) (go : ∀ q : Nat, WG (xup x) M1 lv en.handlerPc [.ref q]) : WG x M lv pc (.int i0 :: .ref (gad (xz x) 0) :: st) := g_tryV X (n := 1) (As := [.int i0]) (rest := st) hM ht (by decide) (gE_10 ht) rfl q_1004 q_1005 q_1006 q_52 q_1007 (by decide +kernel) rfl hd (by decide) rfl hsum dec hroom htab pre en suf hsplit hpass hcov h0 hlink hcast go
theorem dL_isStale_0 : decode cL_isStale 0 = .ok (.aload_n 2, 1) := by decide +kernel
theorem dL_isStale_1 : decode cL_isStale 1 = .ok (.iconst 0, 1) := by decide +kernel
theorem dL_isStale_2 : decode cL_isStale 2 = .ok (.aload_n 0, 1) := by decide +kernel
theorem dL_isStale_3 : decode cL_isStale 3 = .ok (.iload_n 1, 1) := by decide +kernel
theorem dL_isStale_4 : decode cL_isStale 4 = .ok (.invokevirtual 81, 3) := by decide +kernel
theorem dL_isStale_7 : decode cL_isStale 7 = .ok (.ifCond .eq 7, 3) := by decide +kernel
theorem dL_isStale_10 : decode cL_isStale 10 = .ok (.lconst 1, 1) := by decide +kernel
theorem dL_isStale_11 : decode cL_isStale 11 = .ok (.goto 4, 3) := by decide +kernel
theorem dL_isStale_14 : decode cL_isStale 14 = .ok (.lconst 0, 1) := by decide +kernel
theorem dL_isStale_15 : decode cL_isStale 15 = .ok (.lastore, 1) := by decide +kernel
theorem dL_isStale_16 : decode cL_isStale 16 = .ok (.goto 6, 3) := by decide +kernel
theorem dL_isStale_19 : decode cL_isStale 19 = .ok (.astore_n 3, 1) := by decide +kernel
theorem dL_isStale_20 : decode cL_isStale 20 = .ok (.iconst 1, 1) := by decide +kernel
theorem dL_isStale_21 : decode cL_isStale 21 = .ok (.ireturn, 1) := by decide +kernel
theorem dL_isStale_22 : decode cL_isStale 22 = .ok (.iconst 0, 1) := by decide +kernel
theorem dL_isStale_23 : decode cL_isStale 23 = .ok (.ireturn, 1) := by decide +kernel
def f_L_isStale (F : Nat) (i1 : Int32) (M : GM) : Option (Int32 × GM) := bndT (f_X10_isStale F i1 M) (fun (n4, M5) => if n4 = 3 then (some ((1 : Int32), M5)) else (none)) (fun (v2, M3) => if v2 = 0 then (bnd (sL M3 162 0 (0 : Int64)) (fun M6 => some ((0 : Int32), M6))) else (bnd (sL M3 162 0 (1 : Int64)) (fun M8 => some ((0 : Int32), M8))))
set_option maxHeartbeats 4000000 in
set_option maxRecDepth 100000 in
theorem w_L_isStale {x : GX} (X : GC x cL_isStale 4 RL 8) (XU : GC (xup x) cL_isStale 4 RL 8) (hroom : xcells x + 1 ≤ (xR x).cells ∧ xslots x + 6 ≤ (xR x).slots) (htab : (xc x).exceptionTable.toList = tableOf [(0, 16, 19, 21)]) (hnc : gNcs (xs x)) {i1 : Int32} {F : Nat} {M : GM} {r9 : (Int32 × GM)} (hR : ∀ (v9 : Int32) (M9 : GM) (lv9 : List (Nat × Value)) (pc9 : Nat), r9 = (v9, M9) → decode cL_isStale pc9 = .ok (.ireturn, 1) → WG (xup x) M9 lv9 pc9 [.int v9]) (h : f_L_isStale F i1 M = some r9) : WG x M [(0, .ref (gad (xz x) 0)), (1, .int i1), (2, .ref (gad (xz x) 162))] 0 [] := by
  unfold f_L_isStale at h
  refine g_aload_n X (j := 2) dL_isStale_0 rfl rfl ?_
  refine g_iconst X (v := 0) dL_isStale_1 (by decide) ?_
  refine g_aload_n X (j := 0) dL_isStale_2 rfl rfl ?_
  refine g_iload_n X (j := 1) dL_isStale_3 rfl rfl ?_
  rcases bndT_e h with ⟨⟨n4, M5⟩, hc1, h⟩ | ⟨⟨v2, M3⟩, hc1, h⟩
  · by_cases hb0 : n4 = 3
    · have h := ite_t hb0 h
      subst hb0
      refine gt_L_81 X gT_c0 (cx_X10_isStale X.htr  hc1) (by decide) (Nat.le_of_ble_eq_true rfl) dL_isStale_4 hroom htab [] { startPc := 0, endPc := 16, handlerPc := 19, catchType := 21 } [] rfl (fun z hz => absurd hz List.not_mem_nil) (by decide +kernel) (by decide) q_863 (List.mem_of_getElem? (i := 2) rfl) (fun q9 => ?_)
      refine g_astore_n XU (lv' := (3, .ref q9) :: [(0, .ref (gad (xz x) 0)), (1, .int i1), (2, .ref (gad (xz x) 162))]) dL_isStale_19 rfl (by decide) rfl ?_
      refine g_iconst XU (v := 1) dL_isStale_20 (by decide) ?_
      exact (hR (1 : Int32) M5 _ _ (Option.some.inj h).symm dL_isStale_21)
    · have h := ite_f hb0 h
      cases h
  refine gc_L_81 X gT_c0 (ct_X10_isStale X.htr  hc1) (by decide) (Nat.le_of_ble_eq_true rfl) dL_isStale_4 ?_
  refine g_if_eq X (tgt := 14) dL_isStale_7 (by decide) (fun hb => ?_) (fun hb => ?_)
  · have h := ite_t hb h
    refine g_lconst X (v := 0) dL_isStale_14 (by decide) ?_
    refine g_last X gT_c162 (by decide +kernel) dL_isStale_15 ?_
    rw [tn_0]
    refine g_mem (fun M6 e7 => ?_)
    have h := bnd_e e7 h
    refine g_goto X (tgt := 22) dL_isStale_16 (by decide) ?_
    refine g_iconst X (v := 0) dL_isStale_22 (by decide) ?_
    refine g_up ?_
    exact hR (0 : Int32) M6 _ _ (Option.some.inj h).symm dL_isStale_23
  · have h := ite_f hb h
    refine g_lconst X (v := 1) dL_isStale_10 (by decide) ?_
    refine g_goto X (tgt := 15) dL_isStale_11 (by decide) ?_
    refine g_last X gT_c162 (by decide +kernel) dL_isStale_15 ?_
    rw [tn_0]
    refine g_mem (fun M8 e9 => ?_)
    have h := bnd_e e9 h
    refine g_goto X (tgt := 22) dL_isStale_16 (by decide) ?_
    refine g_iconst X (v := 0) dL_isStale_22 (by decide) ?_
    refine g_up ?_
    exact hR (0 : Int32) M8 _ _ (Option.some.inj h).symm dL_isStale_23
theorem ct_L_isStale {l : Launch} {z : GZ} (htr : l.stackTraces = false) {i1 : Int32} {M : GM} {F : Nat} {v : Int32} {M1 : GM} (h : f_L_isStale F i1 M = some (v, M1)) : gMetW l z yL_isStale cL_isStale 4 [(0, 16, 19, 21)] [.ref (gad z 0), .int i1, .ref (gad z 162)] M v M1 := gMetW_of (by decide +kernel) (Nat.le_of_ble_eq_true rfl) htr (fun x X XU ez el htab hnc hR => by subst ez; subst el; exact w_L_isStale X XU ⟨XU.2.2.2.2.2.2.2.2.2.1, XU.2.2.2.2.2.2.2.2.2.2.1⟩ htab hnc (fun v9 M9 lv9 pc9 e9 d9 => by cases e9; exact hR lv9 pc9 d9) h)
theorem gc_L_85 {x : GX} {cc : ByteArray} {nL d pc : Nat} {M : GM} {lv : List (Nat × Value)} {st : List Value} (X : GC x cc nL RL d) {i0 : Int32} {i1 : Int32} {M1 : GM} {r : Int32} (ht : gT 0 = 10) (hM : gMet (xl x) (xz x) yX10_colourAt cX10_colourAt 3 (some .int) 7 [.ref (gad (xz x) 0), .int i0, .int i1] M (some (.int r)) M1) (hd : 8 ≤ d) (hsum : (st.map fun v => v.category).sum ≤ 8) (dec : decode cc pc = .ok (.invokevirtual 85, 3)) (go : WG x M1 lv (pc + 3) (.int r :: st)) : WG x M lv pc (.int i1 :: .int i0 :: .ref (gad (xz x) 0) :: st) := g_callV X (n := 2) (As := [.int i0, .int i1]) (rest := st) hM ht (by decide) (gE_10 ht) rfl q_1012 q_790 q_791 q_52 q_792 (by decide +kernel) rfl hd (by decide) rfl hsum dec go
theorem gt_L_85 {x : GX} {cc : ByteArray} {nL d pc : Nat} {M : GM} {lv : List (Nat × Value)} {st : List Value} (X : GC x cc nL RL d) {i0 : Int32} {i1 : Int32} {M1 : GM} {n9 : Nat} (ht : gT 0 = 10) (hM : gMetX (xl x) (xz x) yX10_colourAt cX10_colourAt 3 (some .int) 7 [.ref (gad (xz x) 0), .int i0, .int i1] M n9 M1) (hd : 8 ≤ d) (hsum : (st.map fun v => v.category).sum ≤ 8) (dec : decode cc pc = .ok (.invokevirtual 85, 3)) {hh : List (Nat × Nat × Nat × Nat)} (hroom : xcells x + 1 ≤ (xR x).cells ∧ xslots x + 6 ≤ (xR x).slots) (htab : (xc x).exceptionTable.toList = tableOf hh) (pre : List ExceptionTableEntry) (en : ExceptionTableEntry) (suf : List ExceptionTableEntry) (hsplit : tableOf hh = pre ++ en :: suf) (hpass : ∀ q ∈ pre, covers q pc = false ∨ (q.catchType ≠ 0 ∧ ∃ nm : String, Cond.classLink RL q.catchType nm ∈ GW ∧ va_Nc (gEx n9) nm (xs x))) (hcov : covers en pc = true) (h0 : en.catchType ≠ 0) (hlink : Cond.classLink RL en.catchType (gEx n9) ∈ GW) (hcast : Cond.castable (gEx n9) (gEx n9) ∈ gFaceL) (go : ∀ q : Nat, WG (xup x) M1 lv en.handlerPc [.ref q]) : WG x M lv pc (.int i1 :: .int i0 :: .ref (gad (xz x) 0) :: st) := g_tryV X (n := 2) (As := [.int i0, .int i1]) (rest := st) hM ht (by decide) (gE_10 ht) rfl q_1012 q_790 q_791 q_52 q_792 (by decide +kernel) rfl hd (by decide) rfl hsum dec hroom htab pre en suf hsplit hpass hcov h0 hlink hcast go
theorem dL_colourAt_0 : decode cL_colourAt 0 = .ok (.aload_n 3, 1) := by decide +kernel
theorem dL_colourAt_1 : decode cL_colourAt 1 = .ok (.iconst 0, 1) := by decide +kernel
theorem dL_colourAt_2 : decode cL_colourAt 2 = .ok (.aload_n 0, 1) := by decide +kernel
theorem dL_colourAt_3 : decode cL_colourAt 3 = .ok (.iload_n 1, 1) := by decide +kernel
theorem dL_colourAt_4 : decode cL_colourAt 4 = .ok (.iload_n 2, 1) := by decide +kernel
theorem dL_colourAt_5 : decode cL_colourAt 5 = .ok (.invokevirtual 85, 3) := by decide +kernel
theorem dL_colourAt_8 : decode cL_colourAt 8 = .ok (.i2l, 1) := by decide +kernel
theorem dL_colourAt_9 : decode cL_colourAt 9 = .ok (.lastore, 1) := by decide +kernel
theorem dL_colourAt_10 : decode cL_colourAt 10 = .ok (.goto 7, 3) := by decide +kernel
theorem dL_colourAt_13 : decode cL_colourAt 13 = .ok (.astore 4, 2) := by decide +kernel
theorem dL_colourAt_15 : decode cL_colourAt 15 = .ok (.iconst 1, 1) := by decide +kernel
theorem dL_colourAt_16 : decode cL_colourAt 16 = .ok (.ireturn, 1) := by decide +kernel
theorem dL_colourAt_17 : decode cL_colourAt 17 = .ok (.iconst 0, 1) := by decide +kernel
theorem dL_colourAt_18 : decode cL_colourAt 18 = .ok (.ireturn, 1) := by decide +kernel
def f_L_colourAt (F : Nat) (i1 : Int32) (i2 : Int32) (M : GM) : Option (Int32 × GM) := bndT (f_X10_colourAt F i1 i2 M) (fun n3 => if n3 = 3 then (some ((1 : Int32), M)) else (none)) (fun v2 => bnd (sL M 162 0 v2.toInt64) (fun M4 => some ((0 : Int32), M4)))
set_option maxHeartbeats 4000000 in
set_option maxRecDepth 100000 in
theorem w_L_colourAt {x : GX} (X : GC x cL_colourAt 5 RL 8) (XU : GC (xup x) cL_colourAt 5 RL 8) (hroom : xcells x + 1 ≤ (xR x).cells ∧ xslots x + 6 ≤ (xR x).slots) (htab : (xc x).exceptionTable.toList = tableOf [(0, 10, 13, 21)]) (hnc : gNcs (xs x)) {i1 : Int32} {i2 : Int32} {F : Nat} {M : GM} {r9 : (Int32 × GM)} (hR : ∀ (v9 : Int32) (M9 : GM) (lv9 : List (Nat × Value)) (pc9 : Nat), r9 = (v9, M9) → decode cL_colourAt pc9 = .ok (.ireturn, 1) → WG (xup x) M9 lv9 pc9 [.int v9]) (h : f_L_colourAt F i1 i2 M = some r9) : WG x M [(0, .ref (gad (xz x) 0)), (1, .int i1), (2, .int i2), (3, .ref (gad (xz x) 162))] 0 [] := by
  unfold f_L_colourAt at h
  refine g_aload_n X (j := 3) dL_colourAt_0 rfl rfl ?_
  refine g_iconst X (v := 0) dL_colourAt_1 (by decide) ?_
  refine g_aload_n X (j := 0) dL_colourAt_2 rfl rfl ?_
  refine g_iload_n X (j := 1) dL_colourAt_3 rfl rfl ?_
  refine g_iload_n X (j := 2) dL_colourAt_4 rfl rfl ?_
  rcases bndT_e h with ⟨n3, hc1, h⟩ | ⟨v2, hc1, h⟩
  · by_cases hb0 : n3 = 3
    · have h := ite_t hb0 h
      subst hb0
      refine gt_L_85 X gT_c0 (cx_X10_colourAt X.htr  hc1) (by decide) (Nat.le_of_ble_eq_true rfl) dL_colourAt_5 hroom htab [] { startPc := 0, endPc := 10, handlerPc := 13, catchType := 21 } [] rfl (fun z hz => absurd hz List.not_mem_nil) (by decide +kernel) (by decide) q_863 (List.mem_of_getElem? (i := 2) rfl) (fun q9 => ?_)
      refine g_astore XU (lv' := (4, .ref q9) :: [(0, .ref (gad (xz x) 0)), (1, .int i1), (2, .int i2), (3, .ref (gad (xz x) 162))]) dL_colourAt_13 (by decide) rfl ?_
      refine g_iconst XU (v := 1) dL_colourAt_15 (by decide) ?_
      exact (hR (1 : Int32) M _ _ (Option.some.inj h).symm dL_colourAt_16)
    · have h := ite_f hb0 h
      cases h
  refine gc_L_85 X gT_c0 (ct_X10_colourAt X.htr  hc1) (by decide) (Nat.le_of_ble_eq_true rfl) dL_colourAt_5 ?_
  refine g_i2l X dL_colourAt_8 ?_
  refine g_last X gT_c162 (by decide +kernel) dL_colourAt_9 ?_
  rw [tn_0]
  refine g_mem (fun M4 e5 => ?_)
  have h := bnd_e e5 h
  refine g_goto X (tgt := 17) dL_colourAt_10 (by decide) ?_
  refine g_iconst X (v := 0) dL_colourAt_17 (by decide) ?_
  refine g_up ?_
  exact hR (0 : Int32) M4 _ _ (Option.some.inj h).symm dL_colourAt_18
theorem ct_L_colourAt {l : Launch} {z : GZ} (htr : l.stackTraces = false) {i1 : Int32} {i2 : Int32} {M : GM} {F : Nat} {v : Int32} {M1 : GM} (h : f_L_colourAt F i1 i2 M = some (v, M1)) : gMetW l z yL_colourAt cL_colourAt 5 [(0, 10, 13, 21)] [.ref (gad z 0), .int i1, .int i2, .ref (gad z 162)] M v M1 := gMetW_of (by decide +kernel) (Nat.le_of_ble_eq_true rfl) htr (fun x X XU ez el htab hnc hR => by subst ez; subst el; exact w_L_colourAt X XU ⟨XU.2.2.2.2.2.2.2.2.2.1, XU.2.2.2.2.2.2.2.2.2.2.1⟩ htab hnc (fun v9 M9 lv9 pc9 e9 d9 => by cases e9; exact hR lv9 pc9 d9) h)
theorem gc_L_88 {x : GX} {cc : ByteArray} {nL d pc : Nat} {M : GM} {lv : List (Nat × Value)} {st : List Value} (X : GC x cc nL RL d) {i0 : Int32} {i1 : Int32} {M1 : GM} {r : Int32} (ht : gT 0 = 10) (hM : gMet (xl x) (xz x) yX10_depthAt cX10_depthAt 3 (some .int) 7 [.ref (gad (xz x) 0), .int i0, .int i1] M (some (.int r)) M1) (hd : 8 ≤ d) (hsum : (st.map fun v => v.category).sum ≤ 8) (dec : decode cc pc = .ok (.invokevirtual 88, 3)) (go : WG x M1 lv (pc + 3) (.int r :: st)) : WG x M lv pc (.int i1 :: .int i0 :: .ref (gad (xz x) 0) :: st) := g_callV X (n := 2) (As := [.int i0, .int i1]) (rest := st) hM ht (by decide) (gE_10 ht) rfl q_1016 q_799 q_800 q_52 q_801 (by decide +kernel) rfl hd (by decide) rfl hsum dec go
theorem gt_L_88 {x : GX} {cc : ByteArray} {nL d pc : Nat} {M : GM} {lv : List (Nat × Value)} {st : List Value} (X : GC x cc nL RL d) {i0 : Int32} {i1 : Int32} {M1 : GM} {n9 : Nat} (ht : gT 0 = 10) (hM : gMetX (xl x) (xz x) yX10_depthAt cX10_depthAt 3 (some .int) 7 [.ref (gad (xz x) 0), .int i0, .int i1] M n9 M1) (hd : 8 ≤ d) (hsum : (st.map fun v => v.category).sum ≤ 8) (dec : decode cc pc = .ok (.invokevirtual 88, 3)) {hh : List (Nat × Nat × Nat × Nat)} (hroom : xcells x + 1 ≤ (xR x).cells ∧ xslots x + 6 ≤ (xR x).slots) (htab : (xc x).exceptionTable.toList = tableOf hh) (pre : List ExceptionTableEntry) (en : ExceptionTableEntry) (suf : List ExceptionTableEntry) (hsplit : tableOf hh = pre ++ en :: suf) (hpass : ∀ q ∈ pre, covers q pc = false ∨ (q.catchType ≠ 0 ∧ ∃ nm : String, Cond.classLink RL q.catchType nm ∈ GW ∧ va_Nc (gEx n9) nm (xs x))) (hcov : covers en pc = true) (h0 : en.catchType ≠ 0) (hlink : Cond.classLink RL en.catchType (gEx n9) ∈ GW) (hcast : Cond.castable (gEx n9) (gEx n9) ∈ gFaceL) (go : ∀ q : Nat, WG (xup x) M1 lv en.handlerPc [.ref q]) : WG x M lv pc (.int i1 :: .int i0 :: .ref (gad (xz x) 0) :: st) := g_tryV X (n := 2) (As := [.int i0, .int i1]) (rest := st) hM ht (by decide) (gE_10 ht) rfl q_1016 q_799 q_800 q_52 q_801 (by decide +kernel) rfl hd (by decide) rfl hsum dec hroom htab pre en suf hsplit hpass hcov h0 hlink hcast go
theorem dL_depthAt_0 : decode cL_depthAt 0 = .ok (.aload_n 3, 1) := by decide +kernel
theorem dL_depthAt_1 : decode cL_depthAt 1 = .ok (.iconst 0, 1) := by decide +kernel
theorem dL_depthAt_2 : decode cL_depthAt 2 = .ok (.aload_n 0, 1) := by decide +kernel
theorem dL_depthAt_3 : decode cL_depthAt 3 = .ok (.iload_n 1, 1) := by decide +kernel
theorem dL_depthAt_4 : decode cL_depthAt 4 = .ok (.iload_n 2, 1) := by decide +kernel
theorem dL_depthAt_5 : decode cL_depthAt 5 = .ok (.invokevirtual 88, 3) := by decide +kernel
theorem dL_depthAt_8 : decode cL_depthAt 8 = .ok (.i2l, 1) := by decide +kernel
theorem dL_depthAt_9 : decode cL_depthAt 9 = .ok (.lastore, 1) := by decide +kernel
theorem dL_depthAt_10 : decode cL_depthAt 10 = .ok (.goto 7, 3) := by decide +kernel
theorem dL_depthAt_13 : decode cL_depthAt 13 = .ok (.astore 4, 2) := by decide +kernel
theorem dL_depthAt_15 : decode cL_depthAt 15 = .ok (.iconst 1, 1) := by decide +kernel
theorem dL_depthAt_16 : decode cL_depthAt 16 = .ok (.ireturn, 1) := by decide +kernel
theorem dL_depthAt_17 : decode cL_depthAt 17 = .ok (.iconst 0, 1) := by decide +kernel
theorem dL_depthAt_18 : decode cL_depthAt 18 = .ok (.ireturn, 1) := by decide +kernel
def f_L_depthAt (F : Nat) (i1 : Int32) (i2 : Int32) (M : GM) : Option (Int32 × GM) := bndT (f_X10_depthAt F i1 i2 M) (fun n3 => if n3 = 3 then (some ((1 : Int32), M)) else (none)) (fun v2 => bnd (sL M 162 0 v2.toInt64) (fun M4 => some ((0 : Int32), M4)))
set_option maxHeartbeats 4000000 in
set_option maxRecDepth 100000 in
theorem w_L_depthAt {x : GX} (X : GC x cL_depthAt 5 RL 8) (XU : GC (xup x) cL_depthAt 5 RL 8) (hroom : xcells x + 1 ≤ (xR x).cells ∧ xslots x + 6 ≤ (xR x).slots) (htab : (xc x).exceptionTable.toList = tableOf [(0, 10, 13, 21)]) (hnc : gNcs (xs x)) {i1 : Int32} {i2 : Int32} {F : Nat} {M : GM} {r9 : (Int32 × GM)} (hR : ∀ (v9 : Int32) (M9 : GM) (lv9 : List (Nat × Value)) (pc9 : Nat), r9 = (v9, M9) → decode cL_depthAt pc9 = .ok (.ireturn, 1) → WG (xup x) M9 lv9 pc9 [.int v9]) (h : f_L_depthAt F i1 i2 M = some r9) : WG x M [(0, .ref (gad (xz x) 0)), (1, .int i1), (2, .int i2), (3, .ref (gad (xz x) 162))] 0 [] := by
  unfold f_L_depthAt at h
  refine g_aload_n X (j := 3) dL_depthAt_0 rfl rfl ?_
  refine g_iconst X (v := 0) dL_depthAt_1 (by decide) ?_
  refine g_aload_n X (j := 0) dL_depthAt_2 rfl rfl ?_
  refine g_iload_n X (j := 1) dL_depthAt_3 rfl rfl ?_
  refine g_iload_n X (j := 2) dL_depthAt_4 rfl rfl ?_
  rcases bndT_e h with ⟨n3, hc1, h⟩ | ⟨v2, hc1, h⟩
  · by_cases hb0 : n3 = 3
    · have h := ite_t hb0 h
      subst hb0
      refine gt_L_88 X gT_c0 (cx_X10_depthAt X.htr  hc1) (by decide) (Nat.le_of_ble_eq_true rfl) dL_depthAt_5 hroom htab [] { startPc := 0, endPc := 10, handlerPc := 13, catchType := 21 } [] rfl (fun z hz => absurd hz List.not_mem_nil) (by decide +kernel) (by decide) q_863 (List.mem_of_getElem? (i := 2) rfl) (fun q9 => ?_)
      refine g_astore XU (lv' := (4, .ref q9) :: [(0, .ref (gad (xz x) 0)), (1, .int i1), (2, .int i2), (3, .ref (gad (xz x) 162))]) dL_depthAt_13 (by decide) rfl ?_
      refine g_iconst XU (v := 1) dL_depthAt_15 (by decide) ?_
      exact (hR (1 : Int32) M _ _ (Option.some.inj h).symm dL_depthAt_16)
    · have h := ite_f hb0 h
      cases h
  refine gc_L_88 X gT_c0 (ct_X10_depthAt X.htr  hc1) (by decide) (Nat.le_of_ble_eq_true rfl) dL_depthAt_5 ?_
  refine g_i2l X dL_depthAt_8 ?_
  refine g_last X gT_c162 (by decide +kernel) dL_depthAt_9 ?_
  rw [tn_0]
  refine g_mem (fun M4 e5 => ?_)
  have h := bnd_e e5 h
  refine g_goto X (tgt := 17) dL_depthAt_10 (by decide) ?_
  refine g_iconst X (v := 0) dL_depthAt_17 (by decide) ?_
  refine g_up ?_
  exact hR (0 : Int32) M4 _ _ (Option.some.inj h).symm dL_depthAt_18
theorem ct_L_depthAt {l : Launch} {z : GZ} (htr : l.stackTraces = false) {i1 : Int32} {i2 : Int32} {M : GM} {F : Nat} {v : Int32} {M1 : GM} (h : f_L_depthAt F i1 i2 M = some (v, M1)) : gMetW l z yL_depthAt cL_depthAt 5 [(0, 10, 13, 21)] [.ref (gad z 0), .int i1, .int i2, .ref (gad z 162)] M v M1 := gMetW_of (by decide +kernel) (Nat.le_of_ble_eq_true rfl) htr (fun x X XU ez el htab hnc hR => by subst ez; subst el; exact w_L_depthAt X XU ⟨XU.2.2.2.2.2.2.2.2.2.1, XU.2.2.2.2.2.2.2.2.2.2.1⟩ htab hnc (fun v9 M9 lv9 pc9 e9 d9 => by cases e9; exact hR lv9 pc9 d9) h)
theorem gc_L_91 {x : GX} {cc : ByteArray} {nL d pc : Nat} {M : GM} {lv : List (Nat × Value)} {st : List Value} (X : GC x cc nL RL d) {i0 : Int32} {i1 : Int32} {M1 : GM} {r : Int32} (ht : gT 0 = 10) (hM : gMet (xl x) (xz x) yX10_paneAt cX10_paneAt 3 (some .int) 7 [.ref (gad (xz x) 0), .int i0, .int i1] M (some (.int r)) M1) (hd : 8 ≤ d) (hsum : (st.map fun v => v.category).sum ≤ 8) (dec : decode cc pc = .ok (.invokevirtual 91, 3)) (go : WG x M1 lv (pc + 3) (.int r :: st)) : WG x M lv pc (.int i1 :: .int i0 :: .ref (gad (xz x) 0) :: st) := g_callV X (n := 2) (As := [.int i0, .int i1]) (rest := st) hM ht (by decide) (gE_10 ht) rfl q_1020 q_803 q_804 q_52 q_805 (by decide +kernel) rfl hd (by decide) rfl hsum dec go
theorem gt_L_91 {x : GX} {cc : ByteArray} {nL d pc : Nat} {M : GM} {lv : List (Nat × Value)} {st : List Value} (X : GC x cc nL RL d) {i0 : Int32} {i1 : Int32} {M1 : GM} {n9 : Nat} (ht : gT 0 = 10) (hM : gMetX (xl x) (xz x) yX10_paneAt cX10_paneAt 3 (some .int) 7 [.ref (gad (xz x) 0), .int i0, .int i1] M n9 M1) (hd : 8 ≤ d) (hsum : (st.map fun v => v.category).sum ≤ 8) (dec : decode cc pc = .ok (.invokevirtual 91, 3)) {hh : List (Nat × Nat × Nat × Nat)} (hroom : xcells x + 1 ≤ (xR x).cells ∧ xslots x + 6 ≤ (xR x).slots) (htab : (xc x).exceptionTable.toList = tableOf hh) (pre : List ExceptionTableEntry) (en : ExceptionTableEntry) (suf : List ExceptionTableEntry) (hsplit : tableOf hh = pre ++ en :: suf) (hpass : ∀ q ∈ pre, covers q pc = false ∨ (q.catchType ≠ 0 ∧ ∃ nm : String, Cond.classLink RL q.catchType nm ∈ GW ∧ va_Nc (gEx n9) nm (xs x))) (hcov : covers en pc = true) (h0 : en.catchType ≠ 0) (hlink : Cond.classLink RL en.catchType (gEx n9) ∈ GW) (hcast : Cond.castable (gEx n9) (gEx n9) ∈ gFaceL) (go : ∀ q : Nat, WG (xup x) M1 lv en.handlerPc [.ref q]) : WG x M lv pc (.int i1 :: .int i0 :: .ref (gad (xz x) 0) :: st) := g_tryV X (n := 2) (As := [.int i0, .int i1]) (rest := st) hM ht (by decide) (gE_10 ht) rfl q_1020 q_803 q_804 q_52 q_805 (by decide +kernel) rfl hd (by decide) rfl hsum dec hroom htab pre en suf hsplit hpass hcov h0 hlink hcast go
theorem dL_paneAt_0 : decode cL_paneAt 0 = .ok (.aload_n 3, 1) := by decide +kernel
theorem dL_paneAt_1 : decode cL_paneAt 1 = .ok (.iconst 0, 1) := by decide +kernel
theorem dL_paneAt_2 : decode cL_paneAt 2 = .ok (.aload_n 0, 1) := by decide +kernel
theorem dL_paneAt_3 : decode cL_paneAt 3 = .ok (.iload_n 1, 1) := by decide +kernel
theorem dL_paneAt_4 : decode cL_paneAt 4 = .ok (.iload_n 2, 1) := by decide +kernel
theorem dL_paneAt_5 : decode cL_paneAt 5 = .ok (.invokevirtual 91, 3) := by decide +kernel
theorem dL_paneAt_8 : decode cL_paneAt 8 = .ok (.i2l, 1) := by decide +kernel
theorem dL_paneAt_9 : decode cL_paneAt 9 = .ok (.lastore, 1) := by decide +kernel
theorem dL_paneAt_10 : decode cL_paneAt 10 = .ok (.goto 7, 3) := by decide +kernel
theorem dL_paneAt_13 : decode cL_paneAt 13 = .ok (.astore 4, 2) := by decide +kernel
theorem dL_paneAt_15 : decode cL_paneAt 15 = .ok (.iconst 1, 1) := by decide +kernel
theorem dL_paneAt_16 : decode cL_paneAt 16 = .ok (.ireturn, 1) := by decide +kernel
theorem dL_paneAt_17 : decode cL_paneAt 17 = .ok (.iconst 0, 1) := by decide +kernel
theorem dL_paneAt_18 : decode cL_paneAt 18 = .ok (.ireturn, 1) := by decide +kernel
def f_L_paneAt (F : Nat) (i1 : Int32) (i2 : Int32) (M : GM) : Option (Int32 × GM) := bndT (f_X10_paneAt F i1 i2 M) (fun n3 => if n3 = 3 then (some ((1 : Int32), M)) else (none)) (fun v2 => bnd (sL M 162 0 v2.toInt64) (fun M4 => some ((0 : Int32), M4)))
set_option maxHeartbeats 4000000 in
set_option maxRecDepth 100000 in
theorem w_L_paneAt {x : GX} (X : GC x cL_paneAt 5 RL 8) (XU : GC (xup x) cL_paneAt 5 RL 8) (hroom : xcells x + 1 ≤ (xR x).cells ∧ xslots x + 6 ≤ (xR x).slots) (htab : (xc x).exceptionTable.toList = tableOf [(0, 10, 13, 21)]) (hnc : gNcs (xs x)) {i1 : Int32} {i2 : Int32} {F : Nat} {M : GM} {r9 : (Int32 × GM)} (hR : ∀ (v9 : Int32) (M9 : GM) (lv9 : List (Nat × Value)) (pc9 : Nat), r9 = (v9, M9) → decode cL_paneAt pc9 = .ok (.ireturn, 1) → WG (xup x) M9 lv9 pc9 [.int v9]) (h : f_L_paneAt F i1 i2 M = some r9) : WG x M [(0, .ref (gad (xz x) 0)), (1, .int i1), (2, .int i2), (3, .ref (gad (xz x) 162))] 0 [] := by
  unfold f_L_paneAt at h
  refine g_aload_n X (j := 3) dL_paneAt_0 rfl rfl ?_
  refine g_iconst X (v := 0) dL_paneAt_1 (by decide) ?_
  refine g_aload_n X (j := 0) dL_paneAt_2 rfl rfl ?_
  refine g_iload_n X (j := 1) dL_paneAt_3 rfl rfl ?_
  refine g_iload_n X (j := 2) dL_paneAt_4 rfl rfl ?_
  rcases bndT_e h with ⟨n3, hc1, h⟩ | ⟨v2, hc1, h⟩
  · by_cases hb0 : n3 = 3
    · have h := ite_t hb0 h
      subst hb0
      refine gt_L_91 X gT_c0 (cx_X10_paneAt X.htr  hc1) (by decide) (Nat.le_of_ble_eq_true rfl) dL_paneAt_5 hroom htab [] { startPc := 0, endPc := 10, handlerPc := 13, catchType := 21 } [] rfl (fun z hz => absurd hz List.not_mem_nil) (by decide +kernel) (by decide) q_863 (List.mem_of_getElem? (i := 2) rfl) (fun q9 => ?_)
      refine g_astore XU (lv' := (4, .ref q9) :: [(0, .ref (gad (xz x) 0)), (1, .int i1), (2, .int i2), (3, .ref (gad (xz x) 162))]) dL_paneAt_13 (by decide) rfl ?_
      refine g_iconst XU (v := 1) dL_paneAt_15 (by decide) ?_
      exact (hR (1 : Int32) M _ _ (Option.some.inj h).symm dL_paneAt_16)
    · have h := ite_f hb0 h
      cases h
  refine gc_L_91 X gT_c0 (ct_X10_paneAt X.htr  hc1) (by decide) (Nat.le_of_ble_eq_true rfl) dL_paneAt_5 ?_
  refine g_i2l X dL_paneAt_8 ?_
  refine g_last X gT_c162 (by decide +kernel) dL_paneAt_9 ?_
  rw [tn_0]
  refine g_mem (fun M4 e5 => ?_)
  have h := bnd_e e5 h
  refine g_goto X (tgt := 17) dL_paneAt_10 (by decide) ?_
  refine g_iconst X (v := 0) dL_paneAt_17 (by decide) ?_
  refine g_up ?_
  exact hR (0 : Int32) M4 _ _ (Option.some.inj h).symm dL_paneAt_18
theorem ct_L_paneAt {l : Launch} {z : GZ} (htr : l.stackTraces = false) {i1 : Int32} {i2 : Int32} {M : GM} {F : Nat} {v : Int32} {M1 : GM} (h : f_L_paneAt F i1 i2 M = some (v, M1)) : gMetW l z yL_paneAt cL_paneAt 5 [(0, 10, 13, 21)] [.ref (gad z 0), .int i1, .int i2, .ref (gad z 162)] M v M1 := gMetW_of (by decide +kernel) (Nat.le_of_ble_eq_true rfl) htr (fun x X XU ez el htab hnc hR => by subst ez; subst el; exact w_L_paneAt X XU ⟨XU.2.2.2.2.2.2.2.2.2.1, XU.2.2.2.2.2.2.2.2.2.2.1⟩ htab hnc (fun v9 M9 lv9 pc9 e9 d9 => by cases e9; exact hR lv9 pc9 d9) h)
theorem gc_L_94 {x : GX} {cc : ByteArray} {nL d pc : Nat} {M : GM} {lv : List (Nat × Value)} {st : List Value} (X : GC x cc nL RL d) {i0 : Int32} {M1 : GM} {r : Int32} (ht : gT 0 = 10) (hM : gMet (xl x) (xz x) yX10_pointsWith cX10_pointsWith 7 (some .int) 7 [.ref (gad (xz x) 0), .int i0] M (some (.int r)) M1) (hd : 8 ≤ d) (hsum : (st.map fun v => v.category).sum ≤ 8) (dec : decode cc pc = .ok (.invokevirtual 94, 3)) (go : WG x M1 lv (pc + 3) (.int r :: st)) : WG x M lv pc (.int i0 :: .ref (gad (xz x) 0) :: st) := g_callV X (n := 1) (As := [.int i0]) (rest := st) hM ht (by decide) (gE_10 ht) rfl q_1024 q_772 q_773 q_52 q_774 (by decide +kernel) rfl hd (by decide) rfl hsum dec go
theorem gt_L_94 {x : GX} {cc : ByteArray} {nL d pc : Nat} {M : GM} {lv : List (Nat × Value)} {st : List Value} (X : GC x cc nL RL d) {i0 : Int32} {M1 : GM} {n9 : Nat} (ht : gT 0 = 10) (hM : gMetX (xl x) (xz x) yX10_pointsWith cX10_pointsWith 7 (some .int) 7 [.ref (gad (xz x) 0), .int i0] M n9 M1) (hd : 8 ≤ d) (hsum : (st.map fun v => v.category).sum ≤ 8) (dec : decode cc pc = .ok (.invokevirtual 94, 3)) {hh : List (Nat × Nat × Nat × Nat)} (hroom : xcells x + 1 ≤ (xR x).cells ∧ xslots x + 6 ≤ (xR x).slots) (htab : (xc x).exceptionTable.toList = tableOf hh) (pre : List ExceptionTableEntry) (en : ExceptionTableEntry) (suf : List ExceptionTableEntry) (hsplit : tableOf hh = pre ++ en :: suf) (hpass : ∀ q ∈ pre, covers q pc = false ∨ (q.catchType ≠ 0 ∧ ∃ nm : String, Cond.classLink RL q.catchType nm ∈ GW ∧ va_Nc (gEx n9) nm (xs x))) (hcov : covers en pc = true) (h0 : en.catchType ≠ 0) (hlink : Cond.classLink RL en.catchType (gEx n9) ∈ GW) (hcast : Cond.castable (gEx n9) (gEx n9) ∈ gFaceL) (go : ∀ q : Nat, WG (xup x) M1 lv en.handlerPc [.ref q]) : WG x M lv pc (.int i0 :: .ref (gad (xz x) 0) :: st) := g_tryV X (n := 1) (As := [.int i0]) (rest := st) hM ht (by decide) (gE_10 ht) rfl q_1024 q_772 q_773 q_52 q_774 (by decide +kernel) rfl hd (by decide) rfl hsum dec hroom htab pre en suf hsplit hpass hcov h0 hlink hcast go
theorem dL_pointsWith_0 : decode cL_pointsWith 0 = .ok (.aload_n 2, 1) := by decide +kernel
theorem dL_pointsWith_1 : decode cL_pointsWith 1 = .ok (.iconst 0, 1) := by decide +kernel
theorem dL_pointsWith_2 : decode cL_pointsWith 2 = .ok (.aload_n 0, 1) := by decide +kernel
theorem dL_pointsWith_3 : decode cL_pointsWith 3 = .ok (.iload_n 1, 1) := by decide +kernel
theorem dL_pointsWith_4 : decode cL_pointsWith 4 = .ok (.invokevirtual 94, 3) := by decide +kernel
theorem dL_pointsWith_7 : decode cL_pointsWith 7 = .ok (.i2l, 1) := by decide +kernel
theorem dL_pointsWith_8 : decode cL_pointsWith 8 = .ok (.lastore, 1) := by decide +kernel
theorem dL_pointsWith_9 : decode cL_pointsWith 9 = .ok (.goto 6, 3) := by decide +kernel
theorem dL_pointsWith_12 : decode cL_pointsWith 12 = .ok (.astore_n 3, 1) := by decide +kernel
theorem dL_pointsWith_13 : decode cL_pointsWith 13 = .ok (.iconst 1, 1) := by decide +kernel
theorem dL_pointsWith_14 : decode cL_pointsWith 14 = .ok (.ireturn, 1) := by decide +kernel
theorem dL_pointsWith_15 : decode cL_pointsWith 15 = .ok (.iconst 0, 1) := by decide +kernel
theorem dL_pointsWith_16 : decode cL_pointsWith 16 = .ok (.ireturn, 1) := by decide +kernel
def f_L_pointsWith (F : Nat) (i1 : Int32) (M : GM) : Option (Int32 × GM) := bndT (f_X10_pointsWith F i1 M) (fun n3 => if n3 = 3 then (some ((1 : Int32), M)) else (none)) (fun v2 => bnd (sL M 162 0 v2.toInt64) (fun M4 => some ((0 : Int32), M4)))
set_option maxHeartbeats 4000000 in
set_option maxRecDepth 100000 in
theorem w_L_pointsWith {x : GX} (X : GC x cL_pointsWith 4 RL 8) (XU : GC (xup x) cL_pointsWith 4 RL 8) (hroom : xcells x + 1 ≤ (xR x).cells ∧ xslots x + 6 ≤ (xR x).slots) (htab : (xc x).exceptionTable.toList = tableOf [(0, 9, 12, 21)]) (hnc : gNcs (xs x)) {i1 : Int32} {F : Nat} {M : GM} {r9 : (Int32 × GM)} (hR : ∀ (v9 : Int32) (M9 : GM) (lv9 : List (Nat × Value)) (pc9 : Nat), r9 = (v9, M9) → decode cL_pointsWith pc9 = .ok (.ireturn, 1) → WG (xup x) M9 lv9 pc9 [.int v9]) (h : f_L_pointsWith F i1 M = some r9) : WG x M [(0, .ref (gad (xz x) 0)), (1, .int i1), (2, .ref (gad (xz x) 162))] 0 [] := by
  unfold f_L_pointsWith at h
  refine g_aload_n X (j := 2) dL_pointsWith_0 rfl rfl ?_
  refine g_iconst X (v := 0) dL_pointsWith_1 (by decide) ?_
  refine g_aload_n X (j := 0) dL_pointsWith_2 rfl rfl ?_
  refine g_iload_n X (j := 1) dL_pointsWith_3 rfl rfl ?_
  rcases bndT_e h with ⟨n3, hc1, h⟩ | ⟨v2, hc1, h⟩
  · by_cases hb0 : n3 = 3
    · have h := ite_t hb0 h
      subst hb0
      refine gt_L_94 X gT_c0 (cx_X10_pointsWith X.htr  hc1) (by decide) (Nat.le_of_ble_eq_true rfl) dL_pointsWith_4 hroom htab [] { startPc := 0, endPc := 9, handlerPc := 12, catchType := 21 } [] rfl (fun z hz => absurd hz List.not_mem_nil) (by decide +kernel) (by decide) q_863 (List.mem_of_getElem? (i := 2) rfl) (fun q9 => ?_)
      refine g_astore_n XU (lv' := (3, .ref q9) :: [(0, .ref (gad (xz x) 0)), (1, .int i1), (2, .ref (gad (xz x) 162))]) dL_pointsWith_12 rfl (by decide) rfl ?_
      refine g_iconst XU (v := 1) dL_pointsWith_13 (by decide) ?_
      exact (hR (1 : Int32) M _ _ (Option.some.inj h).symm dL_pointsWith_14)
    · have h := ite_f hb0 h
      cases h
  refine gc_L_94 X gT_c0 (ct_X10_pointsWith X.htr  hc1) (by decide) (Nat.le_of_ble_eq_true rfl) dL_pointsWith_4 ?_
  refine g_i2l X dL_pointsWith_7 ?_
  refine g_last X gT_c162 (by decide +kernel) dL_pointsWith_8 ?_
  rw [tn_0]
  refine g_mem (fun M4 e5 => ?_)
  have h := bnd_e e5 h
  refine g_goto X (tgt := 15) dL_pointsWith_9 (by decide) ?_
  refine g_iconst X (v := 0) dL_pointsWith_15 (by decide) ?_
  refine g_up ?_
  exact hR (0 : Int32) M4 _ _ (Option.some.inj h).symm dL_pointsWith_16
theorem ct_L_pointsWith {l : Launch} {z : GZ} (htr : l.stackTraces = false) {i1 : Int32} {M : GM} {F : Nat} {v : Int32} {M1 : GM} (h : f_L_pointsWith F i1 M = some (v, M1)) : gMetW l z yL_pointsWith cL_pointsWith 4 [(0, 9, 12, 21)] [.ref (gad z 0), .int i1, .ref (gad z 162)] M v M1 := gMetW_of (by decide +kernel) (Nat.le_of_ble_eq_true rfl) htr (fun x X XU ez el htab hnc hR => by subst ez; subst el; exact w_L_pointsWith X XU ⟨XU.2.2.2.2.2.2.2.2.2.1, XU.2.2.2.2.2.2.2.2.2.2.1⟩ htab hnc (fun v9 M9 lv9 pc9 e9 d9 => by cases e9; exact hR lv9 pc9 d9) h)
theorem gc_L_97 {x : GX} {cc : ByteArray} {nL d pc : Nat} {M : GM} {lv : List (Nat × Value)} {st : List Value} (X : GC x cc nL RL d) {i0 : Int32} {i1 : Int32} {M1 : GM} {r : Int32} (ht : gT 0 = 10) (hM : gMet (xl x) (xz x) yX10_colourNow cX10_colourNow 3 (some .int) 7 [.ref (gad (xz x) 0), .int i0, .int i1] M (some (.int r)) M1) (hd : 8 ≤ d) (hsum : (st.map fun v => v.category).sum ≤ 8) (dec : decode cc pc = .ok (.invokevirtual 97, 3)) (go : WG x M1 lv (pc + 3) (.int r :: st)) : WG x M lv pc (.int i1 :: .int i0 :: .ref (gad (xz x) 0) :: st) := g_callV X (n := 2) (As := [.int i0, .int i1]) (rest := st) hM ht (by decide) (gE_10 ht) rfl q_1028 q_1029 q_1030 q_52 q_1031 (by decide +kernel) rfl hd (by decide) rfl hsum dec go
theorem gt_L_97 {x : GX} {cc : ByteArray} {nL d pc : Nat} {M : GM} {lv : List (Nat × Value)} {st : List Value} (X : GC x cc nL RL d) {i0 : Int32} {i1 : Int32} {M1 : GM} {n9 : Nat} (ht : gT 0 = 10) (hM : gMetX (xl x) (xz x) yX10_colourNow cX10_colourNow 3 (some .int) 7 [.ref (gad (xz x) 0), .int i0, .int i1] M n9 M1) (hd : 8 ≤ d) (hsum : (st.map fun v => v.category).sum ≤ 8) (dec : decode cc pc = .ok (.invokevirtual 97, 3)) {hh : List (Nat × Nat × Nat × Nat)} (hroom : xcells x + 1 ≤ (xR x).cells ∧ xslots x + 6 ≤ (xR x).slots) (htab : (xc x).exceptionTable.toList = tableOf hh) (pre : List ExceptionTableEntry) (en : ExceptionTableEntry) (suf : List ExceptionTableEntry) (hsplit : tableOf hh = pre ++ en :: suf) (hpass : ∀ q ∈ pre, covers q pc = false ∨ (q.catchType ≠ 0 ∧ ∃ nm : String, Cond.classLink RL q.catchType nm ∈ GW ∧ va_Nc (gEx n9) nm (xs x))) (hcov : covers en pc = true) (h0 : en.catchType ≠ 0) (hlink : Cond.classLink RL en.catchType (gEx n9) ∈ GW) (hcast : Cond.castable (gEx n9) (gEx n9) ∈ gFaceL) (go : ∀ q : Nat, WG (xup x) M1 lv en.handlerPc [.ref q]) : WG x M lv pc (.int i1 :: .int i0 :: .ref (gad (xz x) 0) :: st) := g_tryV X (n := 2) (As := [.int i0, .int i1]) (rest := st) hM ht (by decide) (gE_10 ht) rfl q_1028 q_1029 q_1030 q_52 q_1031 (by decide +kernel) rfl hd (by decide) rfl hsum dec hroom htab pre en suf hsplit hpass hcov h0 hlink hcast go
theorem dL_colourNow_0 : decode cL_colourNow 0 = .ok (.aload_n 3, 1) := by decide +kernel
theorem dL_colourNow_1 : decode cL_colourNow 1 = .ok (.iconst 0, 1) := by decide +kernel
theorem dL_colourNow_2 : decode cL_colourNow 2 = .ok (.aload_n 0, 1) := by decide +kernel
theorem dL_colourNow_3 : decode cL_colourNow 3 = .ok (.iload_n 1, 1) := by decide +kernel
theorem dL_colourNow_4 : decode cL_colourNow 4 = .ok (.iload_n 2, 1) := by decide +kernel
theorem dL_colourNow_5 : decode cL_colourNow 5 = .ok (.invokevirtual 97, 3) := by decide +kernel
theorem dL_colourNow_8 : decode cL_colourNow 8 = .ok (.i2l, 1) := by decide +kernel
theorem dL_colourNow_9 : decode cL_colourNow 9 = .ok (.lastore, 1) := by decide +kernel
theorem dL_colourNow_10 : decode cL_colourNow 10 = .ok (.goto 7, 3) := by decide +kernel
theorem dL_colourNow_13 : decode cL_colourNow 13 = .ok (.astore 4, 2) := by decide +kernel
theorem dL_colourNow_15 : decode cL_colourNow 15 = .ok (.iconst 1, 1) := by decide +kernel
theorem dL_colourNow_16 : decode cL_colourNow 16 = .ok (.ireturn, 1) := by decide +kernel
theorem dL_colourNow_17 : decode cL_colourNow 17 = .ok (.iconst 0, 1) := by decide +kernel
theorem dL_colourNow_18 : decode cL_colourNow 18 = .ok (.ireturn, 1) := by decide +kernel
def f_L_colourNow (F : Nat) (i1 : Int32) (i2 : Int32) (M : GM) : Option (Int32 × GM) := bndT (f_X10_colourNow F i1 i2 M) (fun (n4, M5) => if n4 = 3 then (some ((1 : Int32), M5)) else (none)) (fun (v2, M3) => bnd (sL M3 162 0 v2.toInt64) (fun M6 => some ((0 : Int32), M6)))
set_option maxHeartbeats 4000000 in
set_option maxRecDepth 100000 in
theorem w_L_colourNow {x : GX} (X : GC x cL_colourNow 5 RL 8) (XU : GC (xup x) cL_colourNow 5 RL 8) (hroom : xcells x + 1 ≤ (xR x).cells ∧ xslots x + 6 ≤ (xR x).slots) (htab : (xc x).exceptionTable.toList = tableOf [(0, 10, 13, 21)]) (hnc : gNcs (xs x)) {i1 : Int32} {i2 : Int32} {F : Nat} {M : GM} {r9 : (Int32 × GM)} (hR : ∀ (v9 : Int32) (M9 : GM) (lv9 : List (Nat × Value)) (pc9 : Nat), r9 = (v9, M9) → decode cL_colourNow pc9 = .ok (.ireturn, 1) → WG (xup x) M9 lv9 pc9 [.int v9]) (h : f_L_colourNow F i1 i2 M = some r9) : WG x M [(0, .ref (gad (xz x) 0)), (1, .int i1), (2, .int i2), (3, .ref (gad (xz x) 162))] 0 [] := by
  unfold f_L_colourNow at h
  refine g_aload_n X (j := 3) dL_colourNow_0 rfl rfl ?_
  refine g_iconst X (v := 0) dL_colourNow_1 (by decide) ?_
  refine g_aload_n X (j := 0) dL_colourNow_2 rfl rfl ?_
  refine g_iload_n X (j := 1) dL_colourNow_3 rfl rfl ?_
  refine g_iload_n X (j := 2) dL_colourNow_4 rfl rfl ?_
  rcases bndT_e h with ⟨⟨n4, M5⟩, hc1, h⟩ | ⟨⟨v2, M3⟩, hc1, h⟩
  · by_cases hb0 : n4 = 3
    · have h := ite_t hb0 h
      subst hb0
      refine gt_L_97 X gT_c0 (cx_X10_colourNow X.htr  hc1) (by decide) (Nat.le_of_ble_eq_true rfl) dL_colourNow_5 hroom htab [] { startPc := 0, endPc := 10, handlerPc := 13, catchType := 21 } [] rfl (fun z hz => absurd hz List.not_mem_nil) (by decide +kernel) (by decide) q_863 (List.mem_of_getElem? (i := 2) rfl) (fun q9 => ?_)
      refine g_astore XU (lv' := (4, .ref q9) :: [(0, .ref (gad (xz x) 0)), (1, .int i1), (2, .int i2), (3, .ref (gad (xz x) 162))]) dL_colourNow_13 (by decide) rfl ?_
      refine g_iconst XU (v := 1) dL_colourNow_15 (by decide) ?_
      exact (hR (1 : Int32) M5 _ _ (Option.some.inj h).symm dL_colourNow_16)
    · have h := ite_f hb0 h
      cases h
  refine gc_L_97 X gT_c0 (ct_X10_colourNow X.htr  hc1) (by decide) (Nat.le_of_ble_eq_true rfl) dL_colourNow_5 ?_
  refine g_i2l X dL_colourNow_8 ?_
  refine g_last X gT_c162 (by decide +kernel) dL_colourNow_9 ?_
  rw [tn_0]
  refine g_mem (fun M6 e7 => ?_)
  have h := bnd_e e7 h
  refine g_goto X (tgt := 17) dL_colourNow_10 (by decide) ?_
  refine g_iconst X (v := 0) dL_colourNow_17 (by decide) ?_
  refine g_up ?_
  exact hR (0 : Int32) M6 _ _ (Option.some.inj h).symm dL_colourNow_18
theorem ct_L_colourNow {l : Launch} {z : GZ} (htr : l.stackTraces = false) {i1 : Int32} {i2 : Int32} {M : GM} {F : Nat} {v : Int32} {M1 : GM} (h : f_L_colourNow F i1 i2 M = some (v, M1)) : gMetW l z yL_colourNow cL_colourNow 5 [(0, 10, 13, 21)] [.ref (gad z 0), .int i1, .int i2, .ref (gad z 162)] M v M1 := gMetW_of (by decide +kernel) (Nat.le_of_ble_eq_true rfl) htr (fun x X XU ez el htab hnc hR => by subst ez; subst el; exact w_L_colourNow X XU ⟨XU.2.2.2.2.2.2.2.2.2.1, XU.2.2.2.2.2.2.2.2.2.2.1⟩ htab hnc (fun v9 M9 lv9 pc9 e9 d9 => by cases e9; exact hR lv9 pc9 d9) h)
theorem gc_L_100 {x : GX} {cc : ByteArray} {nL d pc : Nat} {M : GM} {lv : List (Nat × Value)} {st : List Value} (X : GC x cc nL RL d) {i0 : Int32} {M1 : GM} {r : Int32} (ht : gT 0 = 10) (hM : gMet (xl x) (xz x) yX10_seenOf cX10_seenOf 4 (some .int) 7 [.ref (gad (xz x) 0), .int i0] M (some (.int r)) M1) (hd : 8 ≤ d) (hsum : (st.map fun v => v.category).sum ≤ 8) (dec : decode cc pc = .ok (.invokevirtual 100, 3)) (go : WG x M1 lv (pc + 3) (.int r :: st)) : WG x M lv pc (.int i0 :: .ref (gad (xz x) 0) :: st) := g_callV X (n := 1) (As := [.int i0]) (rest := st) hM ht (by decide) (gE_10 ht) rfl q_1035 q_1036 q_1037 q_52 q_1038 (by decide +kernel) rfl hd (by decide) rfl hsum dec go
theorem gt_L_100 {x : GX} {cc : ByteArray} {nL d pc : Nat} {M : GM} {lv : List (Nat × Value)} {st : List Value} (X : GC x cc nL RL d) {i0 : Int32} {M1 : GM} {n9 : Nat} (ht : gT 0 = 10) (hM : gMetX (xl x) (xz x) yX10_seenOf cX10_seenOf 4 (some .int) 7 [.ref (gad (xz x) 0), .int i0] M n9 M1) (hd : 8 ≤ d) (hsum : (st.map fun v => v.category).sum ≤ 8) (dec : decode cc pc = .ok (.invokevirtual 100, 3)) {hh : List (Nat × Nat × Nat × Nat)} (hroom : xcells x + 1 ≤ (xR x).cells ∧ xslots x + 6 ≤ (xR x).slots) (htab : (xc x).exceptionTable.toList = tableOf hh) (pre : List ExceptionTableEntry) (en : ExceptionTableEntry) (suf : List ExceptionTableEntry) (hsplit : tableOf hh = pre ++ en :: suf) (hpass : ∀ q ∈ pre, covers q pc = false ∨ (q.catchType ≠ 0 ∧ ∃ nm : String, Cond.classLink RL q.catchType nm ∈ GW ∧ va_Nc (gEx n9) nm (xs x))) (hcov : covers en pc = true) (h0 : en.catchType ≠ 0) (hlink : Cond.classLink RL en.catchType (gEx n9) ∈ GW) (hcast : Cond.castable (gEx n9) (gEx n9) ∈ gFaceL) (go : ∀ q : Nat, WG (xup x) M1 lv en.handlerPc [.ref q]) : WG x M lv pc (.int i0 :: .ref (gad (xz x) 0) :: st) := g_tryV X (n := 1) (As := [.int i0]) (rest := st) hM ht (by decide) (gE_10 ht) rfl q_1035 q_1036 q_1037 q_52 q_1038 (by decide +kernel) rfl hd (by decide) rfl hsum dec hroom htab pre en suf hsplit hpass hcov h0 hlink hcast go
theorem dL_seenOf_0 : decode cL_seenOf 0 = .ok (.aload_n 2, 1) := by decide +kernel
theorem dL_seenOf_1 : decode cL_seenOf 1 = .ok (.iconst 0, 1) := by decide +kernel
theorem dL_seenOf_2 : decode cL_seenOf 2 = .ok (.aload_n 0, 1) := by decide +kernel
theorem dL_seenOf_3 : decode cL_seenOf 3 = .ok (.iload_n 1, 1) := by decide +kernel
theorem dL_seenOf_4 : decode cL_seenOf 4 = .ok (.invokevirtual 100, 3) := by decide +kernel
theorem dL_seenOf_7 : decode cL_seenOf 7 = .ok (.i2l, 1) := by decide +kernel
theorem dL_seenOf_8 : decode cL_seenOf 8 = .ok (.lastore, 1) := by decide +kernel
theorem dL_seenOf_9 : decode cL_seenOf 9 = .ok (.goto 6, 3) := by decide +kernel
theorem dL_seenOf_12 : decode cL_seenOf 12 = .ok (.astore_n 3, 1) := by decide +kernel
theorem dL_seenOf_13 : decode cL_seenOf 13 = .ok (.iconst 1, 1) := by decide +kernel
theorem dL_seenOf_14 : decode cL_seenOf 14 = .ok (.ireturn, 1) := by decide +kernel
theorem dL_seenOf_15 : decode cL_seenOf 15 = .ok (.iconst 0, 1) := by decide +kernel
theorem dL_seenOf_16 : decode cL_seenOf 16 = .ok (.ireturn, 1) := by decide +kernel
def f_L_seenOf (F : Nat) (i1 : Int32) (M : GM) : Option (Int32 × GM) := bndT (f_X10_seenOf F i1 M) (fun (n4, M5) => if n4 = 3 then (some ((1 : Int32), M5)) else (none)) (fun (v2, M3) => bnd (sL M3 162 0 v2.toInt64) (fun M6 => some ((0 : Int32), M6)))
set_option maxHeartbeats 4000000 in
set_option maxRecDepth 100000 in
theorem w_L_seenOf {x : GX} (X : GC x cL_seenOf 4 RL 8) (XU : GC (xup x) cL_seenOf 4 RL 8) (hroom : xcells x + 1 ≤ (xR x).cells ∧ xslots x + 6 ≤ (xR x).slots) (htab : (xc x).exceptionTable.toList = tableOf [(0, 9, 12, 21)]) (hnc : gNcs (xs x)) {i1 : Int32} {F : Nat} {M : GM} {r9 : (Int32 × GM)} (hR : ∀ (v9 : Int32) (M9 : GM) (lv9 : List (Nat × Value)) (pc9 : Nat), r9 = (v9, M9) → decode cL_seenOf pc9 = .ok (.ireturn, 1) → WG (xup x) M9 lv9 pc9 [.int v9]) (h : f_L_seenOf F i1 M = some r9) : WG x M [(0, .ref (gad (xz x) 0)), (1, .int i1), (2, .ref (gad (xz x) 162))] 0 [] := by
  unfold f_L_seenOf at h
  refine g_aload_n X (j := 2) dL_seenOf_0 rfl rfl ?_
  refine g_iconst X (v := 0) dL_seenOf_1 (by decide) ?_
  refine g_aload_n X (j := 0) dL_seenOf_2 rfl rfl ?_
  refine g_iload_n X (j := 1) dL_seenOf_3 rfl rfl ?_
  rcases bndT_e h with ⟨⟨n4, M5⟩, hc1, h⟩ | ⟨⟨v2, M3⟩, hc1, h⟩
  · by_cases hb0 : n4 = 3
    · have h := ite_t hb0 h
      subst hb0
      refine gt_L_100 X gT_c0 (cx_X10_seenOf X.htr  hc1) (by decide) (Nat.le_of_ble_eq_true rfl) dL_seenOf_4 hroom htab [] { startPc := 0, endPc := 9, handlerPc := 12, catchType := 21 } [] rfl (fun z hz => absurd hz List.not_mem_nil) (by decide +kernel) (by decide) q_863 (List.mem_of_getElem? (i := 2) rfl) (fun q9 => ?_)
      refine g_astore_n XU (lv' := (3, .ref q9) :: [(0, .ref (gad (xz x) 0)), (1, .int i1), (2, .ref (gad (xz x) 162))]) dL_seenOf_12 rfl (by decide) rfl ?_
      refine g_iconst XU (v := 1) dL_seenOf_13 (by decide) ?_
      exact (hR (1 : Int32) M5 _ _ (Option.some.inj h).symm dL_seenOf_14)
    · have h := ite_f hb0 h
      cases h
  refine gc_L_100 X gT_c0 (ct_X10_seenOf X.htr  hc1) (by decide) (Nat.le_of_ble_eq_true rfl) dL_seenOf_4 ?_
  refine g_i2l X dL_seenOf_7 ?_
  refine g_last X gT_c162 (by decide +kernel) dL_seenOf_8 ?_
  rw [tn_0]
  refine g_mem (fun M6 e7 => ?_)
  have h := bnd_e e7 h
  refine g_goto X (tgt := 15) dL_seenOf_9 (by decide) ?_
  refine g_iconst X (v := 0) dL_seenOf_15 (by decide) ?_
  refine g_up ?_
  exact hR (0 : Int32) M6 _ _ (Option.some.inj h).symm dL_seenOf_16
theorem ct_L_seenOf {l : Launch} {z : GZ} (htr : l.stackTraces = false) {i1 : Int32} {M : GM} {F : Nat} {v : Int32} {M1 : GM} (h : f_L_seenOf F i1 M = some (v, M1)) : gMetW l z yL_seenOf cL_seenOf 4 [(0, 9, 12, 21)] [.ref (gad z 0), .int i1, .ref (gad z 162)] M v M1 := gMetW_of (by decide +kernel) (Nat.le_of_ble_eq_true rfl) htr (fun x X XU ez el htab hnc hR => by subst ez; subst el; exact w_L_seenOf X XU ⟨XU.2.2.2.2.2.2.2.2.2.1, XU.2.2.2.2.2.2.2.2.2.2.1⟩ htab hnc (fun v9 M9 lv9 pc9 e9 d9 => by cases e9; exact hR lv9 pc9 d9) h)
theorem gc_L_103 {x : GX} {cc : ByteArray} {nL d pc : Nat} {M : GM} {lv : List (Nat × Value)} {st : List Value} (X : GC x cc nL RL d) {i0 : Int32} {i1 : Int32} {M1 : GM} {r : Int32} (ht : gT 0 = 10) (hM : gMet (xl x) (xz x) yX10_glassAt cX10_glassAt 5 (some .int) 7 [.ref (gad (xz x) 0), .int i0, .int i1] M (some (.int r)) M1) (hd : 8 ≤ d) (hsum : (st.map fun v => v.category).sum ≤ 8) (dec : decode cc pc = .ok (.invokevirtual 103, 3)) (go : WG x M1 lv (pc + 3) (.int r :: st)) : WG x M lv pc (.int i1 :: .int i0 :: .ref (gad (xz x) 0) :: st) := g_callV X (n := 2) (As := [.int i0, .int i1]) (rest := st) hM ht (by decide) (gE_10 ht) rfl q_1042 q_1043 q_1044 q_52 q_1045 (by decide +kernel) rfl hd (by decide) rfl hsum dec go
theorem gt_L_103 {x : GX} {cc : ByteArray} {nL d pc : Nat} {M : GM} {lv : List (Nat × Value)} {st : List Value} (X : GC x cc nL RL d) {i0 : Int32} {i1 : Int32} {M1 : GM} {n9 : Nat} (ht : gT 0 = 10) (hM : gMetX (xl x) (xz x) yX10_glassAt cX10_glassAt 5 (some .int) 7 [.ref (gad (xz x) 0), .int i0, .int i1] M n9 M1) (hd : 8 ≤ d) (hsum : (st.map fun v => v.category).sum ≤ 8) (dec : decode cc pc = .ok (.invokevirtual 103, 3)) {hh : List (Nat × Nat × Nat × Nat)} (hroom : xcells x + 1 ≤ (xR x).cells ∧ xslots x + 6 ≤ (xR x).slots) (htab : (xc x).exceptionTable.toList = tableOf hh) (pre : List ExceptionTableEntry) (en : ExceptionTableEntry) (suf : List ExceptionTableEntry) (hsplit : tableOf hh = pre ++ en :: suf) (hpass : ∀ q ∈ pre, covers q pc = false ∨ (q.catchType ≠ 0 ∧ ∃ nm : String, Cond.classLink RL q.catchType nm ∈ GW ∧ va_Nc (gEx n9) nm (xs x))) (hcov : covers en pc = true) (h0 : en.catchType ≠ 0) (hlink : Cond.classLink RL en.catchType (gEx n9) ∈ GW) (hcast : Cond.castable (gEx n9) (gEx n9) ∈ gFaceL) (go : ∀ q : Nat, WG (xup x) M1 lv en.handlerPc [.ref q]) : WG x M lv pc (.int i1 :: .int i0 :: .ref (gad (xz x) 0) :: st) := g_tryV X (n := 2) (As := [.int i0, .int i1]) (rest := st) hM ht (by decide) (gE_10 ht) rfl q_1042 q_1043 q_1044 q_52 q_1045 (by decide +kernel) rfl hd (by decide) rfl hsum dec hroom htab pre en suf hsplit hpass hcov h0 hlink hcast go
theorem dL_glassAt_0 : decode cL_glassAt 0 = .ok (.aload_n 3, 1) := by decide +kernel
theorem dL_glassAt_1 : decode cL_glassAt 1 = .ok (.iconst 0, 1) := by decide +kernel
theorem dL_glassAt_2 : decode cL_glassAt 2 = .ok (.aload_n 0, 1) := by decide +kernel
theorem dL_glassAt_3 : decode cL_glassAt 3 = .ok (.iload_n 1, 1) := by decide +kernel
theorem dL_glassAt_4 : decode cL_glassAt 4 = .ok (.iload_n 2, 1) := by decide +kernel
theorem dL_glassAt_5 : decode cL_glassAt 5 = .ok (.invokevirtual 103, 3) := by decide +kernel
theorem dL_glassAt_8 : decode cL_glassAt 8 = .ok (.i2l, 1) := by decide +kernel
theorem dL_glassAt_9 : decode cL_glassAt 9 = .ok (.lastore, 1) := by decide +kernel
theorem dL_glassAt_10 : decode cL_glassAt 10 = .ok (.goto 7, 3) := by decide +kernel
theorem dL_glassAt_13 : decode cL_glassAt 13 = .ok (.astore 4, 2) := by decide +kernel
theorem dL_glassAt_15 : decode cL_glassAt 15 = .ok (.iconst 1, 1) := by decide +kernel
theorem dL_glassAt_16 : decode cL_glassAt 16 = .ok (.ireturn, 1) := by decide +kernel
theorem dL_glassAt_17 : decode cL_glassAt 17 = .ok (.iconst 0, 1) := by decide +kernel
theorem dL_glassAt_18 : decode cL_glassAt 18 = .ok (.ireturn, 1) := by decide +kernel
def f_L_glassAt (F : Nat) (i1 : Int32) (i2 : Int32) (M : GM) : Option (Int32 × GM) := bndT (f_X10_glassAt F i1 i2 M) (fun (n4, M5) => if n4 = 3 then (some ((1 : Int32), M5)) else (none)) (fun (v2, M3) => bnd (sL M3 162 0 v2.toInt64) (fun M6 => some ((0 : Int32), M6)))
set_option maxHeartbeats 4000000 in
set_option maxRecDepth 100000 in
theorem w_L_glassAt {x : GX} (X : GC x cL_glassAt 5 RL 8) (XU : GC (xup x) cL_glassAt 5 RL 8) (hroom : xcells x + 1 ≤ (xR x).cells ∧ xslots x + 6 ≤ (xR x).slots) (htab : (xc x).exceptionTable.toList = tableOf [(0, 10, 13, 21)]) (hnc : gNcs (xs x)) {i1 : Int32} {i2 : Int32} {F : Nat} {M : GM} {r9 : (Int32 × GM)} (hR : ∀ (v9 : Int32) (M9 : GM) (lv9 : List (Nat × Value)) (pc9 : Nat), r9 = (v9, M9) → decode cL_glassAt pc9 = .ok (.ireturn, 1) → WG (xup x) M9 lv9 pc9 [.int v9]) (h : f_L_glassAt F i1 i2 M = some r9) : WG x M [(0, .ref (gad (xz x) 0)), (1, .int i1), (2, .int i2), (3, .ref (gad (xz x) 162))] 0 [] := by
  unfold f_L_glassAt at h
  refine g_aload_n X (j := 3) dL_glassAt_0 rfl rfl ?_
  refine g_iconst X (v := 0) dL_glassAt_1 (by decide) ?_
  refine g_aload_n X (j := 0) dL_glassAt_2 rfl rfl ?_
  refine g_iload_n X (j := 1) dL_glassAt_3 rfl rfl ?_
  refine g_iload_n X (j := 2) dL_glassAt_4 rfl rfl ?_
  rcases bndT_e h with ⟨⟨n4, M5⟩, hc1, h⟩ | ⟨⟨v2, M3⟩, hc1, h⟩
  · by_cases hb0 : n4 = 3
    · have h := ite_t hb0 h
      subst hb0
      refine gt_L_103 X gT_c0 (cx_X10_glassAt X.htr  hc1) (by decide) (Nat.le_of_ble_eq_true rfl) dL_glassAt_5 hroom htab [] { startPc := 0, endPc := 10, handlerPc := 13, catchType := 21 } [] rfl (fun z hz => absurd hz List.not_mem_nil) (by decide +kernel) (by decide) q_863 (List.mem_of_getElem? (i := 2) rfl) (fun q9 => ?_)
      refine g_astore XU (lv' := (4, .ref q9) :: [(0, .ref (gad (xz x) 0)), (1, .int i1), (2, .int i2), (3, .ref (gad (xz x) 162))]) dL_glassAt_13 (by decide) rfl ?_
      refine g_iconst XU (v := 1) dL_glassAt_15 (by decide) ?_
      exact (hR (1 : Int32) M5 _ _ (Option.some.inj h).symm dL_glassAt_16)
    · have h := ite_f hb0 h
      cases h
  refine gc_L_103 X gT_c0 (ct_X10_glassAt X.htr  hc1) (by decide) (Nat.le_of_ble_eq_true rfl) dL_glassAt_5 ?_
  refine g_i2l X dL_glassAt_8 ?_
  refine g_last X gT_c162 (by decide +kernel) dL_glassAt_9 ?_
  rw [tn_0]
  refine g_mem (fun M6 e7 => ?_)
  have h := bnd_e e7 h
  refine g_goto X (tgt := 17) dL_glassAt_10 (by decide) ?_
  refine g_iconst X (v := 0) dL_glassAt_17 (by decide) ?_
  refine g_up ?_
  exact hR (0 : Int32) M6 _ _ (Option.some.inj h).symm dL_glassAt_18
theorem ct_L_glassAt {l : Launch} {z : GZ} (htr : l.stackTraces = false) {i1 : Int32} {i2 : Int32} {M : GM} {F : Nat} {v : Int32} {M1 : GM} (h : f_L_glassAt F i1 i2 M = some (v, M1)) : gMetW l z yL_glassAt cL_glassAt 5 [(0, 10, 13, 21)] [.ref (gad z 0), .int i1, .int i2, .ref (gad z 162)] M v M1 := gMetW_of (by decide +kernel) (Nat.le_of_ble_eq_true rfl) htr (fun x X XU ez el htab hnc hR => by subst ez; subst el; exact w_L_glassAt X XU ⟨XU.2.2.2.2.2.2.2.2.2.1, XU.2.2.2.2.2.2.2.2.2.2.1⟩ htab hnc (fun v9 M9 lv9 pc9 e9 d9 => by cases e9; exact hR lv9 pc9 d9) h)
