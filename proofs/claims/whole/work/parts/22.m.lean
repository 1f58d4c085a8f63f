/-! 22.m -/
theorem dX11_counts_0 : decode cX11_counts 0 = .ok (.aload_n 0, 1) := by decide +kernel
theorem dX11_counts_1 : decode cX11_counts 1 = .ok (.getfield 87, 3) := by decide +kernel
theorem dX11_counts_4 : decode cX11_counts 4 = .ok (.iload_n 2, 1) := by decide +kernel
theorem dX11_counts_5 : decode cX11_counts 5 = .ok (.laload, 1) := by decide +kernel
theorem dX11_counts_6 : decode cX11_counts 6 = .ok (.aload_n 0, 1) := by decide +kernel
theorem dX11_counts_7 : decode cX11_counts 7 = .ok (.getfield 87, 3) := by decide +kernel
theorem dX11_counts_10 : decode cX11_counts 10 = .ok (.iload_n 1, 1) := by decide +kernel
theorem dX11_counts_11 : decode cX11_counts 11 = .ok (.laload, 1) := by decide +kernel
theorem dX11_counts_12 : decode cX11_counts 12 = .ok (.lcmp, 1) := by decide +kernel
theorem dX11_counts_13 : decode cX11_counts 13 = .ok (.ifCond .lt 35, 3) := by decide +kernel
theorem dX11_counts_16 : decode cX11_counts 16 = .ok (.aload_n 0, 1) := by decide +kernel
theorem dX11_counts_17 : decode cX11_counts 17 = .ok (.getfield 87, 3) := by decide +kernel
theorem dX11_counts_20 : decode cX11_counts 20 = .ok (.iload_n 2, 1) := by decide +kernel
theorem dX11_counts_21 : decode cX11_counts 21 = .ok (.laload, 1) := by decide +kernel
theorem dX11_counts_22 : decode cX11_counts 22 = .ok (.aload_n 0, 1) := by decide +kernel
theorem dX11_counts_23 : decode cX11_counts 23 = .ok (.getfield 87, 3) := by decide +kernel
theorem dX11_counts_26 : decode cX11_counts 26 = .ok (.iload_n 1, 1) := by decide +kernel
theorem dX11_counts_27 : decode cX11_counts 27 = .ok (.laload, 1) := by decide +kernel
theorem dX11_counts_28 : decode cX11_counts 28 = .ok (.lcmp, 1) := by decide +kernel
theorem dX11_counts_29 : decode cX11_counts 29 = .ok (.ifCond .ne 23, 3) := by decide +kernel
theorem dX11_counts_32 : decode cX11_counts 32 = .ok (.aload_n 0, 1) := by decide +kernel
theorem dX11_counts_33 : decode cX11_counts 33 = .ok (.getfield 83, 3) := by decide +kernel
theorem dX11_counts_36 : decode cX11_counts 36 = .ok (.iload_n 2, 1) := by decide +kernel
theorem dX11_counts_37 : decode cX11_counts 37 = .ok (.laload, 1) := by decide +kernel
theorem dX11_counts_38 : decode cX11_counts 38 = .ok (.aload_n 0, 1) := by decide +kernel
theorem dX11_counts_39 : decode cX11_counts 39 = .ok (.getfield 83, 3) := by decide +kernel
theorem dX11_counts_42 : decode cX11_counts 42 = .ok (.iload_n 1, 1) := by decide +kernel
theorem dX11_counts_43 : decode cX11_counts 43 = .ok (.laload, 1) := by decide +kernel
theorem dX11_counts_44 : decode cX11_counts 44 = .ok (.lcmp, 1) := by decide +kernel
theorem dX11_counts_45 : decode cX11_counts 45 = .ok (.ifCond .le 7, 3) := by decide +kernel
theorem dX11_counts_48 : decode cX11_counts 48 = .ok (.iconst 1, 1) := by decide +kernel
theorem dX11_counts_49 : decode cX11_counts 49 = .ok (.goto 4, 3) := by decide +kernel
theorem dX11_counts_52 : decode cX11_counts 52 = .ok (.iconst 0, 1) := by decide +kernel
theorem dX11_counts_53 : decode cX11_counts 53 = .ok (.ireturn, 1) := by decide +kernel
def f_X11_counts (F : Nat) (i0 : Int32) (i1 : Int32) (M : GM) : Option Int32 := grd (gIn i1 (gN 154)) (grd (gIn i0 (gN 154)) (if (lg_cmp (gL M 154 i1.toNatClampNeg) (gL M 154 i0.toNatClampNeg)) < 0 then (some (1 : Int32)) else (grd (gIn i1 (gN 154)) (grd (gIn i0 (gN 154)) (if (lg_cmp (gL M 154 i1.toNatClampNeg) (gL M 154 i0.toNatClampNeg)) = 0 then (grd (gIn i1 (gN 153)) (grd (gIn i0 (gN 153)) (if (lg_cmp (gL M 153 i1.toNatClampNeg) (gL M 153 i0.toNatClampNeg)) ≤ 0 then (some (0 : Int32)) else (some (1 : Int32))))) else (some (0 : Int32)))))))
set_option maxHeartbeats 4000000 in
set_option maxRecDepth 100000 in
theorem w_X11_counts {x : GX} (X : GC x cX11_counts 3 RX11 0) {i0 : Int32} {i1 : Int32}  {F : Nat} {M : GM} {r9 : Int32} (hR : ∀ (v9 : Int32) (lv9 : List (Nat × Value)) (pc9 : Nat), r9 = v9 → (v9 = 0 ∨ v9 = 1) → decode cX11_counts pc9 = .ok (.ireturn, 1) → WG x M lv9 pc9 [.int v9]) (h : f_X11_counts F i0 i1 M = some r9) : WG x M [(0, .ref (gad (xz x) 122)), (1, .int i0), (2, .int i1)] 0 [] := by
  unfold f_X11_counts at h
  refine g_aload_n X (j := 0) dX11_counts_0 rfl rfl ?_
  refine gf_X11_87 X gT_c122 dX11_counts_1 ?_
  refine g_iload_n X (j := 2) dX11_counts_4 rfl rfl ?_
  obtain ⟨hg1, h⟩ := grd_e h
  refine g_lald X gT_c154 hg1 dX11_counts_5 ?_
  refine g_aload_n X (j := 0) dX11_counts_6 rfl rfl ?_
  refine gf_X11_87 X gT_c122 dX11_counts_7 ?_
  refine g_iload_n X (j := 1) dX11_counts_10 rfl rfl ?_
  obtain ⟨hg2, h⟩ := grd_e h
  refine g_lald X gT_c154 hg2 dX11_counts_11 ?_
  refine g_lcmp X dX11_counts_12 ?_
  refine g_if_lt X (tgt := 48) dX11_counts_13 (by decide) (fun hb => ?_) (fun hb => ?_)
  · have h := ite_t hb h
    refine g_iconst X (v := 1) dX11_counts_48 (by decide) ?_
    refine g_goto X (tgt := 53) dX11_counts_49 (by decide) ?_
    exact hR (1 : Int32) _ _ (Option.some.inj h).symm (Or.inr rfl) dX11_counts_53
  · have h := ite_f hb h
    refine g_aload_n X (j := 0) dX11_counts_16 rfl rfl ?_
    refine gf_X11_87 X gT_c122 dX11_counts_17 ?_
    refine g_iload_n X (j := 2) dX11_counts_20 rfl rfl ?_
    obtain ⟨hg3, h⟩ := grd_e h
    refine g_lald X gT_c154 hg3 dX11_counts_21 ?_
    refine g_aload_n X (j := 0) dX11_counts_22 rfl rfl ?_
    refine gf_X11_87 X gT_c122 dX11_counts_23 ?_
    refine g_iload_n X (j := 1) dX11_counts_26 rfl rfl ?_
    obtain ⟨hg4, h⟩ := grd_e h
    refine g_lald X gT_c154 hg4 dX11_counts_27 ?_
    refine g_lcmp X dX11_counts_28 ?_
    refine g_if_ne X (tgt := 52) dX11_counts_29 (by decide) (fun hb => ?_) (fun hb => ?_)
    · have h := ite_f hb h
      refine g_iconst X (v := 0) dX11_counts_52 (by decide) ?_
      exact hR (0 : Int32) _ _ (Option.some.inj h).symm (Or.inl rfl) dX11_counts_53
    · have h := ite_t hb h
      refine g_aload_n X (j := 0) dX11_counts_32 rfl rfl ?_
      refine gf_X11_83 X gT_c122 dX11_counts_33 ?_
      refine g_iload_n X (j := 2) dX11_counts_36 rfl rfl ?_
      obtain ⟨hg5, h⟩ := grd_e h
      refine g_lald X gT_c153 hg5 dX11_counts_37 ?_
      refine g_aload_n X (j := 0) dX11_counts_38 rfl rfl ?_
      refine gf_X11_83 X gT_c122 dX11_counts_39 ?_
      refine g_iload_n X (j := 1) dX11_counts_42 rfl rfl ?_
      obtain ⟨hg6, h⟩ := grd_e h
      refine g_lald X gT_c153 hg6 dX11_counts_43 ?_
      refine g_lcmp X dX11_counts_44 ?_
      refine g_if_le X (tgt := 52) dX11_counts_45 (by decide) (fun hb => ?_) (fun hb => ?_)
      · have h := ite_t hb h
        refine g_iconst X (v := 0) dX11_counts_52 (by decide) ?_
        exact hR (0 : Int32) _ _ (Option.some.inj h).symm (Or.inl rfl) dX11_counts_53
      · have h := ite_f hb h
        refine g_iconst X (v := 1) dX11_counts_48 (by decide) ?_
        refine g_goto X (tgt := 53) dX11_counts_49 (by decide) ?_
        exact hR (1 : Int32) _ _ (Option.some.inj h).symm (Or.inr rfl) dX11_counts_53
theorem ct_X11_counts {l : Launch} {z : GZ} (htr : l.stackTraces = false) {i0 : Int32} {i1 : Int32}  {M : GM} {F : Nat} {v : Int32} (h : f_X11_counts F i0 i1 M = some v) : gMet l z yX11_counts cX11_counts 3 (some .boolean) 0 [.ref (gad z 122), .int i0, .int i1] M (some (.int v)) M := gMet_ofZ (by decide +kernel) (Nat.le_of_ble_eq_true rfl) htr (fun x X ez el hR => by subst ez; subst el; exact w_X11_counts X  (fun v9 lv9 pc9 e9 z9 d9 => by cases e9; exact hR lv9 pc9 z9 d9) h)
theorem gc_X11_252 {x : GX} {cc : ByteArray} {nL d pc : Nat} {M : GM} {lv : List (Nat × Value)} {st : List Value} (X : GC x cc nL RX11 d) {i0 : Int32} {i1 : Int32} {M1 : GM} {r : Int32} (ht : gT 122 = 11) (hM : gMet (xl x) (xz x) yX11_counts cX11_counts 3 (some .boolean) 0 [.ref (gad (xz x) 122), .int i0, .int i1] M (some (.int r)) M1) (hd : 1 ≤ d) (hsum : (st.map fun v => v.category).sum ≤ 8) (dec : decode cc pc = .ok (.invokevirtual 252, 3)) (go : WG x M1 lv (pc + 3) (.int r :: st)) : WG x M lv pc (.int i1 :: .int i0 :: .ref (gad (xz x) 122) :: st) := g_callV X (n := 2) (As := [.int i0, .int i1]) (rest := st) hM ht (by decide) (gE_11 ht) rfl q_1401 q_1403 q_38 q_63 q_1404 (by decide +kernel) rfl hd (by decide) rfl hsum dec go
theorem dX11_isInPiece_0 : decode cX11_isInPiece 0 = .ok (.ldc2_w 202, 3) := by decide +kernel
theorem dX11_isInPiece_3 : decode cX11_isInPiece 3 = .ok (.iload_n 1, 1) := by decide +kernel
theorem dX11_isInPiece_4 : decode cX11_isInPiece 4 = .ok (.i2l, 1) := by decide +kernel
theorem dX11_isInPiece_5 : decode cX11_isInPiece 5 = .ok (.lmul, 1) := by decide +kernel
theorem dX11_isInPiece_6 : decode cX11_isInPiece 6 = .ok (.ldc2_w 241, 3) := by decide +kernel
theorem dX11_isInPiece_9 : decode cX11_isInPiece 9 = .ok (.ladd, 1) := by decide +kernel
theorem dX11_isInPiece_10 : decode cX11_isInPiece 10 = .ok (.lstore_n 3, 1) := by decide +kernel
theorem dX11_isInPiece_11 : decode cX11_isInPiece 11 = .ok (.ldc2_w 202, 3) := by decide +kernel
theorem dX11_isInPiece_14 : decode cX11_isInPiece 14 = .ok (.iload_n 2, 1) := by decide +kernel
theorem dX11_isInPiece_15 : decode cX11_isInPiece 15 = .ok (.i2l, 1) := by decide +kernel
theorem dX11_isInPiece_16 : decode cX11_isInPiece 16 = .ok (.lmul, 1) := by decide +kernel
theorem dX11_isInPiece_17 : decode cX11_isInPiece 17 = .ok (.ldc2_w 241, 3) := by decide +kernel
theorem dX11_isInPiece_20 : decode cX11_isInPiece 20 = .ok (.ladd, 1) := by decide +kernel
theorem dX11_isInPiece_21 : decode cX11_isInPiece 21 = .ok (.lstore 5, 2) := by decide +kernel
theorem dX11_isInPiece_23 : decode cX11_isInPiece 23 = .ok (.aload_n 0, 1) := by decide +kernel
theorem dX11_isInPiece_24 : decode cX11_isInPiece 24 = .ok (.aload_n 0, 1) := by decide +kernel
theorem dX11_isInPiece_25 : decode cX11_isInPiece 25 = .ok (.iconst 1, 1) := by decide +kernel
theorem dX11_isInPiece_26 : decode cX11_isInPiece 26 = .ok (.iconst 2, 1) := by decide +kernel
theorem dX11_isInPiece_27 : decode cX11_isInPiece 27 = .ok (.lload_n 3, 1) := by decide +kernel
theorem dX11_isInPiece_28 : decode cX11_isInPiece 28 = .ok (.lload 5, 2) := by decide +kernel
theorem dX11_isInPiece_30 : decode cX11_isInPiece 30 = .ok (.invokevirtual 233, 3) := by decide +kernel
theorem dX11_isInPiece_33 : decode cX11_isInPiece 33 = .ok (.putfield 243, 3) := by decide +kernel
theorem dX11_isInPiece_36 : decode cX11_isInPiece 36 = .ok (.aload_n 0, 1) := by decide +kernel
theorem dX11_isInPiece_37 : decode cX11_isInPiece 37 = .ok (.aload_n 0, 1) := by decide +kernel
theorem dX11_isInPiece_38 : decode cX11_isInPiece 38 = .ok (.iconst 2, 1) := by decide +kernel
theorem dX11_isInPiece_39 : decode cX11_isInPiece 39 = .ok (.iconst 0, 1) := by decide +kernel
theorem dX11_isInPiece_40 : decode cX11_isInPiece 40 = .ok (.lload_n 3, 1) := by decide +kernel
theorem dX11_isInPiece_41 : decode cX11_isInPiece 41 = .ok (.lload 5, 2) := by decide +kernel
theorem dX11_isInPiece_43 : decode cX11_isInPiece 43 = .ok (.invokevirtual 233, 3) := by decide +kernel
theorem dX11_isInPiece_46 : decode cX11_isInPiece 46 = .ok (.putfield 246, 3) := by decide +kernel
theorem dX11_isInPiece_49 : decode cX11_isInPiece 49 = .ok (.aload_n 0, 1) := by decide +kernel
theorem dX11_isInPiece_50 : decode cX11_isInPiece 50 = .ok (.aload_n 0, 1) := by decide +kernel
theorem dX11_isInPiece_51 : decode cX11_isInPiece 51 = .ok (.iconst 0, 1) := by decide +kernel
theorem dX11_isInPiece_52 : decode cX11_isInPiece 52 = .ok (.iconst 1, 1) := by decide +kernel
theorem dX11_isInPiece_53 : decode cX11_isInPiece 53 = .ok (.lload_n 3, 1) := by decide +kernel
theorem dX11_isInPiece_54 : decode cX11_isInPiece 54 = .ok (.lload 5, 2) := by decide +kernel
theorem dX11_isInPiece_56 : decode cX11_isInPiece 56 = .ok (.invokevirtual 233, 3) := by decide +kernel
theorem dX11_isInPiece_59 : decode cX11_isInPiece 59 = .ok (.putfield 249, 3) := by decide +kernel
theorem dX11_isInPiece_62 : decode cX11_isInPiece 62 = .ok (.aload_n 0, 1) := by decide +kernel
theorem dX11_isInPiece_63 : decode cX11_isInPiece 63 = .ok (.getfield 243, 3) := by decide +kernel
theorem dX11_isInPiece_66 : decode cX11_isInPiece 66 = .ok (.lconst 0, 1) := by decide +kernel
theorem dX11_isInPiece_67 : decode cX11_isInPiece 67 = .ok (.lcmp, 1) := by decide +kernel
theorem dX11_isInPiece_68 : decode cX11_isInPiece 68 = .ok (.ifCond .lt 21, 3) := by decide +kernel
theorem dX11_isInPiece_71 : decode cX11_isInPiece 71 = .ok (.aload_n 0, 1) := by decide +kernel
theorem dX11_isInPiece_72 : decode cX11_isInPiece 72 = .ok (.getfield 246, 3) := by decide +kernel
theorem dX11_isInPiece_75 : decode cX11_isInPiece 75 = .ok (.lconst 0, 1) := by decide +kernel
theorem dX11_isInPiece_76 : decode cX11_isInPiece 76 = .ok (.lcmp, 1) := by decide +kernel
theorem dX11_isInPiece_77 : decode cX11_isInPiece 77 = .ok (.ifCond .lt 12, 3) := by decide +kernel
theorem dX11_isInPiece_80 : decode cX11_isInPiece 80 = .ok (.aload_n 0, 1) := by decide +kernel
theorem dX11_isInPiece_81 : decode cX11_isInPiece 81 = .ok (.getfield 249, 3) := by decide +kernel
theorem dX11_isInPiece_84 : decode cX11_isInPiece 84 = .ok (.lconst 0, 1) := by decide +kernel
theorem dX11_isInPiece_85 : decode cX11_isInPiece 85 = .ok (.lcmp, 1) := by decide +kernel
theorem dX11_isInPiece_86 : decode cX11_isInPiece 86 = .ok (.ifCond .ge 5, 3) := by decide +kernel
theorem dX11_isInPiece_89 : decode cX11_isInPiece 89 = .ok (.iconst 0, 1) := by decide +kernel
theorem dX11_isInPiece_90 : decode cX11_isInPiece 90 = .ok (.ireturn, 1) := by decide +kernel
theorem dX11_isInPiece_91 : decode cX11_isInPiece 91 = .ok (.aload_n 0, 1) := by decide +kernel
theorem dX11_isInPiece_92 : decode cX11_isInPiece 92 = .ok (.getfield 243, 3) := by decide +kernel
theorem dX11_isInPiece_95 : decode cX11_isInPiece 95 = .ok (.lconst 0, 1) := by decide +kernel
theorem dX11_isInPiece_96 : decode cX11_isInPiece 96 = .ok (.lcmp, 1) := by decide +kernel
theorem dX11_isInPiece_97 : decode cX11_isInPiece 97 = .ok (.ifCond .gt 12, 3) := by decide +kernel
theorem dX11_isInPiece_100 : decode cX11_isInPiece 100 = .ok (.aload_n 0, 1) := by decide +kernel
theorem dX11_isInPiece_101 : decode cX11_isInPiece 101 = .ok (.iconst 1, 1) := by decide +kernel
theorem dX11_isInPiece_102 : decode cX11_isInPiece 102 = .ok (.iconst 2, 1) := by decide +kernel
theorem dX11_isInPiece_103 : decode cX11_isInPiece 103 = .ok (.invokevirtual 252, 3) := by decide +kernel
theorem dX11_isInPiece_106 : decode cX11_isInPiece 106 = .ok (.ifCond .eq 43, 3) := by decide +kernel
theorem dX11_isInPiece_109 : decode cX11_isInPiece 109 = .ok (.aload_n 0, 1) := by decide +kernel
theorem dX11_isInPiece_110 : decode cX11_isInPiece 110 = .ok (.getfield 246, 3) := by decide +kernel
theorem dX11_isInPiece_113 : decode cX11_isInPiece 113 = .ok (.lconst 0, 1) := by decide +kernel
theorem dX11_isInPiece_114 : decode cX11_isInPiece 114 = .ok (.lcmp, 1) := by decide +kernel
theorem dX11_isInPiece_115 : decode cX11_isInPiece 115 = .ok (.ifCond .gt 12, 3) := by decide +kernel
theorem dX11_isInPiece_118 : decode cX11_isInPiece 118 = .ok (.aload_n 0, 1) := by decide +kernel
theorem dX11_isInPiece_119 : decode cX11_isInPiece 119 = .ok (.iconst 2, 1) := by decide +kernel
theorem dX11_isInPiece_120 : decode cX11_isInPiece 120 = .ok (.iconst 0, 1) := by decide +kernel
theorem dX11_isInPiece_121 : decode cX11_isInPiece 121 = .ok (.invokevirtual 252, 3) := by decide +kernel
theorem dX11_isInPiece_124 : decode cX11_isInPiece 124 = .ok (.ifCond .eq 25, 3) := by decide +kernel
theorem dX11_isInPiece_127 : decode cX11_isInPiece 127 = .ok (.aload_n 0, 1) := by decide +kernel
theorem dX11_isInPiece_128 : decode cX11_isInPiece 128 = .ok (.getfield 249, 3) := by decide +kernel
theorem dX11_isInPiece_131 : decode cX11_isInPiece 131 = .ok (.lconst 0, 1) := by decide +kernel
theorem dX11_isInPiece_132 : decode cX11_isInPiece 132 = .ok (.lcmp, 1) := by decide +kernel
theorem dX11_isInPiece_133 : decode cX11_isInPiece 133 = .ok (.ifCond .gt 12, 3) := by decide +kernel
theorem dX11_isInPiece_136 : decode cX11_isInPiece 136 = .ok (.aload_n 0, 1) := by decide +kernel
theorem dX11_isInPiece_137 : decode cX11_isInPiece 137 = .ok (.iconst 0, 1) := by decide +kernel
theorem dX11_isInPiece_138 : decode cX11_isInPiece 138 = .ok (.iconst 1, 1) := by decide +kernel
theorem dX11_isInPiece_139 : decode cX11_isInPiece 139 = .ok (.invokevirtual 252, 3) := by decide +kernel
theorem dX11_isInPiece_142 : decode cX11_isInPiece 142 = .ok (.ifCond .eq 7, 3) := by decide +kernel
theorem dX11_isInPiece_145 : decode cX11_isInPiece 145 = .ok (.iconst 1, 1) := by decide +kernel
theorem dX11_isInPiece_146 : decode cX11_isInPiece 146 = .ok (.goto 4, 3) := by decide +kernel
theorem dX11_isInPiece_149 : decode cX11_isInPiece 149 = .ok (.iconst 0, 1) := by decide +kernel
theorem dX11_isInPiece_150 : decode cX11_isInPiece 150 = .ok (.ireturn, 1) := by decide +kernel
def bk_X11_isInPiece_127 (F : Nat) (M : GM) : Option (Int32 × GM) := if 0 < (lg_cmp (gL M 122 36) (0 : Int64)) then (some ((1 : Int32), M)) else (bndO (f_X11_counts F (0 : Int32) (1 : Int32) M) (fun v18 => if v18 = 0 then (some ((0 : Int32), M)) else (some ((1 : Int32), M))))
set_option maxHeartbeats 4000000 in
set_option maxRecDepth 100000 in
theorem bw_X11_isInPiece_127 {x : GX} (X : GC x cX11_isInPiece 7 RX11 1)    {F : Nat} {M : GM} {r9 : (Int32 × GM)} (hR : ∀ (v9 : Int32) (M9 : GM) (lv9 : List (Nat × Value)) (pc9 : Nat), r9 = (v9, M9) → (v9 = 0 ∨ v9 = 1) → decode cX11_isInPiece pc9 = .ok (.ireturn, 1) → WG x M9 lv9 pc9 [.int v9]) (h : bk_X11_isInPiece_127 F M = some r9) : WG x M [(0, .ref (gad (xz x) 122))] 127 [] := by
  unfold bk_X11_isInPiece_127 at h
  refine g_aload_n X (j := 0) dX11_isInPiece_127 rfl rfl ?_
  refine gf_X11_249 X gT_c122 dX11_isInPiece_128 ?_
  refine g_lconst X (v := 0) dX11_isInPiece_131 (by decide) ?_
  refine g_lcmp X dX11_isInPiece_132 ?_
  refine g_if_gt X (tgt := 145) dX11_isInPiece_133 (by decide) (fun hb => ?_) (fun hb => ?_)
  · have h := ite_t hb h
    refine g_iconst X (v := 1) dX11_isInPiece_145 (by decide) ?_
    refine g_goto X (tgt := 150) dX11_isInPiece_146 (by decide) ?_
    exact hR (1 : Int32) M _ _ (Option.some.inj h).symm (Or.inr rfl) dX11_isInPiece_150
  · have h := ite_f hb h
    refine g_aload_n X (j := 0) dX11_isInPiece_136 rfl rfl ?_
    refine g_iconst X (v := 0) dX11_isInPiece_137 (by decide) ?_
    refine g_iconst X (v := 1) dX11_isInPiece_138 (by decide) ?_
    obtain ⟨v18, hc17, h⟩ := bndO_e h
    refine gc_X11_252 X gT_c122 (ct_X11_counts X.htr  hc17) (by decide) (Nat.le_of_ble_eq_true rfl) dX11_isInPiece_139 ?_
    refine g_if_eq X (tgt := 149) dX11_isInPiece_142 (by decide) (fun hb => ?_) (fun hb => ?_)
    · have h := ite_t hb h
      refine g_iconst X (v := 0) dX11_isInPiece_149 (by decide) ?_
      exact hR (0 : Int32) M _ _ (Option.some.inj h).symm (Or.inl rfl) dX11_isInPiece_150
    · have h := ite_f hb h
      refine g_iconst X (v := 1) dX11_isInPiece_145 (by decide) ?_
      refine g_goto X (tgt := 150) dX11_isInPiece_146 (by decide) ?_
      exact hR (1 : Int32) M _ _ (Option.some.inj h).symm (Or.inr rfl) dX11_isInPiece_150
def bk_X11_isInPiece_109 (F : Nat) (M : GM) : Option (Int32 × GM) := if 0 < (lg_cmp (gL M 122 35) (0 : Int64)) then (bk_X11_isInPiece_127 F M) else (bndO (f_X11_counts F (2 : Int32) (0 : Int32) M) (fun v20 => if v20 = 0 then (some ((0 : Int32), M)) else (bk_X11_isInPiece_127 F M)))
set_option maxHeartbeats 4000000 in
set_option maxRecDepth 100000 in
theorem bw_X11_isInPiece_109 {x : GX} (X : GC x cX11_isInPiece 7 RX11 1)    {F : Nat} {M : GM} {r9 : (Int32 × GM)} (hR : ∀ (v9 : Int32) (M9 : GM) (lv9 : List (Nat × Value)) (pc9 : Nat), r9 = (v9, M9) → (v9 = 0 ∨ v9 = 1) → decode cX11_isInPiece pc9 = .ok (.ireturn, 1) → WG x M9 lv9 pc9 [.int v9]) (h : bk_X11_isInPiece_109 F M = some r9) : WG x M [(0, .ref (gad (xz x) 122))] 109 [] := by
  unfold bk_X11_isInPiece_109 at h
  refine g_aload_n X (j := 0) dX11_isInPiece_109 rfl rfl ?_
  refine gf_X11_246 X gT_c122 dX11_isInPiece_110 ?_
  refine g_lconst X (v := 0) dX11_isInPiece_113 (by decide) ?_
  refine g_lcmp X dX11_isInPiece_114 ?_
  refine g_if_gt X (tgt := 127) dX11_isInPiece_115 (by decide) (fun hb => ?_) (fun hb => ?_)
  · have h := ite_t hb h
    refine g_lv [0] rfl ?_
    exact bw_X11_isInPiece_127 X  hR h
  · have h := ite_f hb h
    refine g_aload_n X (j := 0) dX11_isInPiece_118 rfl rfl ?_
    refine g_iconst X (v := 2) dX11_isInPiece_119 (by decide) ?_
    refine g_iconst X (v := 0) dX11_isInPiece_120 (by decide) ?_
    obtain ⟨v20, hc19, h⟩ := bndO_e h
    refine gc_X11_252 X gT_c122 (ct_X11_counts X.htr  hc19) (by decide) (Nat.le_of_ble_eq_true rfl) dX11_isInPiece_121 ?_
    refine g_if_eq X (tgt := 149) dX11_isInPiece_124 (by decide) (fun hb => ?_) (fun hb => ?_)
    · have h := ite_t hb h
      refine g_iconst X (v := 0) dX11_isInPiece_149 (by decide) ?_
      exact hR (0 : Int32) M _ _ (Option.some.inj h).symm (Or.inl rfl) dX11_isInPiece_150
    · have h := ite_f hb h
      refine g_lv [0] rfl ?_
      exact bw_X11_isInPiece_127 X  hR h
def f_X11_isInPiece (F : Nat) (i0 : Int32) (i1 : Int32) (M : GM) : Option (Int32 × GM) := bnd (((16 : Int64) * i0.toInt64) + (8 : Int64)) (fun w1 => bnd (((16 : Int64) * i1.toInt64) + (8 : Int64)) (fun w3 => bndO (f_X11_turn F (1 : Int32) (2 : Int32) w1 w3 M) (fun w6 => bnd (sL M 122 34 w6) (fun M7 => bndO (f_X11_turn F (2 : Int32) (0 : Int32) w1 w3 M7) (fun w10 => bnd (sL M7 122 35 w10) (fun M11 => bndO (f_X11_turn F (0 : Int32) (1 : Int32) w1 w3 M11) (fun w14 => bnd (sL M11 122 36 w14) (fun M15 => if (lg_cmp (gL M15 122 34) (0 : Int64)) < 0 then (some ((0 : Int32), M15)) else (if (lg_cmp (gL M15 122 35) (0 : Int64)) < 0 then (some ((0 : Int32), M15)) else (if 0 ≤ (lg_cmp (gL M15 122 36) (0 : Int64)) then (if 0 < (lg_cmp (gL M15 122 34) (0 : Int64)) then (bk_X11_isInPiece_109 F M15) else (bndO (f_X11_counts F (1 : Int32) (2 : Int32) M15) (fun v22 => if v22 = 0 then (some ((0 : Int32), M15)) else (bk_X11_isInPiece_109 F M15)))) else (some ((0 : Int32), M15))))))))))))
set_option maxHeartbeats 4000000 in
set_option maxRecDepth 100000 in
theorem w_X11_isInPiece {x : GX} (X : GC x cX11_isInPiece 7 RX11 1) {i0 : Int32} {i1 : Int32}  {F : Nat} {M : GM} {r9 : (Int32 × GM)} (hR : ∀ (v9 : Int32) (M9 : GM) (lv9 : List (Nat × Value)) (pc9 : Nat), r9 = (v9, M9) → (v9 = 0 ∨ v9 = 1) → decode cX11_isInPiece pc9 = .ok (.ireturn, 1) → WG x M9 lv9 pc9 [.int v9]) (h : f_X11_isInPiece F i0 i1 M = some r9) : WG x M [(0, .ref (gad (xz x) 122)), (1, .int i0), (2, .int i1)] 0 [] := by
  unfold f_X11_isInPiece at h
  refine g_ldc2 X q_1345 dX11_isInPiece_0 ?_
  refine g_iload_n X (j := 1) dX11_isInPiece_3 rfl rfl ?_
  refine g_i2l X dX11_isInPiece_4 ?_
  refine g_lmul X dX11_isInPiece_5 ?_
  refine g_ldc2 X q_1400 dX11_isInPiece_6 ?_
  refine g_ladd X dX11_isInPiece_9 ?_
  refine g_topl (fun w1 e2 => ?_)
  have h := bnd_e e2 h
  refine g_lstore_n X (lv' := [(3, .long w1), (0, .ref (gad (xz x) 122)), (1, .int i0), (2, .int i1)]) dX11_isInPiece_10 rfl (by decide) rfl ?_
  refine g_ldc2 X q_1345 dX11_isInPiece_11 ?_
  refine g_iload_n X (j := 3) dX11_isInPiece_14 rfl rfl ?_
  refine g_i2l X dX11_isInPiece_15 ?_
  refine g_lmul X dX11_isInPiece_16 ?_
  refine g_ldc2 X q_1400 dX11_isInPiece_17 ?_
  refine g_ladd X dX11_isInPiece_20 ?_
  refine g_topl (fun w3 e4 => ?_)
  have h := bnd_e e4 h
  refine g_lstore X (lv' := [(5, .long w3), (3, .long w1), (0, .ref (gad (xz x) 122)), (1, .int i0), (2, .int i1)]) dX11_isInPiece_21 (by decide) rfl ?_
  refine g_aload_n X (j := 2) dX11_isInPiece_23 rfl rfl ?_
  refine g_aload_n X (j := 2) dX11_isInPiece_24 rfl rfl ?_
  refine g_iconst X (v := 1) dX11_isInPiece_25 (by decide) ?_
  refine g_iconst X (v := 2) dX11_isInPiece_26 (by decide) ?_
  refine g_lload_n X (j := 1) dX11_isInPiece_27 rfl rfl ?_
  refine g_lload X (j := 0) dX11_isInPiece_28 rfl ?_
  obtain ⟨w6, hc5, h⟩ := bndO_e h
  refine gc_X11_233 X gT_c122 (ct_X11_turn X.htr  hc5) (by decide) (Nat.le_of_ble_eq_true rfl) dX11_isInPiece_30 ?_
  refine gp_X11_243 X gT_c122 dX11_isInPiece_33 ?_
  refine g_mem (fun M7 e8 => ?_)
  have h := bnd_e e8 h
  refine g_aload_n X (j := 2) dX11_isInPiece_36 rfl rfl ?_
  refine g_aload_n X (j := 2) dX11_isInPiece_37 rfl rfl ?_
  refine g_iconst X (v := 2) dX11_isInPiece_38 (by decide) ?_
  refine g_iconst X (v := 0) dX11_isInPiece_39 (by decide) ?_
  refine g_lload_n X (j := 1) dX11_isInPiece_40 rfl rfl ?_
  refine g_lload X (j := 0) dX11_isInPiece_41 rfl ?_
  obtain ⟨w10, hc9, h⟩ := bndO_e h
  refine gc_X11_233 X gT_c122 (ct_X11_turn X.htr  hc9) (by decide) (Nat.le_of_ble_eq_true rfl) dX11_isInPiece_43 ?_
  refine gp_X11_246 X gT_c122 dX11_isInPiece_46 ?_
  refine g_mem (fun M11 e12 => ?_)
  have h := bnd_e e12 h
  refine g_aload_n X (j := 2) dX11_isInPiece_49 rfl rfl ?_
  refine g_aload_n X (j := 2) dX11_isInPiece_50 rfl rfl ?_
  refine g_iconst X (v := 0) dX11_isInPiece_51 (by decide) ?_
  refine g_iconst X (v := 1) dX11_isInPiece_52 (by decide) ?_
  refine g_lload_n X (j := 1) dX11_isInPiece_53 rfl rfl ?_
  refine g_lload X (j := 0) dX11_isInPiece_54 rfl ?_
  obtain ⟨w14, hc13, h⟩ := bndO_e h
  refine gc_X11_233 X gT_c122 (ct_X11_turn X.htr  hc13) (by decide) (Nat.le_of_ble_eq_true rfl) dX11_isInPiece_56 ?_
  refine gp_X11_249 X gT_c122 dX11_isInPiece_59 ?_
  refine g_mem (fun M15 e16 => ?_)
  have h := bnd_e e16 h
  refine g_aload_n X (j := 2) dX11_isInPiece_62 rfl rfl ?_
  refine gf_X11_243 X gT_c122 dX11_isInPiece_63 ?_
  refine g_lconst X (v := 0) dX11_isInPiece_66 (by decide) ?_
  refine g_lcmp X dX11_isInPiece_67 ?_
  refine g_if_lt X (tgt := 89) dX11_isInPiece_68 (by decide) (fun hb => ?_) (fun hb => ?_)
  · have h := ite_t hb h
    refine g_iconst X (v := 0) dX11_isInPiece_89 (by decide) ?_
    exact hR (0 : Int32) M15 _ _ (Option.some.inj h).symm (Or.inl rfl) dX11_isInPiece_90
  · have h := ite_f hb h
    refine g_aload_n X (j := 2) dX11_isInPiece_71 rfl rfl ?_
    refine gf_X11_246 X gT_c122 dX11_isInPiece_72 ?_
    refine g_lconst X (v := 0) dX11_isInPiece_75 (by decide) ?_
    refine g_lcmp X dX11_isInPiece_76 ?_
    refine g_if_lt X (tgt := 89) dX11_isInPiece_77 (by decide) (fun hb => ?_) (fun hb => ?_)
    · have h := ite_t hb h
      refine g_iconst X (v := 0) dX11_isInPiece_89 (by decide) ?_
      exact hR (0 : Int32) M15 _ _ (Option.some.inj h).symm (Or.inl rfl) dX11_isInPiece_90
    · have h := ite_f hb h
      refine g_aload_n X (j := 2) dX11_isInPiece_80 rfl rfl ?_
      refine gf_X11_249 X gT_c122 dX11_isInPiece_81 ?_
      refine g_lconst X (v := 0) dX11_isInPiece_84 (by decide) ?_
      refine g_lcmp X dX11_isInPiece_85 ?_
      refine g_if_ge X (tgt := 91) dX11_isInPiece_86 (by decide) (fun hb => ?_) (fun hb => ?_)
      · have h := ite_t hb h
        refine g_aload_n X (j := 2) dX11_isInPiece_91 rfl rfl ?_
        refine gf_X11_243 X gT_c122 dX11_isInPiece_92 ?_
        refine g_lconst X (v := 0) dX11_isInPiece_95 (by decide) ?_
        refine g_lcmp X dX11_isInPiece_96 ?_
        refine g_if_gt X (tgt := 109) dX11_isInPiece_97 (by decide) (fun hb => ?_) (fun hb => ?_)
        · have h := ite_t hb h
          refine g_lv [2] rfl ?_
          exact bw_X11_isInPiece_109 X  hR h
        · have h := ite_f hb h
          refine g_aload_n X (j := 2) dX11_isInPiece_100 rfl rfl ?_
          refine g_iconst X (v := 1) dX11_isInPiece_101 (by decide) ?_
          refine g_iconst X (v := 2) dX11_isInPiece_102 (by decide) ?_
          obtain ⟨v22, hc21, h⟩ := bndO_e h
          refine gc_X11_252 X gT_c122 (ct_X11_counts X.htr  hc21) (by decide) (Nat.le_of_ble_eq_true rfl) dX11_isInPiece_103 ?_
          refine g_if_eq X (tgt := 149) dX11_isInPiece_106 (by decide) (fun hb => ?_) (fun hb => ?_)
          · have h := ite_t hb h
            refine g_iconst X (v := 0) dX11_isInPiece_149 (by decide) ?_
            exact hR (0 : Int32) M15 _ _ (Option.some.inj h).symm (Or.inl rfl) dX11_isInPiece_150
          · have h := ite_f hb h
            refine g_lv [2] rfl ?_
            exact bw_X11_isInPiece_109 X  hR h
      · have h := ite_f hb h
        refine g_iconst X (v := 0) dX11_isInPiece_89 (by decide) ?_
        exact hR (0 : Int32) M15 _ _ (Option.some.inj h).symm (Or.inl rfl) dX11_isInPiece_90
theorem ct_X11_isInPiece {l : Launch} {z : GZ} (htr : l.stackTraces = false) {i0 : Int32} {i1 : Int32}  {M : GM} {F : Nat} {v : Int32} {M1 : GM} (h : f_X11_isInPiece F i0 i1 M = some (v, M1)) : gMet l z yX11_isInPiece cX11_isInPiece 7 (some .boolean) 1 [.ref (gad z 122), .int i0, .int i1] M (some (.int v)) M1 := gMet_ofZ (by decide +kernel) (Nat.le_of_ble_eq_true rfl) htr (fun x X ez el hR => by subst ez; subst el; exact w_X11_isInPiece X  (fun v9 M9 lv9 pc9 e9 z9 d9 => by cases e9; exact hR lv9 pc9 z9 d9) h)
theorem dX11_depthHere_0 : decode cX11_depthHere 0 = .ok (.aload_n 0, 1) := by decide +kernel
theorem dX11_depthHere_1 : decode cX11_depthHere 1 = .ok (.getfield 243, 3) := by decide +kernel
theorem dX11_depthHere_4 : decode cX11_depthHere 4 = .ok (.aload_n 0, 1) := by decide +kernel
theorem dX11_depthHere_5 : decode cX11_depthHere 5 = .ok (.getfield 90, 3) := by decide +kernel
theorem dX11_depthHere_8 : decode cX11_depthHere 8 = .ok (.iconst 0, 1) := by decide +kernel
theorem dX11_depthHere_9 : decode cX11_depthHere 9 = .ok (.laload, 1) := by decide +kernel
theorem dX11_depthHere_10 : decode cX11_depthHere 10 = .ok (.lmul, 1) := by decide +kernel
theorem dX11_depthHere_11 : decode cX11_depthHere 11 = .ok (.aload_n 0, 1) := by decide +kernel
theorem dX11_depthHere_12 : decode cX11_depthHere 12 = .ok (.getfield 246, 3) := by decide +kernel
theorem dX11_depthHere_15 : decode cX11_depthHere 15 = .ok (.aload_n 0, 1) := by decide +kernel
theorem dX11_depthHere_16 : decode cX11_depthHere 16 = .ok (.getfield 90, 3) := by decide +kernel
theorem dX11_depthHere_19 : decode cX11_depthHere 19 = .ok (.iconst 1, 1) := by decide +kernel
theorem dX11_depthHere_20 : decode cX11_depthHere 20 = .ok (.laload, 1) := by decide +kernel
theorem dX11_depthHere_21 : decode cX11_depthHere 21 = .ok (.lmul, 1) := by decide +kernel
theorem dX11_depthHere_22 : decode cX11_depthHere 22 = .ok (.ladd, 1) := by decide +kernel
theorem dX11_depthHere_23 : decode cX11_depthHere 23 = .ok (.aload_n 0, 1) := by decide +kernel
theorem dX11_depthHere_24 : decode cX11_depthHere 24 = .ok (.getfield 249, 3) := by decide +kernel
theorem dX11_depthHere_27 : decode cX11_depthHere 27 = .ok (.aload_n 0, 1) := by decide +kernel
theorem dX11_depthHere_28 : decode cX11_depthHere 28 = .ok (.getfield 90, 3) := by decide +kernel
theorem dX11_depthHere_31 : decode cX11_depthHere 31 = .ok (.iconst 2, 1) := by decide +kernel
theorem dX11_depthHere_32 : decode cX11_depthHere 32 = .ok (.laload, 1) := by decide +kernel
theorem dX11_depthHere_33 : decode cX11_depthHere 33 = .ok (.lmul, 1) := by decide +kernel
theorem dX11_depthHere_34 : decode cX11_depthHere 34 = .ok (.ladd, 1) := by decide +kernel
theorem dX11_depthHere_35 : decode cX11_depthHere 35 = .ok (.aload_n 0, 1) := by decide +kernel
theorem dX11_depthHere_36 : decode cX11_depthHere 36 = .ok (.getfield 237, 3) := by decide +kernel
theorem dX11_depthHere_39 : decode cX11_depthHere 39 = .ok (.ldiv, 1) := by decide +kernel
theorem dX11_depthHere_40 : decode cX11_depthHere 40 = .ok (.l2i, 1) := by decide +kernel
theorem dX11_depthHere_41 : decode cX11_depthHere 41 = .ok (.ireturn, 1) := by decide +kernel
def f_X11_depthHere (F : Nat) (M : GM) : Option Int32 := grd (decide (¬ (gL M 122 33) = 0)) (some ((((((gL M 122 34) * (gL M 155 0)) + ((gL M 122 35) * (gL M 155 1))) + ((gL M 122 36) * (gL M 155 2))) / (gL M 122 33)).toInt32))
set_option maxHeartbeats 4000000 in
set_option maxRecDepth 100000 in
theorem w_X11_depthHere {x : GX} (X : GC x cX11_depthHere 1 RX11 0)   {F : Nat} {M : GM} {r9 : Int32} (hR : ∀ (v9 : Int32) (lv9 : List (Nat × Value)) (pc9 : Nat), r9 = v9 → decode cX11_depthHere pc9 = .ok (.ireturn, 1) → WG x M lv9 pc9 [.int v9]) (h : f_X11_depthHere F M = some r9) : WG x M [(0, .ref (gad (xz x) 122))] 0 [] := by
  unfold f_X11_depthHere at h
  refine g_aload_n X (j := 0) dX11_depthHere_0 rfl rfl ?_
  refine gf_X11_243 X gT_c122 dX11_depthHere_1 ?_
  refine g_aload_n X (j := 0) dX11_depthHere_4 rfl rfl ?_
  refine gf_X11_90 X gT_c122 dX11_depthHere_5 ?_
  refine g_iconst X (v := 0) dX11_depthHere_8 (by decide) ?_
  refine g_lald X gT_c155 (by decide +kernel) dX11_depthHere_9 ?_
  rw [tn_0]
  refine g_lmul X dX11_depthHere_10 ?_
  refine g_aload_n X (j := 0) dX11_depthHere_11 rfl rfl ?_
  refine gf_X11_246 X gT_c122 dX11_depthHere_12 ?_
  refine g_aload_n X (j := 0) dX11_depthHere_15 rfl rfl ?_
  refine gf_X11_90 X gT_c122 dX11_depthHere_16 ?_
  refine g_iconst X (v := 1) dX11_depthHere_19 (by decide) ?_
  refine g_lald X gT_c155 (by decide +kernel) dX11_depthHere_20 ?_
  rw [tn_1]
  refine g_lmul X dX11_depthHere_21 ?_
  refine g_ladd X dX11_depthHere_22 ?_
  refine g_aload_n X (j := 0) dX11_depthHere_23 rfl rfl ?_
  refine gf_X11_249 X gT_c122 dX11_depthHere_24 ?_
  refine g_aload_n X (j := 0) dX11_depthHere_27 rfl rfl ?_
  refine gf_X11_90 X gT_c122 dX11_depthHere_28 ?_
  refine g_iconst X (v := 2) dX11_depthHere_31 (by decide) ?_
  refine g_lald X gT_c155 (by decide +kernel) dX11_depthHere_32 ?_
  rw [tn_2]
  refine g_lmul X dX11_depthHere_33 ?_
  refine g_ladd X dX11_depthHere_34 ?_
  refine g_aload_n X (j := 0) dX11_depthHere_35 rfl rfl ?_
  refine gf_X11_237 X gT_c122 dX11_depthHere_36 ?_
  obtain ⟨hg1, h⟩ := grd_e h
  refine g_ldiv X dX11_depthHere_39 (of_decide_eq_true hg1) ?_
  refine g_l2i X dX11_depthHere_40 ?_
  exact hR ((((((gL M 122 34) * (gL M 155 0)) + ((gL M 122 35) * (gL M 155 1))) + ((gL M 122 36) * (gL M 155 2))) / (gL M 122 33)).toInt32) _ _ (Option.some.inj h).symm dX11_depthHere_41
theorem ct_X11_depthHere {l : Launch} {z : GZ} (htr : l.stackTraces = false)   {M : GM} {F : Nat} {v : Int32} (h : f_X11_depthHere F M = some v) : gMet l z yX11_depthHere cX11_depthHere 1 (some .int) 0 [.ref (gad z 122)] M (some (.int v)) M := gMet_ofI (by decide +kernel) (Nat.le_of_ble_eq_true rfl) htr rfl (fun x X ez el hR => by subst ez; subst el; exact w_X11_depthHere X  (fun v9 lv9 pc9 e9 d9 => by cases e9; exact hR lv9 pc9 d9) h)
theorem dX11_number_0 : decode cX11_number 0 = .ok (.aload_n 0, 1) := by decide +kernel
theorem dX11_number_1 : decode cX11_number 1 = .ok (.getfield 243, 3) := by decide +kernel
theorem dX11_number_4 : decode cX11_number 4 = .ok (.aload_n 0, 1) := by decide +kernel
theorem dX11_number_5 : decode cX11_number 5 = .ok (.getfield 80, 3) := by decide +kernel
theorem dX11_number_8 : decode cX11_number 8 = .ok (.iconst 0, 1) := by decide +kernel
theorem dX11_number_9 : decode cX11_number 9 = .ok (.aaload, 1) := by decide +kernel
theorem dX11_number_10 : decode cX11_number 10 = .ok (.iload_n 1, 1) := by decide +kernel
theorem dX11_number_11 : decode cX11_number 11 = .ok (.iaload, 1) := by decide +kernel
theorem dX11_number_12 : decode cX11_number 12 = .ok (.i2l, 1) := by decide +kernel
theorem dX11_number_13 : decode cX11_number 13 = .ok (.lmul, 1) := by decide +kernel
theorem dX11_number_14 : decode cX11_number 14 = .ok (.aload_n 0, 1) := by decide +kernel
theorem dX11_number_15 : decode cX11_number 15 = .ok (.getfield 246, 3) := by decide +kernel
theorem dX11_number_18 : decode cX11_number 18 = .ok (.aload_n 0, 1) := by decide +kernel
theorem dX11_number_19 : decode cX11_number 19 = .ok (.getfield 80, 3) := by decide +kernel
theorem dX11_number_22 : decode cX11_number 22 = .ok (.iconst 1, 1) := by decide +kernel
theorem dX11_number_23 : decode cX11_number 23 = .ok (.aaload, 1) := by decide +kernel
theorem dX11_number_24 : decode cX11_number 24 = .ok (.iload_n 1, 1) := by decide +kernel
theorem dX11_number_25 : decode cX11_number 25 = .ok (.iaload, 1) := by decide +kernel
theorem dX11_number_26 : decode cX11_number 26 = .ok (.i2l, 1) := by decide +kernel
theorem dX11_number_27 : decode cX11_number 27 = .ok (.lmul, 1) := by decide +kernel
theorem dX11_number_28 : decode cX11_number 28 = .ok (.ladd, 1) := by decide +kernel
theorem dX11_number_29 : decode cX11_number 29 = .ok (.aload_n 0, 1) := by decide +kernel
theorem dX11_number_30 : decode cX11_number 30 = .ok (.getfield 249, 3) := by decide +kernel
theorem dX11_number_33 : decode cX11_number 33 = .ok (.aload_n 0, 1) := by decide +kernel
theorem dX11_number_34 : decode cX11_number 34 = .ok (.getfield 80, 3) := by decide +kernel
theorem dX11_number_37 : decode cX11_number 37 = .ok (.iconst 2, 1) := by decide +kernel
theorem dX11_number_38 : decode cX11_number 38 = .ok (.aaload, 1) := by decide +kernel
theorem dX11_number_39 : decode cX11_number 39 = .ok (.iload_n 1, 1) := by decide +kernel
theorem dX11_number_40 : decode cX11_number 40 = .ok (.iaload, 1) := by decide +kernel
theorem dX11_number_41 : decode cX11_number 41 = .ok (.i2l, 1) := by decide +kernel
theorem dX11_number_42 : decode cX11_number 42 = .ok (.lmul, 1) := by decide +kernel
theorem dX11_number_43 : decode cX11_number 43 = .ok (.ladd, 1) := by decide +kernel
theorem dX11_number_44 : decode cX11_number 44 = .ok (.aload_n 0, 1) := by decide +kernel
theorem dX11_number_45 : decode cX11_number 45 = .ok (.getfield 237, 3) := by decide +kernel
theorem dX11_number_48 : decode cX11_number 48 = .ok (.ldiv, 1) := by decide +kernel
theorem dX11_number_49 : decode cX11_number 49 = .ok (.l2i, 1) := by decide +kernel
theorem dX11_number_50 : decode cX11_number 50 = .ok (.ireturn, 1) := by decide +kernel
def f_X11_number (F : Nat) (i0 : Int32) (M : GM) : Option Int32 := grd (gIn i0 (gN 150)) (grd (gIn i0 (gN 151)) (grd (gIn i0 (gN 152)) (grd (decide (¬ (gL M 122 33) = 0)) (some ((((((gL M 122 34) * ((gI M 150 i0.toNatClampNeg).toInt64)) + ((gL M 122 35) * ((gI M 151 i0.toNatClampNeg).toInt64))) + ((gL M 122 36) * ((gI M 152 i0.toNatClampNeg).toInt64))) / (gL M 122 33)).toInt32)))))
set_option maxHeartbeats 4000000 in
set_option maxRecDepth 100000 in
theorem w_X11_number {x : GX} (X : GC x cX11_number 2 RX11 0) {i0 : Int32}  {F : Nat} {M : GM} {r9 : Int32} (hR : ∀ (v9 : Int32) (lv9 : List (Nat × Value)) (pc9 : Nat), r9 = v9 → decode cX11_number pc9 = .ok (.ireturn, 1) → WG x M lv9 pc9 [.int v9]) (h : f_X11_number F i0 M = some r9) : WG x M [(0, .ref (gad (xz x) 122)), (1, .int i0)] 0 [] := by
  unfold f_X11_number at h
  refine g_aload_n X (j := 0) dX11_number_0 rfl rfl ?_
  refine gf_X11_243 X gT_c122 dX11_number_1 ?_
  refine g_aload_n X (j := 0) dX11_number_4 rfl rfl ?_
  refine gf_X11_80 X gT_c122 dX11_number_5 ?_
  refine g_iconst X (v := 0) dX11_number_8 (by decide) ?_
  refine g_aald_28 X gT_c149 (by decide +kernel) dX11_number_9 ?_
  rw [show gR 149 (Int32.toNatClampNeg 0) = 150 by decide +kernel]
  refine g_iload_n X (j := 1) dX11_number_10 rfl rfl ?_
  obtain ⟨hg1, h⟩ := grd_e h
  refine g_iald X gT_c150 hg1 dX11_number_11 ?_
  refine g_i2l X dX11_number_12 ?_
  refine g_lmul X dX11_number_13 ?_
  refine g_aload_n X (j := 0) dX11_number_14 rfl rfl ?_
  refine gf_X11_246 X gT_c122 dX11_number_15 ?_
  refine g_aload_n X (j := 0) dX11_number_18 rfl rfl ?_
  refine gf_X11_80 X gT_c122 dX11_number_19 ?_
  refine g_iconst X (v := 1) dX11_number_22 (by decide) ?_
  refine g_aald_28 X gT_c149 (by decide +kernel) dX11_number_23 ?_
  rw [show gR 149 (Int32.toNatClampNeg 1) = 151 by decide +kernel]
  refine g_iload_n X (j := 1) dX11_number_24 rfl rfl ?_
  obtain ⟨hg2, h⟩ := grd_e h
  refine g_iald X gT_c151 hg2 dX11_number_25 ?_
  refine g_i2l X dX11_number_26 ?_
  refine g_lmul X dX11_number_27 ?_
  refine g_ladd X dX11_number_28 ?_
  refine g_aload_n X (j := 0) dX11_number_29 rfl rfl ?_
  refine gf_X11_249 X gT_c122 dX11_number_30 ?_
  refine g_aload_n X (j := 0) dX11_number_33 rfl rfl ?_
  refine gf_X11_80 X gT_c122 dX11_number_34 ?_
  refine g_iconst X (v := 2) dX11_number_37 (by decide) ?_
  refine g_aald_28 X gT_c149 (by decide +kernel) dX11_number_38 ?_
  rw [show gR 149 (Int32.toNatClampNeg 2) = 152 by decide +kernel]
  refine g_iload_n X (j := 1) dX11_number_39 rfl rfl ?_
  obtain ⟨hg3, h⟩ := grd_e h
  refine g_iald X gT_c152 hg3 dX11_number_40 ?_
  refine g_i2l X dX11_number_41 ?_
  refine g_lmul X dX11_number_42 ?_
  refine g_ladd X dX11_number_43 ?_
  refine g_aload_n X (j := 0) dX11_number_44 rfl rfl ?_
  refine gf_X11_237 X gT_c122 dX11_number_45 ?_
  obtain ⟨hg4, h⟩ := grd_e h
  refine g_ldiv X dX11_number_48 (of_decide_eq_true hg4) ?_
  refine g_l2i X dX11_number_49 ?_
  exact hR ((((((gL M 122 34) * ((gI M 150 i0.toNatClampNeg).toInt64)) + ((gL M 122 35) * ((gI M 151 i0.toNatClampNeg).toInt64))) + ((gL M 122 36) * ((gI M 152 i0.toNatClampNeg).toInt64))) / (gL M 122 33)).toInt32) _ _ (Option.some.inj h).symm dX11_number_50
theorem ct_X11_number {l : Launch} {z : GZ} (htr : l.stackTraces = false) {i0 : Int32}  {M : GM} {F : Nat} {v : Int32} (h : f_X11_number F i0 M = some v) : gMet l z yX11_number cX11_number 2 (some .int) 0 [.ref (gad z 122), .int i0] M (some (.int v)) M := gMet_ofI (by decide +kernel) (Nat.le_of_ble_eq_true rfl) htr rfl (fun x X ez el hR => by subst ez; subst el; exact w_X11_number X  (fun v9 lv9 pc9 e9 d9 => by cases e9; exact hR lv9 pc9 d9) h)
theorem dX11_along_0 : decode cX11_along 0 = .ok (.aload_n 0, 1) := by decide +kernel
theorem dX11_along_1 : decode cX11_along 1 = .ok (.getfield 243, 3) := by decide +kernel
theorem dX11_along_4 : decode cX11_along 4 = .ok (.aload_n 0, 1) := by decide +kernel
theorem dX11_along_5 : decode cX11_along 5 = .ok (.getfield 93, 3) := by decide +kernel
theorem dX11_along_8 : decode cX11_along 8 = .ok (.iconst 0, 1) := by decide +kernel
theorem dX11_along_9 : decode cX11_along 9 = .ok (.laload, 1) := by decide +kernel
theorem dX11_along_10 : decode cX11_along 10 = .ok (.lmul, 1) := by decide +kernel
theorem dX11_along_11 : decode cX11_along 11 = .ok (.aload_n 0, 1) := by decide +kernel
theorem dX11_along_12 : decode cX11_along 12 = .ok (.getfield 80, 3) := by decide +kernel
theorem dX11_along_15 : decode cX11_along 15 = .ok (.iconst 0, 1) := by decide +kernel
theorem dX11_along_16 : decode cX11_along 16 = .ok (.aaload, 1) := by decide +kernel
theorem dX11_along_17 : decode cX11_along 17 = .ok (.iload_n 1, 1) := by decide +kernel
theorem dX11_along_18 : decode cX11_along 18 = .ok (.iaload, 1) := by decide +kernel
theorem dX11_along_19 : decode cX11_along 19 = .ok (.i2l, 1) := by decide +kernel
theorem dX11_along_20 : decode cX11_along 20 = .ok (.lmul, 1) := by decide +kernel
theorem dX11_along_21 : decode cX11_along 21 = .ok (.aload_n 0, 1) := by decide +kernel
theorem dX11_along_22 : decode cX11_along 22 = .ok (.getfield 246, 3) := by decide +kernel
theorem dX11_along_25 : decode cX11_along 25 = .ok (.aload_n 0, 1) := by decide +kernel
theorem dX11_along_26 : decode cX11_along 26 = .ok (.getfield 93, 3) := by decide +kernel
theorem dX11_along_29 : decode cX11_along 29 = .ok (.iconst 1, 1) := by decide +kernel
theorem dX11_along_30 : decode cX11_along 30 = .ok (.laload, 1) := by decide +kernel
theorem dX11_along_31 : decode cX11_along 31 = .ok (.lmul, 1) := by decide +kernel
theorem dX11_along_32 : decode cX11_along 32 = .ok (.aload_n 0, 1) := by decide +kernel
theorem dX11_along_33 : decode cX11_along 33 = .ok (.getfield 80, 3) := by decide +kernel
theorem dX11_along_36 : decode cX11_along 36 = .ok (.iconst 1, 1) := by decide +kernel
theorem dX11_along_37 : decode cX11_along 37 = .ok (.aaload, 1) := by decide +kernel
theorem dX11_along_38 : decode cX11_along 38 = .ok (.iload_n 1, 1) := by decide +kernel
theorem dX11_along_39 : decode cX11_along 39 = .ok (.iaload, 1) := by decide +kernel
theorem dX11_along_40 : decode cX11_along 40 = .ok (.i2l, 1) := by decide +kernel
theorem dX11_along_41 : decode cX11_along 41 = .ok (.lmul, 1) := by decide +kernel
theorem dX11_along_42 : decode cX11_along 42 = .ok (.ladd, 1) := by decide +kernel
theorem dX11_along_43 : decode cX11_along 43 = .ok (.aload_n 0, 1) := by decide +kernel
theorem dX11_along_44 : decode cX11_along 44 = .ok (.getfield 249, 3) := by decide +kernel
theorem dX11_along_47 : decode cX11_along 47 = .ok (.aload_n 0, 1) := by decide +kernel
theorem dX11_along_48 : decode cX11_along 48 = .ok (.getfield 93, 3) := by decide +kernel
theorem dX11_along_51 : decode cX11_along 51 = .ok (.iconst 2, 1) := by decide +kernel
theorem dX11_along_52 : decode cX11_along 52 = .ok (.laload, 1) := by decide +kernel
theorem dX11_along_53 : decode cX11_along 53 = .ok (.lmul, 1) := by decide +kernel
theorem dX11_along_54 : decode cX11_along 54 = .ok (.aload_n 0, 1) := by decide +kernel
theorem dX11_along_55 : decode cX11_along 55 = .ok (.getfield 80, 3) := by decide +kernel
theorem dX11_along_58 : decode cX11_along 58 = .ok (.iconst 2, 1) := by decide +kernel
theorem dX11_along_59 : decode cX11_along 59 = .ok (.aaload, 1) := by decide +kernel
theorem dX11_along_60 : decode cX11_along 60 = .ok (.iload_n 1, 1) := by decide +kernel
theorem dX11_along_61 : decode cX11_along 61 = .ok (.iaload, 1) := by decide +kernel
theorem dX11_along_62 : decode cX11_along 62 = .ok (.i2l, 1) := by decide +kernel
theorem dX11_along_63 : decode cX11_along 63 = .ok (.lmul, 1) := by decide +kernel
theorem dX11_along_64 : decode cX11_along 64 = .ok (.ladd, 1) := by decide +kernel
theorem dX11_along_65 : decode cX11_along 65 = .ok (.lstore_n 2, 1) := by decide +kernel
theorem dX11_along_66 : decode cX11_along 66 = .ok (.lload_n 2, 1) := by decide +kernel
theorem dX11_along_67 : decode cX11_along 67 = .ok (.aload_n 0, 1) := by decide +kernel
theorem dX11_along_68 : decode cX11_along 68 = .ok (.getfield 243, 3) := by decide +kernel
theorem dX11_along_71 : decode cX11_along 71 = .ok (.aload_n 0, 1) := by decide +kernel
theorem dX11_along_72 : decode cX11_along 72 = .ok (.getfield 93, 3) := by decide +kernel
theorem dX11_along_75 : decode cX11_along 75 = .ok (.iconst 0, 1) := by decide +kernel
theorem dX11_along_76 : decode cX11_along 76 = .ok (.laload, 1) := by decide +kernel
theorem dX11_along_77 : decode cX11_along 77 = .ok (.lmul, 1) := by decide +kernel
theorem dX11_along_78 : decode cX11_along 78 = .ok (.aload_n 0, 1) := by decide +kernel
theorem dX11_along_79 : decode cX11_along 79 = .ok (.getfield 246, 3) := by decide +kernel
theorem dX11_along_82 : decode cX11_along 82 = .ok (.aload_n 0, 1) := by decide +kernel
theorem dX11_along_83 : decode cX11_along 83 = .ok (.getfield 93, 3) := by decide +kernel
theorem dX11_along_86 : decode cX11_along 86 = .ok (.iconst 1, 1) := by decide +kernel
theorem dX11_along_87 : decode cX11_along 87 = .ok (.laload, 1) := by decide +kernel
theorem dX11_along_88 : decode cX11_along 88 = .ok (.lmul, 1) := by decide +kernel
theorem dX11_along_89 : decode cX11_along 89 = .ok (.ladd, 1) := by decide +kernel
theorem dX11_along_90 : decode cX11_along 90 = .ok (.aload_n 0, 1) := by decide +kernel
theorem dX11_along_91 : decode cX11_along 91 = .ok (.getfield 249, 3) := by decide +kernel
theorem dX11_along_94 : decode cX11_along 94 = .ok (.aload_n 0, 1) := by decide +kernel
theorem dX11_along_95 : decode cX11_along 95 = .ok (.getfield 93, 3) := by decide +kernel
theorem dX11_along_98 : decode cX11_along 98 = .ok (.iconst 2, 1) := by decide +kernel
theorem dX11_along_99 : decode cX11_along 99 = .ok (.laload, 1) := by decide +kernel
theorem dX11_along_100 : decode cX11_along 100 = .ok (.lmul, 1) := by decide +kernel
theorem dX11_along_101 : decode cX11_along 101 = .ok (.ladd, 1) := by decide +kernel
theorem dX11_along_102 : decode cX11_along 102 = .ok (.ldiv, 1) := by decide +kernel
theorem dX11_along_103 : decode cX11_along 103 = .ok (.l2i, 1) := by decide +kernel
theorem dX11_along_104 : decode cX11_along 104 = .ok (.ireturn, 1) := by decide +kernel
def f_X11_along (F : Nat) (i0 : Int32) (M : GM) : Option Int32 := grd (gIn i0 (gN 150)) (grd (gIn i0 (gN 151)) (grd (gIn i0 (gN 152)) (bnd (((((gL M 122 34) * (gL M 156 0)) * ((gI M 150 i0.toNatClampNeg).toInt64)) + (((gL M 122 35) * (gL M 156 1)) * ((gI M 151 i0.toNatClampNeg).toInt64))) + (((gL M 122 36) * (gL M 156 2)) * ((gI M 152 i0.toNatClampNeg).toInt64))) (fun w4 => grd (decide (¬ ((((gL M 122 34) * (gL M 156 0)) + ((gL M 122 35) * (gL M 156 1))) + ((gL M 122 36) * (gL M 156 2))) = 0)) (some ((w4 / ((((gL M 122 34) * (gL M 156 0)) + ((gL M 122 35) * (gL M 156 1))) + ((gL M 122 36) * (gL M 156 2)))).toInt32))))))
set_option maxHeartbeats 4000000 in
set_option maxRecDepth 100000 in
theorem w_X11_along {x : GX} (X : GC x cX11_along 4 RX11 0) {i0 : Int32}  {F : Nat} {M : GM} {r9 : Int32} (hR : ∀ (v9 : Int32) (lv9 : List (Nat × Value)) (pc9 : Nat), r9 = v9 → decode cX11_along pc9 = .ok (.ireturn, 1) → WG x M lv9 pc9 [.int v9]) (h : f_X11_along F i0 M = some r9) : WG x M [(0, .ref (gad (xz x) 122)), (1, .int i0)] 0 [] := by
  unfold f_X11_along at h
  refine g_aload_n X (j := 0) dX11_along_0 rfl rfl ?_
  refine gf_X11_243 X gT_c122 dX11_along_1 ?_
  refine g_aload_n X (j := 0) dX11_along_4 rfl rfl ?_
  refine gf_X11_93 X gT_c122 dX11_along_5 ?_
  refine g_iconst X (v := 0) dX11_along_8 (by decide) ?_
  refine g_lald X gT_c156 (by decide +kernel) dX11_along_9 ?_
  rw [tn_0]
  refine g_lmul X dX11_along_10 ?_
  refine g_aload_n X (j := 0) dX11_along_11 rfl rfl ?_
  refine gf_X11_80 X gT_c122 dX11_along_12 ?_
  refine g_iconst X (v := 0) dX11_along_15 (by decide) ?_
  refine g_aald_28 X gT_c149 (by decide +kernel) dX11_along_16 ?_
  rw [show gR 149 (Int32.toNatClampNeg 0) = 150 by decide +kernel]
  refine g_iload_n X (j := 1) dX11_along_17 rfl rfl ?_
  obtain ⟨hg1, h⟩ := grd_e h
  refine g_iald X gT_c150 hg1 dX11_along_18 ?_
  refine g_i2l X dX11_along_19 ?_
  refine g_lmul X dX11_along_20 ?_
  refine g_aload_n X (j := 0) dX11_along_21 rfl rfl ?_
  refine gf_X11_246 X gT_c122 dX11_along_22 ?_
  refine g_aload_n X (j := 0) dX11_along_25 rfl rfl ?_
  refine gf_X11_93 X gT_c122 dX11_along_26 ?_
  refine g_iconst X (v := 1) dX11_along_29 (by decide) ?_
  refine g_lald X gT_c156 (by decide +kernel) dX11_along_30 ?_
  rw [tn_1]
  refine g_lmul X dX11_along_31 ?_
  refine g_aload_n X (j := 0) dX11_along_32 rfl rfl ?_
  refine gf_X11_80 X gT_c122 dX11_along_33 ?_
  refine g_iconst X (v := 1) dX11_along_36 (by decide) ?_
  refine g_aald_28 X gT_c149 (by decide +kernel) dX11_along_37 ?_
  rw [show gR 149 (Int32.toNatClampNeg 1) = 151 by decide +kernel]
  refine g_iload_n X (j := 1) dX11_along_38 rfl rfl ?_
  obtain ⟨hg2, h⟩ := grd_e h
  refine g_iald X gT_c151 hg2 dX11_along_39 ?_
  refine g_i2l X dX11_along_40 ?_
  refine g_lmul X dX11_along_41 ?_
  refine g_ladd X dX11_along_42 ?_
  refine g_aload_n X (j := 0) dX11_along_43 rfl rfl ?_
  refine gf_X11_249 X gT_c122 dX11_along_44 ?_
  refine g_aload_n X (j := 0) dX11_along_47 rfl rfl ?_
  refine gf_X11_93 X gT_c122 dX11_along_48 ?_
  refine g_iconst X (v := 2) dX11_along_51 (by decide) ?_
  refine g_lald X gT_c156 (by decide +kernel) dX11_along_52 ?_
  rw [tn_2]
  refine g_lmul X dX11_along_53 ?_
  refine g_aload_n X (j := 0) dX11_along_54 rfl rfl ?_
  refine gf_X11_80 X gT_c122 dX11_along_55 ?_
  refine g_iconst X (v := 2) dX11_along_58 (by decide) ?_
  refine g_aald_28 X gT_c149 (by decide +kernel) dX11_along_59 ?_
  rw [show gR 149 (Int32.toNatClampNeg 2) = 152 by decide +kernel]
  refine g_iload_n X (j := 1) dX11_along_60 rfl rfl ?_
  obtain ⟨hg3, h⟩ := grd_e h
  refine g_iald X gT_c152 hg3 dX11_along_61 ?_
  refine g_i2l X dX11_along_62 ?_
  refine g_lmul X dX11_along_63 ?_
  refine g_ladd X dX11_along_64 ?_
  refine g_topl (fun w4 e5 => ?_)
  have h := bnd_e e5 h
  refine g_lstore_n X (lv' := [(2, .long w4), (0, .ref (gad (xz x) 122)), (1, .int i0)]) dX11_along_65 rfl (by decide) rfl ?_
  refine g_lload_n X (j := 0) dX11_along_66 rfl rfl ?_
  refine g_aload_n X (j := 1) dX11_along_67 rfl rfl ?_
  refine gf_X11_243 X gT_c122 dX11_along_68 ?_
  refine g_aload_n X (j := 1) dX11_along_71 rfl rfl ?_
  refine gf_X11_93 X gT_c122 dX11_along_72 ?_
  refine g_iconst X (v := 0) dX11_along_75 (by decide) ?_
  refine g_lald X gT_c156 (by decide +kernel) dX11_along_76 ?_
  rw [tn_0]
  refine g_lmul X dX11_along_77 ?_
  refine g_aload_n X (j := 1) dX11_along_78 rfl rfl ?_
  refine gf_X11_246 X gT_c122 dX11_along_79 ?_
  refine g_aload_n X (j := 1) dX11_along_82 rfl rfl ?_
  refine gf_X11_93 X gT_c122 dX11_along_83 ?_
  refine g_iconst X (v := 1) dX11_along_86 (by decide) ?_
  refine g_lald X gT_c156 (by decide +kernel) dX11_along_87 ?_
  rw [tn_1]
  refine g_lmul X dX11_along_88 ?_
  refine g_ladd X dX11_along_89 ?_
  refine g_aload_n X (j := 1) dX11_along_90 rfl rfl ?_
  refine gf_X11_249 X gT_c122 dX11_along_91 ?_
  refine g_aload_n X (j := 1) dX11_along_94 rfl rfl ?_
  refine gf_X11_93 X gT_c122 dX11_along_95 ?_
  refine g_iconst X (v := 2) dX11_along_98 (by decide) ?_
  refine g_lald X gT_c156 (by decide +kernel) dX11_along_99 ?_
  rw [tn_2]
  refine g_lmul X dX11_along_100 ?_
  refine g_ladd X dX11_along_101 ?_
  obtain ⟨hg6, h⟩ := grd_e h
  refine g_ldiv X dX11_along_102 (of_decide_eq_true hg6) ?_
  refine g_l2i X dX11_along_103 ?_
  exact hR ((w4 / ((((gL M 122 34) * (gL M 156 0)) + ((gL M 122 35) * (gL M 156 1))) + ((gL M 122 36) * (gL M 156 2)))).toInt32) _ _ (Option.some.inj h).symm dX11_along_104
theorem ct_X11_along {l : Launch} {z : GZ} (htr : l.stackTraces = false) {i0 : Int32}  {M : GM} {F : Nat} {v : Int32} (h : f_X11_along F i0 M = some v) : gMet l z yX11_along cX11_along 4 (some .int) 0 [.ref (gad z 122), .int i0] M (some (.int v)) M := gMet_ofI (by decide +kernel) (Nat.le_of_ble_eq_true rfl) htr rfl (fun x X ez el hR => by subst ez; subst el; exact w_X11_along X  (fun v9 lv9 pc9 e9 d9 => by cases e9; exact hR lv9 pc9 d9) h)
theorem dX11_step_0 : decode cX11_step 0 = .ok (.iload_n 2, 1) := by decide +kernel
theorem dX11_step_1 : decode cX11_step 1 = .ok (.sipush 128, 3) := by decide +kernel
theorem dX11_step_4 : decode cX11_step 4 = .ok (.idiv, 1) := by decide +kernel
theorem dX11_step_5 : decode cX11_step 5 = .ok (.istore_n 3, 1) := by decide +kernel
theorem dX11_step_6 : decode cX11_step 6 = .ok (.iload_n 3, 1) := by decide +kernel
theorem dX11_step_7 : decode cX11_step 7 = .ok (.bipush 7, 2) := by decide +kernel
theorem dX11_step_9 : decode cX11_step 9 = .ok (.if_icmp .gt 7, 3) := by decide +kernel
theorem dX11_step_12 : decode cX11_step 12 = .ok (.iload_n 3, 1) := by decide +kernel
theorem dX11_step_13 : decode cX11_step 13 = .ok (.goto 21, 3) := by decide +kernel
theorem dX11_step_16 : decode cX11_step 16 = .ok (.aload_n 0, 1) := by decide +kernel
theorem dX11_step_17 : decode cX11_step 17 = .ok (.getfield 50, 3) := by decide +kernel
theorem dX11_step_20 : decode cX11_step 20 = .ok (.iload_n 1, 1) := by decide +kernel
theorem dX11_step_21 : decode cX11_step 21 = .ok (.baload, 1) := by decide +kernel
theorem dX11_step_22 : decode cX11_step 22 = .ok (.ifCond .eq 10, 3) := by decide +kernel
theorem dX11_step_25 : decode cX11_step 25 = .ok (.iload_n 3, 1) := by decide +kernel
theorem dX11_step_26 : decode cX11_step 26 = .ok (.bipush 8, 2) := by decide +kernel
theorem dX11_step_28 : decode cX11_step 28 = .ok (.irem, 1) := by decide +kernel
theorem dX11_step_29 : decode cX11_step 29 = .ok (.goto 5, 3) := by decide +kernel
theorem dX11_step_32 : decode cX11_step 32 = .ok (.bipush 7, 2) := by decide +kernel
theorem dX11_step_34 : decode cX11_step 34 = .ok (.ireturn, 1) := by decide +kernel
def f_X11_step (F : Nat) (i0 : Int32) (i1 : Int32) (M : GM) : Option Int32 := bnd (i1 / (128 : Int32)) (fun v1 => if (7 : Int32) < v1 then (grd (gIn i0 (gN 136)) (if (gI M 136 i0.toNatClampNeg) = 0 then (some (7 : Int32)) else (some (v1 - v1 / (8 : Int32) * (8 : Int32))))) else (some v1))
set_option maxHeartbeats 4000000 in
set_option maxRecDepth 100000 in
theorem w_X11_step {x : GX} (X : GC x cX11_step 4 RX11 0) {i0 : Int32} {i1 : Int32}  {F : Nat} {M : GM} {r9 : Int32} (hR : ∀ (v9 : Int32) (lv9 : List (Nat × Value)) (pc9 : Nat), r9 = v9 → decode cX11_step pc9 = .ok (.ireturn, 1) → WG x M lv9 pc9 [.int v9]) (h : f_X11_step F i0 i1 M = some r9) : WG x M [(0, .ref (gad (xz x) 122)), (1, .int i0), (2, .int i1)] 0 [] := by
  unfold f_X11_step at h
  refine g_iload_n X (j := 2) dX11_step_0 rfl rfl ?_
  refine g_sipush X (v := 128) dX11_step_1 (by decide) ?_
  refine g_idiv X dX11_step_4 (by decide) ?_
  refine g_topi (fun v1 e2 => ?_)
  have h := bnd_e e2 h
  refine g_istore_n X (lv' := [(3, .int v1), (0, .ref (gad (xz x) 122)), (1, .int i0), (2, .int i1)]) dX11_step_5 rfl (by decide) rfl ?_
  refine g_iload_n X (j := 0) dX11_step_6 rfl rfl ?_
  refine g_bipush X (v := 7) dX11_step_7 (by decide) ?_
  refine g_icmp_gt X (tgt := 16) dX11_step_9 (by decide) (fun hb => ?_) (fun hb => ?_)
  · have h := ite_t hb h
    refine g_aload_n X (j := 1) dX11_step_16 rfl rfl ?_
    refine gf_X11_50 X gT_c122 dX11_step_17 ?_
    refine g_iload_n X (j := 2) dX11_step_20 rfl rfl ?_
    obtain ⟨hg3, h⟩ := grd_e h
    refine g_zald X gT_c136 hg3 dX11_step_21 ?_
    refine g_if_eq X (tgt := 32) dX11_step_22 (by decide) (fun hb => ?_) (fun hb => ?_)
    · have h := ite_t hb h
      refine g_bipush X (v := 7) dX11_step_32 (by decide) ?_
      exact hR (7 : Int32) _ _ (Option.some.inj h).symm dX11_step_34
    · have h := ite_f hb h
      refine g_iload_n X (j := 0) dX11_step_25 rfl rfl ?_
      refine g_bipush X (v := 8) dX11_step_26 (by decide) ?_
      refine g_irem X dX11_step_28 (by decide) ?_
      refine g_goto X (tgt := 34) dX11_step_29 (by decide) ?_
      exact hR (v1 - v1 / (8 : Int32) * (8 : Int32)) _ _ (Option.some.inj h).symm dX11_step_34
  · have h := ite_f hb h
    refine g_iload_n X (j := 0) dX11_step_12 rfl rfl ?_
    refine g_goto X (tgt := 34) dX11_step_13 (by decide) ?_
    exact hR v1 _ _ (Option.some.inj h).symm dX11_step_34
theorem ct_X11_step {l : Launch} {z : GZ} (htr : l.stackTraces = false) {i0 : Int32} {i1 : Int32}  {M : GM} {F : Nat} {v : Int32} (h : f_X11_step F i0 i1 M = some v) : gMet l z yX11_step cX11_step 4 (some .int) 0 [.ref (gad z 122), .int i0, .int i1] M (some (.int v)) M := gMet_ofI (by decide +kernel) (Nat.le_of_ble_eq_true rfl) htr rfl (fun x X ez el hR => by subst ez; subst el; exact w_X11_step X  (fun v9 lv9 pc9 e9 d9 => by cases e9; exact hR lv9 pc9 d9) h)
theorem gc_X11_256 {x : GX} {cc : ByteArray} {nL d pc : Nat} {M : GM} {lv : List (Nat × Value)} {st : List Value} (X : GC x cc nL RX11 d) {i0 : Int32} {M1 : GM} {r : Int32} (ht : gT 122 = 11) (hM : gMet (xl x) (xz x) yX11_number cX11_number 2 (some .int) 0 [.ref (gad (xz x) 122), .int i0] M (some (.int r)) M1) (hd : 1 ≤ d) (hsum : (st.map fun v => v.category).sum ≤ 8) (dec : decode cc pc = .ok (.invokevirtual 256, 3)) (go : WG x M1 lv (pc + 3) (.int r :: st)) : WG x M lv pc (.int i0 :: .ref (gad (xz x) 122) :: st) := g_callV X (n := 1) (As := [.int i0]) (rest := st) hM ht (by decide) (gE_11 ht) rfl q_1432 q_1434 q_42 q_63 q_1435 (by decide +kernel) rfl hd (by decide) rfl hsum dec go
theorem gc_X11_259 {x : GX} {cc : ByteArray} {nL d pc : Nat} {M : GM} {lv : List (Nat × Value)} {st : List Value} (X : GC x cc nL RX11 d) {i0 : Int32} {i1 : Int32} {i2 : Int32} {M1 : GM} {r : Int32} (hM : gMet (xl x) (xz x) yX11_mixed cX11_mixed 3 (some .int) 0 [.int i0, .int i1, .int i2] M (some (.int r)) M1) (hd : 1 ≤ d) (hsum : (st.map fun v => v.category).sum ≤ 8) (dec : decode cc pc = .ok (.invokestatic 259, 3)) (go : WG x M1 lv (pc + 3) (.int r :: st)) : WG x M lv pc (.int i2 :: .int i1 :: .int i0 :: st) := g_callS X (n := 3) (As := [.int i0, .int i1, .int i2]) (rest := st) hM q_1329 q_1330 q_63 q_1331 (by decide +kernel) rfl hd (by decide) rfl hsum dec go
theorem gc_X11_263 {x : GX} {cc : ByteArray} {nL d pc : Nat} {M : GM} {lv : List (Nat × Value)} {st : List Value} (X : GC x cc nL RX11 d) {i0 : Int32} {M1 : GM} {r : Int32} (ht : gT 122 = 11) (hM : gMet (xl x) (xz x) yX11_along cX11_along 4 (some .int) 0 [.ref (gad (xz x) 122), .int i0] M (some (.int r)) M1) (hd : 1 ≤ d) (hsum : (st.map fun v => v.category).sum ≤ 8) (dec : decode cc pc = .ok (.invokevirtual 263, 3)) (go : WG x M1 lv (pc + 3) (.int r :: st)) : WG x M lv pc (.int i0 :: .ref (gad (xz x) 122) :: st) := g_callV X (n := 1) (As := [.int i0]) (rest := st) hM ht (by decide) (gE_11 ht) rfl q_1436 q_1438 q_43 q_63 q_1439 (by decide +kernel) rfl hd (by decide) rfl hsum dec go
theorem gc_X11_266 {x : GX} {cc : ByteArray} {nL d pc : Nat} {M : GM} {lv : List (Nat × Value)} {st : List Value} (X : GC x cc nL RX11 d) {i0 : Int32} {i1 : Int32} {M1 : GM} {r : Int32} (ht : gT 122 = 11) (hM : gMet (xl x) (xz x) yX11_step cX11_step 4 (some .int) 0 [.ref (gad (xz x) 122), .int i0, .int i1] M (some (.int r)) M1) (hd : 1 ≤ d) (hsum : (st.map fun v => v.category).sum ≤ 8) (dec : decode cc pc = .ok (.invokevirtual 266, 3)) (go : WG x M1 lv (pc + 3) (.int r :: st)) : WG x M lv pc (.int i1 :: .int i0 :: .ref (gad (xz x) 122) :: st) := g_callV X (n := 2) (As := [.int i0, .int i1]) (rest := st) hM ht (by decide) (gE_11 ht) rfl q_1440 q_1442 q_44 q_63 q_1443 (by decide +kernel) rfl hd (by decide) rfl hsum dec go
theorem dX11_colourHere_0 : decode cX11_colourHere 0 = .ok (.aload_n 0, 1) := by decide +kernel
theorem dX11_colourHere_1 : decode cX11_colourHere 1 = .ok (.iconst 5, 1) := by decide +kernel
theorem dX11_colourHere_2 : decode cX11_colourHere 2 = .ok (.invokevirtual 256, 3) := by decide +kernel
theorem dX11_colourHere_5 : decode cX11_colourHere 5 = .ok (.istore_n 2, 1) := by decide +kernel
theorem dX11_colourHere_6 : decode cX11_colourHere 6 = .ok (.aload_n 0, 1) := by decide +kernel
theorem dX11_colourHere_7 : decode cX11_colourHere 7 = .ok (.bipush 6, 2) := by decide +kernel
theorem dX11_colourHere_9 : decode cX11_colourHere 9 = .ok (.invokevirtual 256, 3) := by decide +kernel
theorem dX11_colourHere_12 : decode cX11_colourHere 12 = .ok (.istore_n 3, 1) := by decide +kernel
theorem dX11_colourHere_13 : decode cX11_colourHere 13 = .ok (.aload_n 0, 1) := by decide +kernel
theorem dX11_colourHere_14 : decode cX11_colourHere 14 = .ok (.bipush 7, 2) := by decide +kernel
theorem dX11_colourHere_16 : decode cX11_colourHere 16 = .ok (.invokevirtual 256, 3) := by decide +kernel
theorem dX11_colourHere_19 : decode cX11_colourHere 19 = .ok (.istore 4, 2) := by decide +kernel
theorem dX11_colourHere_21 : decode cX11_colourHere 21 = .ok (.aload_n 0, 1) := by decide +kernel
theorem dX11_colourHere_22 : decode cX11_colourHere 22 = .ok (.getfield 34, 3) := by decide +kernel
theorem dX11_colourHere_25 : decode cX11_colourHere 25 = .ok (.iload_n 1, 1) := by decide +kernel
theorem dX11_colourHere_26 : decode cX11_colourHere 26 = .ok (.iaload, 1) := by decide +kernel
theorem dX11_colourHere_27 : decode cX11_colourHere 27 = .ok (.istore 5, 2) := by decide +kernel
theorem dX11_colourHere_29 : decode cX11_colourHere 29 = .ok (.iload 5, 2) := by decide +kernel
theorem dX11_colourHere_31 : decode cX11_colourHere 31 = .ok (.iconst (-1), 1) := by decide +kernel
theorem dX11_colourHere_32 : decode cX11_colourHere 32 = .ok (.if_icmp .ne 11, 3) := by decide +kernel
theorem dX11_colourHere_35 : decode cX11_colourHere 35 = .ok (.iload_n 2, 1) := by decide +kernel
theorem dX11_colourHere_36 : decode cX11_colourHere 36 = .ok (.iload_n 3, 1) := by decide +kernel
theorem dX11_colourHere_37 : decode cX11_colourHere 37 = .ok (.iload 4, 2) := by decide +kernel
theorem dX11_colourHere_39 : decode cX11_colourHere 39 = .ok (.invokestatic 259, 3) := by decide +kernel
theorem dX11_colourHere_42 : decode cX11_colourHere 42 = .ok (.ireturn, 1) := by decide +kernel
theorem dX11_colourHere_43 : decode cX11_colourHere 43 = .ok (.aload_n 0, 1) := by decide +kernel
theorem dX11_colourHere_44 : decode cX11_colourHere 44 = .ok (.getfield 47, 3) := by decide +kernel
theorem dX11_colourHere_47 : decode cX11_colourHere 47 = .ok (.iload 5, 2) := by decide +kernel
theorem dX11_colourHere_49 : decode cX11_colourHere 49 = .ok (.bipush 8, 2) := by decide +kernel
theorem dX11_colourHere_51 : decode cX11_colourHere 51 = .ok (.imul, 1) := by decide +kernel
theorem dX11_colourHere_52 : decode cX11_colourHere 52 = .ok (.aload_n 0, 1) := by decide +kernel
theorem dX11_colourHere_53 : decode cX11_colourHere 53 = .ok (.iload 5, 2) := by decide +kernel
theorem dX11_colourHere_55 : decode cX11_colourHere 55 = .ok (.aload_n 0, 1) := by decide +kernel
theorem dX11_colourHere_56 : decode cX11_colourHere 56 = .ok (.iconst 4, 1) := by decide +kernel
theorem dX11_colourHere_57 : decode cX11_colourHere 57 = .ok (.invokevirtual 263, 3) := by decide +kernel
theorem dX11_colourHere_60 : decode cX11_colourHere 60 = .ok (.invokevirtual 266, 3) := by decide +kernel
theorem dX11_colourHere_63 : decode cX11_colourHere 63 = .ok (.iadd, 1) := by decide +kernel
theorem dX11_colourHere_64 : decode cX11_colourHere 64 = .ok (.bipush 8, 2) := by decide +kernel
theorem dX11_colourHere_66 : decode cX11_colourHere 66 = .ok (.imul, 1) := by decide +kernel
theorem dX11_colourHere_67 : decode cX11_colourHere 67 = .ok (.aload_n 0, 1) := by decide +kernel
theorem dX11_colourHere_68 : decode cX11_colourHere 68 = .ok (.iload 5, 2) := by decide +kernel
theorem dX11_colourHere_70 : decode cX11_colourHere 70 = .ok (.aload_n 0, 1) := by decide +kernel
theorem dX11_colourHere_71 : decode cX11_colourHere 71 = .ok (.iconst 3, 1) := by decide +kernel
theorem dX11_colourHere_72 : decode cX11_colourHere 72 = .ok (.invokevirtual 263, 3) := by decide +kernel
theorem dX11_colourHere_75 : decode cX11_colourHere 75 = .ok (.invokevirtual 266, 3) := by decide +kernel
theorem dX11_colourHere_78 : decode cX11_colourHere 78 = .ok (.iadd, 1) := by decide +kernel
theorem dX11_colourHere_79 : decode cX11_colourHere 79 = .ok (.iaload, 1) := by decide +kernel
theorem dX11_colourHere_80 : decode cX11_colourHere 80 = .ok (.istore 6, 2) := by decide +kernel
theorem dX11_colourHere_82 : decode cX11_colourHere 82 = .ok (.iload 6, 2) := by decide +kernel
theorem dX11_colourHere_84 : decode cX11_colourHere 84 = .ok (.invokestatic 170, 3) := by decide +kernel
theorem dX11_colourHere_87 : decode cX11_colourHere 87 = .ok (.iload_n 2, 1) := by decide +kernel
theorem dX11_colourHere_88 : decode cX11_colourHere 88 = .ok (.imul, 1) := by decide +kernel
theorem dX11_colourHere_89 : decode cX11_colourHere 89 = .ok (.sipush 255, 3) := by decide +kernel
theorem dX11_colourHere_92 : decode cX11_colourHere 92 = .ok (.idiv, 1) := by decide +kernel
theorem dX11_colourHere_93 : decode cX11_colourHere 93 = .ok (.iload 6, 2) := by decide +kernel
theorem dX11_colourHere_95 : decode cX11_colourHere 95 = .ok (.invokestatic 173, 3) := by decide +kernel
theorem dX11_colourHere_98 : decode cX11_colourHere 98 = .ok (.iload_n 3, 1) := by decide +kernel
theorem dX11_colourHere_99 : decode cX11_colourHere 99 = .ok (.imul, 1) := by decide +kernel
theorem dX11_colourHere_100 : decode cX11_colourHere 100 = .ok (.sipush 255, 3) := by decide +kernel
theorem dX11_colourHere_103 : decode cX11_colourHere 103 = .ok (.idiv, 1) := by decide +kernel
theorem dX11_colourHere_104 : decode cX11_colourHere 104 = .ok (.iload 6, 2) := by decide +kernel
theorem dX11_colourHere_106 : decode cX11_colourHere 106 = .ok (.invokestatic 176, 3) := by decide +kernel
theorem dX11_colourHere_109 : decode cX11_colourHere 109 = .ok (.iload 4, 2) := by decide +kernel
theorem dX11_colourHere_111 : decode cX11_colourHere 111 = .ok (.imul, 1) := by decide +kernel
theorem dX11_colourHere_112 : decode cX11_colourHere 112 = .ok (.sipush 255, 3) := by decide +kernel
theorem dX11_colourHere_115 : decode cX11_colourHere 115 = .ok (.idiv, 1) := by decide +kernel
theorem dX11_colourHere_116 : decode cX11_colourHere 116 = .ok (.invokestatic 259, 3) := by decide +kernel
theorem dX11_colourHere_119 : decode cX11_colourHere 119 = .ok (.ireturn, 1) := by decide +kernel
def f_X11_colourHere (F : Nat) (i0 : Int32) (M : GM) : Option Int32 := bndO (f_X11_number F (5 : Int32) M) (fun v2 => bnd v2 (fun v3 => bndO (f_X11_number F (6 : Int32) M) (fun v6 => bnd v6 (fun v7 => bndO (f_X11_number F (7 : Int32) M) (fun v10 => bnd v10 (fun v11 => grd (gIn i0 (gN 131)) (bnd (gI M 131 i0.toNatClampNeg) (fun v14 => if v14 = ((-1) : Int32) then (some (f_X11_mixed v3 v7 v11)) else (bndO (f_X11_along F (4 : Int32) M) (fun v17 => bndO (f_X11_step F v14 v17 M) (fun v19 => bndO (f_X11_along F (3 : Int32) M) (fun v21 => bndO (f_X11_step F v14 v21 M) (fun v23 => grd (gIn ((((v14 * (8 : Int32)) + v19) * (8 : Int32)) + v23) (gN 135)) (bnd (gI M 135 (((((v14 * (8 : Int32)) + v19) * (8 : Int32)) + v23).toNatClampNeg)) (fun v25 => some (f_X11_mixed (((f_X11_red v25) * v3) / (255 : Int32)) (((f_X11_green v25) * v7) / (255 : Int32)) (((f_X11_blue v25) * v11) / (255 : Int32))))))))))))))))))
set_option maxHeartbeats 4000000 in
set_option maxRecDepth 100000 in
theorem w_X11_colourHere {x : GX} (X : GC x cX11_colourHere 7 RX11 1) {i0 : Int32}  {F : Nat} {M : GM} {r9 : Int32} (hR : ∀ (v9 : Int32) (lv9 : List (Nat × Value)) (pc9 : Nat), r9 = v9 → decode cX11_colourHere pc9 = .ok (.ireturn, 1) → WG x M lv9 pc9 [.int v9]) (h : f_X11_colourHere F i0 M = some r9) : WG x M [(0, .ref (gad (xz x) 122)), (1, .int i0)] 0 [] := by
  unfold f_X11_colourHere at h
  refine g_aload_n X (j := 0) dX11_colourHere_0 rfl rfl ?_
  refine g_iconst X (v := 5) dX11_colourHere_1 (by decide) ?_
  obtain ⟨v2, hc1, h⟩ := bndO_e h
  refine gc_X11_256 X gT_c122 (ct_X11_number X.htr  hc1) (by decide) (Nat.le_of_ble_eq_true rfl) dX11_colourHere_2 ?_
  refine g_topi (fun v3 e4 => ?_)
  have h := bnd_e e4 h
  refine g_istore_n X (lv' := [(2, .int v3), (0, .ref (gad (xz x) 122)), (1, .int i0)]) dX11_colourHere_5 rfl (by decide) rfl ?_
  refine g_aload_n X (j := 1) dX11_colourHere_6 rfl rfl ?_
  refine g_bipush X (v := 6) dX11_colourHere_7 (by decide) ?_
  obtain ⟨v6, hc5, h⟩ := bndO_e h
  refine gc_X11_256 X gT_c122 (ct_X11_number X.htr  hc5) (by decide) (Nat.le_of_ble_eq_true rfl) dX11_colourHere_9 ?_
  refine g_topi (fun v7 e8 => ?_)
  have h := bnd_e e8 h
  refine g_istore_n X (lv' := [(3, .int v7), (2, .int v3), (0, .ref (gad (xz x) 122)), (1, .int i0)]) dX11_colourHere_12 rfl (by decide) rfl ?_
  refine g_aload_n X (j := 2) dX11_colourHere_13 rfl rfl ?_
  refine g_bipush X (v := 7) dX11_colourHere_14 (by decide) ?_
  obtain ⟨v10, hc9, h⟩ := bndO_e h
  refine gc_X11_256 X gT_c122 (ct_X11_number X.htr  hc9) (by decide) (Nat.le_of_ble_eq_true rfl) dX11_colourHere_16 ?_
  refine g_topi (fun v11 e12 => ?_)
  have h := bnd_e e12 h
  refine g_istore X (lv' := [(4, .int v11), (3, .int v7), (2, .int v3), (0, .ref (gad (xz x) 122)), (1, .int i0)]) dX11_colourHere_19 (by decide) rfl ?_
  refine g_aload_n X (j := 3) dX11_colourHere_21 rfl rfl ?_
  refine gf_X11_34 X gT_c122 dX11_colourHere_22 ?_
  refine g_iload_n X (j := 4) dX11_colourHere_25 rfl rfl ?_
  obtain ⟨hg13, h⟩ := grd_e h
  refine g_iald X gT_c131 hg13 dX11_colourHere_26 ?_
  refine g_topi (fun v14 e15 => ?_)
  have h := bnd_e e15 h
  refine g_istore X (lv' := [(5, .int v14), (4, .int v11), (3, .int v7), (2, .int v3), (0, .ref (gad (xz x) 122)), (1, .int i0)]) dX11_colourHere_27 (by decide) rfl ?_
  refine g_iload X (j := 0) dX11_colourHere_29 rfl ?_
  refine g_iconst X (v := (-1)) dX11_colourHere_31 (by decide) ?_
  refine g_icmp_ne X (tgt := 43) dX11_colourHere_32 (by decide) (fun hb => ?_) (fun hb => ?_)
  · have h := ite_f hb h
    refine g_aload_n X (j := 4) dX11_colourHere_43 rfl rfl ?_
    refine gf_X11_47 X gT_c122 dX11_colourHere_44 ?_
    refine g_iload X (j := 0) dX11_colourHere_47 rfl ?_
    refine g_bipush X (v := 8) dX11_colourHere_49 (by decide) ?_
    refine g_imul X dX11_colourHere_51 ?_
    refine g_aload_n X (j := 4) dX11_colourHere_52 rfl rfl ?_
    refine g_iload X (j := 0) dX11_colourHere_53 rfl ?_
    refine g_aload_n X (j := 4) dX11_colourHere_55 rfl rfl ?_
    refine g_iconst X (v := 4) dX11_colourHere_56 (by decide) ?_
    obtain ⟨v17, hc16, h⟩ := bndO_e h
    refine gc_X11_263 X gT_c122 (ct_X11_along X.htr  hc16) (by decide) (Nat.le_of_ble_eq_true rfl) dX11_colourHere_57 ?_
    obtain ⟨v19, hc18, h⟩ := bndO_e h
    refine gc_X11_266 X gT_c122 (ct_X11_step X.htr  hc18) (by decide) (Nat.le_of_ble_eq_true rfl) dX11_colourHere_60 ?_
    refine g_iadd X dX11_colourHere_63 ?_
    refine g_bipush X (v := 8) dX11_colourHere_64 (by decide) ?_
    refine g_imul X dX11_colourHere_66 ?_
    refine g_aload_n X (j := 4) dX11_colourHere_67 rfl rfl ?_
    refine g_iload X (j := 0) dX11_colourHere_68 rfl ?_
    refine g_aload_n X (j := 4) dX11_colourHere_70 rfl rfl ?_
    refine g_iconst X (v := 3) dX11_colourHere_71 (by decide) ?_
    obtain ⟨v21, hc20, h⟩ := bndO_e h
    refine gc_X11_263 X gT_c122 (ct_X11_along X.htr  hc20) (by decide) (Nat.le_of_ble_eq_true rfl) dX11_colourHere_72 ?_
    obtain ⟨v23, hc22, h⟩ := bndO_e h
    refine gc_X11_266 X gT_c122 (ct_X11_step X.htr  hc22) (by decide) (Nat.le_of_ble_eq_true rfl) dX11_colourHere_75 ?_
    refine g_iadd X dX11_colourHere_78 ?_
    obtain ⟨hg24, h⟩ := grd_e h
    refine g_iald X gT_c135 hg24 dX11_colourHere_79 ?_
    refine g_topi (fun v25 e26 => ?_)
    have h := bnd_e e26 h
    refine g_istore X (lv' := [(6, .int v25), (5, .int v14), (4, .int v11), (3, .int v7), (2, .int v3), (0, .ref (gad (xz x) 122)), (1, .int i0)]) dX11_colourHere_80 (by decide) rfl ?_
    refine g_iload X (j := 0) dX11_colourHere_82 rfl ?_
    refine gc_X11_170 X (ct_X11_red X.htr ) (by decide) (Nat.le_of_ble_eq_true rfl) dX11_colourHere_84 ?_
    refine g_iload_n X (j := 4) dX11_colourHere_87 rfl rfl ?_
    refine g_imul X dX11_colourHere_88 ?_
    refine g_sipush X (v := 255) dX11_colourHere_89 (by decide) ?_
    refine g_idiv X dX11_colourHere_92 (by decide) ?_
    refine g_iload X (j := 0) dX11_colourHere_93 rfl ?_
    refine gc_X11_173 X (ct_X11_green X.htr ) (by decide) (Nat.le_of_ble_eq_true rfl) dX11_colourHere_95 ?_
    refine g_iload_n X (j := 3) dX11_colourHere_98 rfl rfl ?_
    refine g_imul X dX11_colourHere_99 ?_
    refine g_sipush X (v := 255) dX11_colourHere_100 (by decide) ?_
    refine g_idiv X dX11_colourHere_103 (by decide) ?_
    refine g_iload X (j := 0) dX11_colourHere_104 rfl ?_
    refine gc_X11_176 X (ct_X11_blue X.htr ) (by decide) (Nat.le_of_ble_eq_true rfl) dX11_colourHere_106 ?_
    refine g_iload X (j := 2) dX11_colourHere_109 rfl ?_
    refine g_imul X dX11_colourHere_111 ?_
    refine g_sipush X (v := 255) dX11_colourHere_112 (by decide) ?_
    refine g_idiv X dX11_colourHere_115 (by decide) ?_
    refine gc_X11_259 X (ct_X11_mixed X.htr ) (by decide) (Nat.le_of_ble_eq_true rfl) dX11_colourHere_116 ?_
    exact hR (f_X11_mixed (((f_X11_red v25) * v3) / (255 : Int32)) (((f_X11_green v25) * v7) / (255 : Int32)) (((f_X11_blue v25) * v11) / (255 : Int32))) _ _ (Option.some.inj h).symm dX11_colourHere_119
  · have h := ite_t hb h
    refine g_iload_n X (j := 3) dX11_colourHere_35 rfl rfl ?_
    refine g_iload_n X (j := 2) dX11_colourHere_36 rfl rfl ?_
    refine g_iload X (j := 1) dX11_colourHere_37 rfl ?_
    refine gc_X11_259 X (ct_X11_mixed X.htr ) (by decide) (Nat.le_of_ble_eq_true rfl) dX11_colourHere_39 ?_
    exact hR (f_X11_mixed v3 v7 v11) _ _ (Option.some.inj h).symm dX11_colourHere_42
theorem ct_X11_colourHere {l : Launch} {z : GZ} (htr : l.stackTraces = false) {i0 : Int32}  {M : GM} {F : Nat} {v : Int32} (h : f_X11_colourHere F i0 M = some v) : gMet l z yX11_colourHere cX11_colourHere 7 (some .int) 1 [.ref (gad z 122), .int i0] M (some (.int v)) M := gMet_ofI (by decide +kernel) (Nat.le_of_ble_eq_true rfl) htr rfl (fun x X ez el hR => by subst ez; subst el; exact w_X11_colourHere X  (fun v9 lv9 pc9 e9 d9 => by cases e9; exact hR lv9 pc9 d9) h)
