/-! 22.smake: methods of the law -/
theorem gc_X11_78 {x : GX} {cc : ByteArray} {nL d pc : Nat} {M : GM} {lv : List (Nat × Value)} {st : List Value} (X : GC x cc nL RX11 d) {i0 : Int32} {i1 : Int32} {i2 : Int32} {i3 : Int32} {i4 : Int32} {i5 : Int32} {M1 : GM} {r : Int32} (ht : gT 0 = 10) (hM : gMet (xl x) (xz x) yX10_addCorner cX10_addCorner 9 (some .int) 7 [.ref (gad (xz x) 0), .int i0, .int i1, .int i2, .int i3, .int i4, .int i5] M (some (.int r)) M1) (hd : 8 ≤ d) (hsum : (st.map fun v => v.category).sum ≤ 8) (dec : decode cc pc = .ok (.invokevirtual 78, 3)) (go : WG x M1 lv (pc + 3) (.int r :: st)) : WG x M lv pc (.int i5 :: .int i4 :: .int i3 :: .int i2 :: .int i1 :: .int i0 :: .ref (gad (xz x) 0) :: st) := g_callV X (n := 6) (As := [.int i0, .int i1, .int i2, .int i3, .int i4, .int i5]) (rest := st) hM ht (by decide) (gE_10 ht) rfl q_904 q_905 q_906 q_17 q_907 (by decide +kernel) rfl hd (by decide) rfl hsum dec go
theorem gx_X11_78 {x : GX} {cc : ByteArray} {nL d pc : Nat} {M : GM} {lv : List (Nat × Value)} {st : List Value} (X : GC x cc nL RX11 d) {i0 : Int32} {i1 : Int32} {i2 : Int32} {i3 : Int32} {i4 : Int32} {i5 : Int32} {M1 : GM} {n9 : Nat} (ht : gT 0 = 10) (hM : gMetX (xl x) (xz x) yX10_addCorner cX10_addCorner 9 (some .int) 7 [.ref (gad (xz x) 0), .int i0, .int i1, .int i2, .int i3, .int i4, .int i5] M n9 M1) (hd : 8 ≤ d) (hsum : (st.map fun v => v.category).sum ≤ 8) (dec : decode cc pc = .ok (.invokevirtual 78, 3)) (hT : GThr x n9 M1) : WG x M lv pc (.int i5 :: .int i4 :: .int i3 :: .int i2 :: .int i1 :: .int i0 :: .ref (gad (xz x) 0) :: st) := g_xV X (n := 6) (As := [.int i0, .int i1, .int i2, .int i3, .int i4, .int i5]) (rest := st) hM ht (by decide) (gE_10 ht) rfl q_904 q_905 q_906 q_17 q_907 (by decide +kernel) rfl hd (by decide) rfl hsum dec hT
theorem dX11_addCorner_0 : decode cX11_addCorner 0 = .ok (.bipush 6, 2) := by decide +kernel
theorem dX11_addCorner_2 : decode cX11_addCorner 2 = .ok (.newarray .int, 2) := by decide +kernel
theorem dX11_addCorner_4 : decode cX11_addCorner 4 = .ok (.dup, 1) := by decide +kernel
theorem dX11_addCorner_5 : decode cX11_addCorner 5 = .ok (.iconst 0, 1) := by decide +kernel
theorem dX11_addCorner_6 : decode cX11_addCorner 6 = .ok (.aload_n 0, 1) := by decide +kernel
theorem dX11_addCorner_7 : decode cX11_addCorner 7 = .ok (.sipush (-400), 3) := by decide +kernel
theorem dX11_addCorner_10 : decode cX11_addCorner 10 = .ok (.sipush 400, 3) := by decide +kernel
theorem dX11_addCorner_13 : decode cX11_addCorner 13 = .ok (.invokevirtual 68, 3) := by decide +kernel
theorem dX11_addCorner_16 : decode cX11_addCorner 16 = .ok (.iastore, 1) := by decide +kernel
theorem dX11_addCorner_17 : decode cX11_addCorner 17 = .ok (.dup, 1) := by decide +kernel
theorem dX11_addCorner_18 : decode cX11_addCorner 18 = .ok (.iconst 1, 1) := by decide +kernel
theorem dX11_addCorner_19 : decode cX11_addCorner 19 = .ok (.aload_n 0, 1) := by decide +kernel
theorem dX11_addCorner_20 : decode cX11_addCorner 20 = .ok (.sipush (-300), 3) := by decide +kernel
theorem dX11_addCorner_23 : decode cX11_addCorner 23 = .ok (.sipush 300, 3) := by decide +kernel
theorem dX11_addCorner_26 : decode cX11_addCorner 26 = .ok (.invokevirtual 68, 3) := by decide +kernel
theorem dX11_addCorner_29 : decode cX11_addCorner 29 = .ok (.iastore, 1) := by decide +kernel
theorem dX11_addCorner_30 : decode cX11_addCorner 30 = .ok (.dup, 1) := by decide +kernel
theorem dX11_addCorner_31 : decode cX11_addCorner 31 = .ok (.iconst 2, 1) := by decide +kernel
theorem dX11_addCorner_32 : decode cX11_addCorner 32 = .ok (.aload_n 0, 1) := by decide +kernel
theorem dX11_addCorner_33 : decode cX11_addCorner 33 = .ok (.iconst 5, 1) := by decide +kernel
theorem dX11_addCorner_34 : decode cX11_addCorner 34 = .ok (.invokevirtual 64, 3) := by decide +kernel
theorem dX11_addCorner_37 : decode cX11_addCorner 37 = .ok (.ifCond .ne 16, 3) := by decide +kernel
theorem dX11_addCorner_40 : decode cX11_addCorner 40 = .ok (.aload_n 0, 1) := by decide +kernel
theorem dX11_addCorner_41 : decode cX11_addCorner 41 = .ok (.sipush (-900), 3) := by decide +kernel
theorem dX11_addCorner_44 : decode cX11_addCorner 44 = .ok (.sipush (-300), 3) := by decide +kernel
theorem dX11_addCorner_47 : decode cX11_addCorner 47 = .ok (.invokevirtual 68, 3) := by decide +kernel
theorem dX11_addCorner_50 : decode cX11_addCorner 50 = .ok (.goto 13, 3) := by decide +kernel
theorem dX11_addCorner_53 : decode cX11_addCorner 53 = .ok (.aload_n 0, 1) := by decide +kernel
theorem dX11_addCorner_54 : decode cX11_addCorner 54 = .ok (.sipush (-300), 3) := by decide +kernel
theorem dX11_addCorner_57 : decode cX11_addCorner 57 = .ok (.sipush 700, 3) := by decide +kernel
theorem dX11_addCorner_60 : decode cX11_addCorner 60 = .ok (.invokevirtual 68, 3) := by decide +kernel
theorem dX11_addCorner_63 : decode cX11_addCorner 63 = .ok (.iastore, 1) := by decide +kernel
theorem dX11_addCorner_64 : decode cX11_addCorner 64 = .ok (.dup, 1) := by decide +kernel
theorem dX11_addCorner_65 : decode cX11_addCorner 65 = .ok (.iconst 3, 1) := by decide +kernel
theorem dX11_addCorner_66 : decode cX11_addCorner 66 = .ok (.aload_n 0, 1) := by decide +kernel
theorem dX11_addCorner_67 : decode cX11_addCorner 67 = .ok (.invokevirtual 71, 3) := by decide +kernel
theorem dX11_addCorner_70 : decode cX11_addCorner 70 = .ok (.iastore, 1) := by decide +kernel
theorem dX11_addCorner_71 : decode cX11_addCorner 71 = .ok (.dup, 1) := by decide +kernel
theorem dX11_addCorner_72 : decode cX11_addCorner 72 = .ok (.iconst 4, 1) := by decide +kernel
theorem dX11_addCorner_73 : decode cX11_addCorner 73 = .ok (.aload_n 0, 1) := by decide +kernel
theorem dX11_addCorner_74 : decode cX11_addCorner 74 = .ok (.sipush 2048, 3) := by decide +kernel
theorem dX11_addCorner_77 : decode cX11_addCorner 77 = .ok (.invokevirtual 64, 3) := by decide +kernel
theorem dX11_addCorner_80 : decode cX11_addCorner 80 = .ok (.iastore, 1) := by decide +kernel
theorem dX11_addCorner_81 : decode cX11_addCorner 81 = .ok (.dup, 1) := by decide +kernel
theorem dX11_addCorner_82 : decode cX11_addCorner 82 = .ok (.iconst 5, 1) := by decide +kernel
theorem dX11_addCorner_83 : decode cX11_addCorner 83 = .ok (.aload_n 0, 1) := by decide +kernel
theorem dX11_addCorner_84 : decode cX11_addCorner 84 = .ok (.sipush 2048, 3) := by decide +kernel
theorem dX11_addCorner_87 : decode cX11_addCorner 87 = .ok (.invokevirtual 64, 3) := by decide +kernel
theorem dX11_addCorner_90 : decode cX11_addCorner 90 = .ok (.iastore, 1) := by decide +kernel
theorem dX11_addCorner_91 : decode cX11_addCorner 91 = .ok (.astore_n 1, 1) := by decide +kernel
theorem dX11_addCorner_92 : decode cX11_addCorner 92 = .ok (.aload_n 0, 1) := by decide +kernel
theorem dX11_addCorner_93 : decode cX11_addCorner 93 = .ok (.getfield 18, 3) := by decide +kernel
theorem dX11_addCorner_96 : decode cX11_addCorner 96 = .ok (.aload_n 0, 1) := by decide +kernel
theorem dX11_addCorner_97 : decode cX11_addCorner 97 = .ok (.getfield 75, 3) := by decide +kernel
theorem dX11_addCorner_100 : decode cX11_addCorner 100 = .ok (.aload_n 1, 1) := by decide +kernel
theorem dX11_addCorner_101 : decode cX11_addCorner 101 = .ok (.aastore, 1) := by decide +kernel
theorem dX11_addCorner_102 : decode cX11_addCorner 102 = .ok (.aload_n 0, 1) := by decide +kernel
theorem dX11_addCorner_103 : decode cX11_addCorner 103 = .ok (.dup, 1) := by decide +kernel
theorem dX11_addCorner_104 : decode cX11_addCorner 104 = .ok (.getfield 75, 3) := by decide +kernel
theorem dX11_addCorner_107 : decode cX11_addCorner 107 = .ok (.iconst 1, 1) := by decide +kernel
theorem dX11_addCorner_108 : decode cX11_addCorner 108 = .ok (.iadd, 1) := by decide +kernel
theorem dX11_addCorner_109 : decode cX11_addCorner 109 = .ok (.putfield 75, 3) := by decide +kernel
theorem dX11_addCorner_112 : decode cX11_addCorner 112 = .ok (.aload_n 0, 1) := by decide +kernel
theorem dX11_addCorner_113 : decode cX11_addCorner 113 = .ok (.getfield 10, 3) := by decide +kernel
theorem dX11_addCorner_116 : decode cX11_addCorner 116 = .ok (.aload_n 1, 1) := by decide +kernel
theorem dX11_addCorner_117 : decode cX11_addCorner 117 = .ok (.iconst 0, 1) := by decide +kernel
theorem dX11_addCorner_118 : decode cX11_addCorner 118 = .ok (.iaload, 1) := by decide +kernel
theorem dX11_addCorner_119 : decode cX11_addCorner 119 = .ok (.aload_n 1, 1) := by decide +kernel
theorem dX11_addCorner_120 : decode cX11_addCorner 120 = .ok (.iconst 1, 1) := by decide +kernel
theorem dX11_addCorner_121 : decode cX11_addCorner 121 = .ok (.iaload, 1) := by decide +kernel
theorem dX11_addCorner_122 : decode cX11_addCorner 122 = .ok (.aload_n 1, 1) := by decide +kernel
theorem dX11_addCorner_123 : decode cX11_addCorner 123 = .ok (.iconst 2, 1) := by decide +kernel
theorem dX11_addCorner_124 : decode cX11_addCorner 124 = .ok (.iaload, 1) := by decide +kernel
theorem dX11_addCorner_125 : decode cX11_addCorner 125 = .ok (.aload_n 1, 1) := by decide +kernel
theorem dX11_addCorner_126 : decode cX11_addCorner 126 = .ok (.iconst 3, 1) := by decide +kernel
theorem dX11_addCorner_127 : decode cX11_addCorner 127 = .ok (.iaload, 1) := by decide +kernel
theorem dX11_addCorner_128 : decode cX11_addCorner 128 = .ok (.aload_n 1, 1) := by decide +kernel
theorem dX11_addCorner_129 : decode cX11_addCorner 129 = .ok (.iconst 4, 1) := by decide +kernel
theorem dX11_addCorner_130 : decode cX11_addCorner 130 = .ok (.iaload, 1) := by decide +kernel
theorem dX11_addCorner_131 : decode cX11_addCorner 131 = .ok (.aload_n 1, 1) := by decide +kernel
theorem dX11_addCorner_132 : decode cX11_addCorner 132 = .ok (.iconst 5, 1) := by decide +kernel
theorem dX11_addCorner_133 : decode cX11_addCorner 133 = .ok (.iaload, 1) := by decide +kernel
theorem dX11_addCorner_134 : decode cX11_addCorner 134 = .ok (.invokevirtual 78, 3) := by decide +kernel
theorem dX11_addCorner_137 : decode cX11_addCorner 137 = .ok (.aload_n 0, 1) := by decide +kernel
theorem dX11_addCorner_138 : decode cX11_addCorner 138 = .ok (.getfield 75, 3) := by decide +kernel
theorem dX11_addCorner_141 : decode cX11_addCorner 141 = .ok (.iconst 1, 1) := by decide +kernel
theorem dX11_addCorner_142 : decode cX11_addCorner 142 = .ok (.isub, 1) := by decide +kernel
theorem dX11_addCorner_143 : decode cX11_addCorner 143 = .ok (.if_icmp .ne 7, 3) := by decide +kernel
theorem dX11_addCorner_146 : decode cX11_addCorner 146 = .ok (.iconst 1, 1) := by decide +kernel
theorem dX11_addCorner_147 : decode cX11_addCorner 147 = .ok (.goto 4, 3) := by decide +kernel
theorem dX11_addCorner_150 : decode cX11_addCorner 150 = .ok (.iconst 0, 1) := by decide +kernel
theorem dX11_addCorner_151 : decode cX11_addCorner 151 = .ok (.ireturn, 1) := by decide +kernel
def bk_X11_addCorner_63 (F : Nat) (L9 : Nat) (xs9 : Nat → Int32) (a19 : Int32) (a20 : Int32) (M : GM) : Option (Int32 × GM) := grd (gIn a20 (gN 236)) (bnd (sI M 236 a20.toNatClampNeg a19) (fun M22 => bndO (f_X11_colour F L9 xs9 M22) (fun (v25, M26) => bnd (sI M26 236 3 v25) (fun M27 => bndO (f_X11_draw F L9 xs9 (2048 : Int32) M27) (fun (v30, M31) => bnd (sI M31 236 4 v30) (fun M32 => bndO (f_X11_draw F L9 xs9 (2048 : Int32) M32) (fun (v35, M36) => bnd (sI M36 236 5 v35) (fun M37 => grd (gIn (gI M37 122 3) (gN 123)) (bnd (gR 123 (gI M37 122 3).toNatClampNeg) (fun o40 => bnd (sC M37 o40 0 6 (fun j => gI M37 236 j)) (fun M43 => bnd (sI M43 122 3 ((gI M43 122 3) + (1 : Int32))) (fun M45 => grd (gIn (0 : Int32) (gN o40)) (grd (gIn (1 : Int32) (gN o40)) (grd (gIn (2 : Int32) (gN o40)) (grd (gIn (3 : Int32) (gN o40)) (grd (gIn (4 : Int32) (gN o40)) (grd (gIn (5 : Int32) (gN o40)) (bndT (f_X10_addCorner F (gI M45 o40 0) (gI M45 o40 1) (gI M45 o40 2) (gI M45 o40 3) (gI M45 o40 4) (gI M45 o40 5) M45) (fun _ => none) (fun (v54, M55) => if v54 = ((gI M55 122 3) - (1 : Int32)) then (some ((1 : Int32), M55)) else (none))))))))))))))))))))
set_option maxHeartbeats 4000000 in
set_option maxRecDepth 100000 in
theorem bw_X11_addCorner_63 {x0 x : GX} (hx : XR x0 x) (X : GC x cX11_addCorner 2 RX11 8) (B : XB x (0)) (hz : TZ (xz x) [0]) {a19 : Int32} {a20 : Int32}   {F : Nat} {L9 : Nat} {xs9 : Nat → Int32} {M : GM} {r9 : (Int32 × GM)} (hsc0 : gsl (xz x0) = L9 ∧ gsx (xz x0) = xs9) (hR : ∀ (x9 : GX) (v9 : Int32) (M9 : GM) (lv9 : List (Nat × Value)) (pc9 : Nat), XR x0 x9 → GC x9 cX11_addCorner 2 RX11 8 → XB x9 0 → TZ (xz x9) [] → r9 = (v9, M9) → (v9 = 0 ∨ v9 = 1) → decode cX11_addCorner pc9 = .ok (.ireturn, 1) → WG x9 M9 lv9 pc9 [.int v9]) (h : bk_X11_addCorner_63 F L9 xs9 a19 a20 M = some r9) : WG x M [(0, .ref (gad (xz x) 122))] 63 [.int a19, .int a20, .ref (gad (xz x) 236), .ref (gad (xz x) 236)] := by
  unfold bk_X11_addCorner_63 at h
  have hsc := hx.sc hsc0
  obtain ⟨hg21, h⟩ := grd_e h
  refine t_iast X hz (hz.mem (t := 0) (by decide)) gT_c236 hg21 dX11_addCorner_63 ?_
  refine g_mem (fun M22 e23 => ?_)
  have h := bnd_e e23 h
  refine g_dup X dX11_addCorner_64 rfl ?_
  refine g_iconst X (v := 3) dX11_addCorner_65 (by decide) ?_
  refine g_aload_n X (j := 0) dX11_addCorner_66 rfl rfl ?_
  obtain ⟨⟨v25, M26⟩, hc24, h⟩ := bndO_e h
  refine gc_X11_71 X gT_c122 (ct_X11_colour X.htr hsc hc24) (by decide) (Nat.le_of_ble_eq_true rfl) dX11_addCorner_67 ?_
  refine t_iast X hz (hz.mem (t := 0) (by decide)) gT_c236 (by decide +kernel) dX11_addCorner_70 ?_
  rw [tn_3]
  refine g_mem (fun M27 e28 => ?_)
  have h := bnd_e e28 h
  refine g_dup X dX11_addCorner_71 rfl ?_
  refine g_iconst X (v := 4) dX11_addCorner_72 (by decide) ?_
  refine g_aload_n X (j := 0) dX11_addCorner_73 rfl rfl ?_
  refine g_sipush X (v := 2048) dX11_addCorner_74 (by decide) ?_
  obtain ⟨⟨v30, M31⟩, hc29, h⟩ := bndO_e h
  refine gc_X11_64 X gT_c122 (ct_X11_draw X.htr hsc hc29) (by decide) (Nat.le_of_ble_eq_true rfl) dX11_addCorner_77 ?_
  refine t_iast X hz (hz.mem (t := 0) (by decide)) gT_c236 (by decide +kernel) dX11_addCorner_80 ?_
  rw [tn_4]
  refine g_mem (fun M32 e33 => ?_)
  have h := bnd_e e33 h
  refine g_dup X dX11_addCorner_81 rfl ?_
  refine g_iconst X (v := 5) dX11_addCorner_82 (by decide) ?_
  refine g_aload_n X (j := 0) dX11_addCorner_83 rfl rfl ?_
  refine g_sipush X (v := 2048) dX11_addCorner_84 (by decide) ?_
  obtain ⟨⟨v35, M36⟩, hc34, h⟩ := bndO_e h
  refine gc_X11_64 X gT_c122 (ct_X11_draw X.htr hsc hc34) (by decide) (Nat.le_of_ble_eq_true rfl) dX11_addCorner_87 ?_
  refine t_iast X hz (hz.mem (t := 0) (by decide)) gT_c236 (by decide +kernel) dX11_addCorner_90 ?_
  rw [tn_5]
  refine g_mem (fun M37 e38 => ?_)
  have h := bnd_e e38 h
  refine g_astore_n X (lv' := [(1, .ref (gad (xz x) 236)), (0, .ref (gad (xz x) 122))]) dX11_addCorner_91 rfl (by decide) rfl ?_
  refine g_aload_n X (j := 1) dX11_addCorner_92 rfl rfl ?_
  refine gf_X11_18 X gT_c122 dX11_addCorner_93 ?_
  refine g_aload_n X (j := 1) dX11_addCorner_96 rfl rfl ?_
  refine gf_X11_75 X gT_c122 dX11_addCorner_97 ?_
  refine g_aload_n X (j := 0) dX11_addCorner_100 rfl rfl ?_
  obtain ⟨hg39, h⟩ := grd_e h
  refine g_aastTi X hz (t := 0) (g := 236) (N := 6) rfl (by decide +kernel) gT_c123 hg39 gT_c236 (by decide +kernel) dX11_addCorner_101 (fun x hxn X hB hz at1 ad => ?_)
  have B := hB _ B
  obtain ⟨o40, e41⟩ : ∃ o9, o9 = gR 123 (gI M37 122 3).toNatClampNeg := ⟨_, rfl⟩
  rw [← e41] at at1 ad ⊢
  have h := bnd_e e41 h
  have k42 : gT o40 = 20 := by rw [e41]; exact gR_28 gT_c123 (gIn_lt hg39)
  rw [at1]
  rw [ad 122 (fun q9 => by rw [← q9] at k42; exact absurd k42 (by decide +kernel))]
  have hx := hx.tr hxn
  have hsc := hx.sc hsc0
  refine g_mem (fun M43 e44 => ?_)
  have h := bnd_e e44 h
  refine g_aload_n X (j := 1) dX11_addCorner_102 rfl rfl ?_
  refine g_dup X dX11_addCorner_103 rfl ?_
  refine gf_X11_75 X gT_c122 dX11_addCorner_104 ?_
  refine g_iconst X (v := 1) dX11_addCorner_107 (by decide) ?_
  refine g_iadd X dX11_addCorner_108 ?_
  refine gp_X11_75 X gT_c122 dX11_addCorner_109 ?_
  refine g_mem (fun M45 e46 => ?_)
  have h := bnd_e e46 h
  refine g_aload_n X (j := 1) dX11_addCorner_112 rfl rfl ?_
  refine gf_X11_10 X gT_c122 dX11_addCorner_113 ?_
  refine g_aload_n X (j := 0) dX11_addCorner_116 rfl rfl ?_
  refine g_iconst X (v := 0) dX11_addCorner_117 (by decide) ?_
  obtain ⟨hg47, h⟩ := grd_e h
  refine g_iald X k42 hg47 dX11_addCorner_118 ?_
  rw [tn_0]
  refine g_aload_n X (j := 0) dX11_addCorner_119 rfl rfl ?_
  refine g_iconst X (v := 1) dX11_addCorner_120 (by decide) ?_
  obtain ⟨hg48, h⟩ := grd_e h
  refine g_iald X k42 hg48 dX11_addCorner_121 ?_
  rw [tn_1]
  refine g_aload_n X (j := 0) dX11_addCorner_122 rfl rfl ?_
  refine g_iconst X (v := 2) dX11_addCorner_123 (by decide) ?_
  obtain ⟨hg49, h⟩ := grd_e h
  refine g_iald X k42 hg49 dX11_addCorner_124 ?_
  rw [tn_2]
  refine g_aload_n X (j := 0) dX11_addCorner_125 rfl rfl ?_
  refine g_iconst X (v := 3) dX11_addCorner_126 (by decide) ?_
  obtain ⟨hg50, h⟩ := grd_e h
  refine g_iald X k42 hg50 dX11_addCorner_127 ?_
  rw [tn_3]
  refine g_aload_n X (j := 0) dX11_addCorner_128 rfl rfl ?_
  refine g_iconst X (v := 4) dX11_addCorner_129 (by decide) ?_
  obtain ⟨hg51, h⟩ := grd_e h
  refine g_iald X k42 hg51 dX11_addCorner_130 ?_
  rw [tn_4]
  refine g_aload_n X (j := 0) dX11_addCorner_131 rfl rfl ?_
  refine g_iconst X (v := 5) dX11_addCorner_132 (by decide) ?_
  obtain ⟨hg52, h⟩ := grd_e h
  refine g_iald X k42 hg52 dX11_addCorner_133 ?_
  rw [tn_5]
  rcases bndT_e h with ⟨_, hc53, h⟩ | ⟨⟨v54, M55⟩, hc53, h⟩
  · cases h
  refine gc_X11_78 X gT_c0 (ct_X10_addCorner X.htr  hc53) (by decide) (Nat.le_of_ble_eq_true rfl) dX11_addCorner_134 ?_
  refine g_aload_n X (j := 1) dX11_addCorner_137 rfl rfl ?_
  refine gf_X11_75 X gT_c122 dX11_addCorner_138 ?_
  refine g_iconst X (v := 1) dX11_addCorner_141 (by decide) ?_
  refine g_isub X dX11_addCorner_142 ?_
  refine g_icmp_ne X (tgt := 150) dX11_addCorner_143 (by decide) (fun hb => ?_) (fun hb => ?_)
  · have h := ite_f hb h
    refine g_iconst X (v := 0) dX11_addCorner_150 (by decide) ?_
    cases h
  · have h := ite_t hb h
    refine g_iconst X (v := 1) dX11_addCorner_146 (by decide) ?_
    refine g_goto X (tgt := 151) dX11_addCorner_147 (by decide) ?_
    exact hR x (1 : Int32) M55 _ _ hx X (B.le (by omega)) hz (Option.some.inj h).symm (Or.inr rfl) dX11_addCorner_151
def f_X11_addCorner (F : Nat) (L9 : Nat) (xs9 : Nat → Int32) (M : GM) : Option (Int32 × GM) := bnd (sC M 236 0 6 (fun _ => 0)) (fun M1 => bndO (f_X11_between F L9 xs9 ((-400) : Int32) (400 : Int32) M1) (fun (v4, M5) => bnd (sI M5 236 0 v4) (fun M6 => bndO (f_X11_between F L9 xs9 ((-300) : Int32) (300 : Int32) M6) (fun (v9, M10) => bnd (sI M10 236 1 v9) (fun M11 => bndO (f_X11_draw F L9 xs9 (5 : Int32) M11) (fun (v14, M15) => if v14 = 0 then (bndO (f_X11_between F L9 xs9 ((-900) : Int32) ((-300) : Int32) M15) (fun (v57, M58) => bk_X11_addCorner_63 F L9 xs9 v57 (2 : Int32) M58)) else (bndO (f_X11_between F L9 xs9 ((-300) : Int32) (700 : Int32) M15) (fun (v17, M18) => bk_X11_addCorner_63 F L9 xs9 v17 (2 : Int32) M18))))))))
set_option maxHeartbeats 4000000 in
set_option maxRecDepth 100000 in
theorem w_X11_addCorner {x0 x : GX} (hx : XR x0 x) (X : GC x cX11_addCorner 2 RX11 8) (B : XB x 1) (hz : TZ (xz x) [])   {F : Nat} {L9 : Nat} {xs9 : Nat → Int32} {M : GM} {r9 : (Int32 × GM)} (hsc0 : gsl (xz x0) = L9 ∧ gsx (xz x0) = xs9) (hR : ∀ (x9 : GX) (v9 : Int32) (M9 : GM) (lv9 : List (Nat × Value)) (pc9 : Nat), XR x0 x9 → GC x9 cX11_addCorner 2 RX11 8 → XB x9 0 → TZ (xz x9) [] → r9 = (v9, M9) → (v9 = 0 ∨ v9 = 1) → decode cX11_addCorner pc9 = .ok (.ireturn, 1) → WG x9 M9 lv9 pc9 [.int v9]) (h : f_X11_addCorner F L9 xs9 M = some r9) : WG x M [(0, .ref (gad (xz x) 122))] 0 [] := by
  unfold f_X11_addCorner at h
  have hsc := hx.sc hsc0
  refine g_bipush X (v := 6) dX11_addCorner_0 (by decide) ?_
  refine g_newTi X hz (t := 0) (g := 236) (N := 6) rfl (by decide) (by decide) (by decide +kernel) (by decide +kernel) (by decide) tn_6 (by decide) (k := 0) (B.le (by omega)) q_ac20 dX11_addCorner_2 (fun x hxn X B hz ad => ?_)
  rw [ad 122 (by decide)]
  have hx := hx.tr hxn
  have hsc := hx.sc hsc0
  refine g_mem (fun M1 e2 => ?_)
  have h := bnd_e e2 h
  refine g_dup X dX11_addCorner_4 rfl ?_
  refine g_iconst X (v := 0) dX11_addCorner_5 (by decide) ?_
  refine g_aload_n X (j := 0) dX11_addCorner_6 rfl rfl ?_
  refine g_sipush X (v := (-400)) dX11_addCorner_7 (by decide) ?_
  refine g_sipush X (v := 400) dX11_addCorner_10 (by decide) ?_
  obtain ⟨⟨v4, M5⟩, hc3, h⟩ := bndO_e h
  refine gc_X11_68 X gT_c122 (ct_X11_between X.htr hsc hc3) (by decide) (Nat.le_of_ble_eq_true rfl) dX11_addCorner_13 ?_
  refine t_iast X hz (hz.mem (t := 0) (by decide)) gT_c236 (by decide +kernel) dX11_addCorner_16 ?_
  rw [tn_0]
  refine g_mem (fun M6 e7 => ?_)
  have h := bnd_e e7 h
  refine g_dup X dX11_addCorner_17 rfl ?_
  refine g_iconst X (v := 1) dX11_addCorner_18 (by decide) ?_
  refine g_aload_n X (j := 0) dX11_addCorner_19 rfl rfl ?_
  refine g_sipush X (v := (-300)) dX11_addCorner_20 (by decide) ?_
  refine g_sipush X (v := 300) dX11_addCorner_23 (by decide) ?_
  obtain ⟨⟨v9, M10⟩, hc8, h⟩ := bndO_e h
  refine gc_X11_68 X gT_c122 (ct_X11_between X.htr hsc hc8) (by decide) (Nat.le_of_ble_eq_true rfl) dX11_addCorner_26 ?_
  refine t_iast X hz (hz.mem (t := 0) (by decide)) gT_c236 (by decide +kernel) dX11_addCorner_29 ?_
  rw [tn_1]
  refine g_mem (fun M11 e12 => ?_)
  have h := bnd_e e12 h
  refine g_dup X dX11_addCorner_30 rfl ?_
  refine g_iconst X (v := 2) dX11_addCorner_31 (by decide) ?_
  refine g_aload_n X (j := 0) dX11_addCorner_32 rfl rfl ?_
  refine g_iconst X (v := 5) dX11_addCorner_33 (by decide) ?_
  obtain ⟨⟨v14, M15⟩, hc13, h⟩ := bndO_e h
  refine gc_X11_64 X gT_c122 (ct_X11_draw X.htr hsc hc13) (by decide) (Nat.le_of_ble_eq_true rfl) dX11_addCorner_34 ?_
  refine g_if_ne X (tgt := 53) dX11_addCorner_37 (by decide) (fun hb => ?_) (fun hb => ?_)
  · have h := ite_f hb h
    refine g_aload_n X (j := 0) dX11_addCorner_53 rfl rfl ?_
    refine g_sipush X (v := (-300)) dX11_addCorner_54 (by decide) ?_
    refine g_sipush X (v := 700) dX11_addCorner_57 (by decide) ?_
    obtain ⟨⟨v17, M18⟩, hc16, h⟩ := bndO_e h
    refine gc_X11_68 X gT_c122 (ct_X11_between X.htr hsc hc16) (by decide) (Nat.le_of_ble_eq_true rfl) dX11_addCorner_60 ?_
    refine g_lv [0] rfl ?_
    exact bw_X11_addCorner_63 hx X (B.le (by omega)) hz  hsc0 hR h
  · have h := ite_t hb h
    refine g_aload_n X (j := 0) dX11_addCorner_40 rfl rfl ?_
    refine g_sipush X (v := (-900)) dX11_addCorner_41 (by decide) ?_
    refine g_sipush X (v := (-300)) dX11_addCorner_44 (by decide) ?_
    obtain ⟨⟨v57, M58⟩, hc56, h⟩ := bndO_e h
    refine gc_X11_68 X gT_c122 (ct_X11_between X.htr hsc hc56) (by decide) (Nat.le_of_ble_eq_true rfl) dX11_addCorner_47 ?_
    refine g_goto X (tgt := 63) dX11_addCorner_50 (by decide) ?_
    refine g_lv [0] rfl ?_
    exact bw_X11_addCorner_63 hx X (B.le (by omega)) hz  hsc0 hR h
theorem ct_X11_addCorner {l : Launch} {z : GZ} (htr : l.stackTraces = false) {L9 : Nat} {xs9 : Nat → Int32} (hsc : gsl z = L9 ∧ gsx z = xs9)   {M : GM} {F : Nat} {v : Int32} {M1 : GM} (h : f_X11_addCorner F L9 xs9 M = some (v, M1)) : aMet l z yX11_addCorner cX11_addCorner 2 8 [.ref (gad z 122)] M v M1 1 := aMet_of (by decide +kernel) (Nat.le_of_ble_eq_true rfl) htr (fun x X B hz ez el hR => by subst ez; subst el; exact w_X11_addCorner (XR.rf x) X B hz  hsc (fun x9 v9 M9 lv9 pc9 hx9 X9 B9 hz9 e9 z9 d9 => by cases e9; exact hR x9 hx9 X9 B9 hz9 lv9 pc9 z9 d9) h)
theorem gc_X11_85 {x : GX} {cc : ByteArray} {nL d pc : Nat} {M : GM} {lv : List (Nat × Value)} {st : List Value} (X : GC x cc nL RX11 d) {i0 : Int32} {i1 : Int32} {i2 : Int32} {i3 : Int32} {i4 : Int32} {i5 : Int32} {M1 : GM} {r : Int32} (ht : gT 0 = 10) (hM : gMet (xl x) (xz x) yX10_addPane cX10_addPane 9 (some .int) 7 [.ref (gad (xz x) 0), .int i0, .int i1, .int i2, .int i3, .int i4, .int i5] M (some (.int r)) M1) (hd : 8 ≤ d) (hsum : (st.map fun v => v.category).sum ≤ 8) (dec : decode cc pc = .ok (.invokevirtual 85, 3)) (go : WG x M1 lv (pc + 3) (.int r :: st)) : WG x M lv pc (.int i5 :: .int i4 :: .int i3 :: .int i2 :: .int i1 :: .int i0 :: .ref (gad (xz x) 0) :: st) := g_callV X (n := 6) (As := [.int i0, .int i1, .int i2, .int i3, .int i4, .int i5]) (rest := st) hM ht (by decide) (gE_10 ht) rfl q_934 q_935 q_936 q_17 q_937 (by decide +kernel) rfl hd (by decide) rfl hsum dec go
theorem gx_X11_85 {x : GX} {cc : ByteArray} {nL d pc : Nat} {M : GM} {lv : List (Nat × Value)} {st : List Value} (X : GC x cc nL RX11 d) {i0 : Int32} {i1 : Int32} {i2 : Int32} {i3 : Int32} {i4 : Int32} {i5 : Int32} {M1 : GM} {n9 : Nat} (ht : gT 0 = 10) (hM : gMetX (xl x) (xz x) yX10_addPane cX10_addPane 9 (some .int) 7 [.ref (gad (xz x) 0), .int i0, .int i1, .int i2, .int i3, .int i4, .int i5] M n9 M1) (hd : 8 ≤ d) (hsum : (st.map fun v => v.category).sum ≤ 8) (dec : decode cc pc = .ok (.invokevirtual 85, 3)) (hT : GThr x n9 M1) : WG x M lv pc (.int i5 :: .int i4 :: .int i3 :: .int i2 :: .int i1 :: .int i0 :: .ref (gad (xz x) 0) :: st) := g_xV X (n := 6) (As := [.int i0, .int i1, .int i2, .int i3, .int i4, .int i5]) (rest := st) hM ht (by decide) (gE_10 ht) rfl q_934 q_935 q_936 q_17 q_937 (by decide +kernel) rfl hd (by decide) rfl hsum dec hT
theorem dX11_addPane_0 : decode cX11_addPane 0 = .ok (.aload_n 0, 1) := by decide +kernel
theorem dX11_addPane_1 : decode cX11_addPane 1 = .ok (.aload_n 0, 1) := by decide +kernel
theorem dX11_addPane_2 : decode cX11_addPane 2 = .ok (.getfield 75, 3) := by decide +kernel
theorem dX11_addPane_5 : decode cX11_addPane 5 = .ok (.invokevirtual 64, 3) := by decide +kernel
theorem dX11_addPane_8 : decode cX11_addPane 8 = .ok (.istore_n 1, 1) := by decide +kernel
theorem dX11_addPane_9 : decode cX11_addPane 9 = .ok (.iload_n 1, 1) := by decide +kernel
theorem dX11_addPane_10 : decode cX11_addPane 10 = .ok (.iconst 1, 1) := by decide +kernel
theorem dX11_addPane_11 : decode cX11_addPane 11 = .ok (.iadd, 1) := by decide +kernel
theorem dX11_addPane_12 : decode cX11_addPane 12 = .ok (.aload_n 0, 1) := by decide +kernel
theorem dX11_addPane_13 : decode cX11_addPane 13 = .ok (.aload_n 0, 1) := by decide +kernel
theorem dX11_addPane_14 : decode cX11_addPane 14 = .ok (.getfield 75, 3) := by decide +kernel
theorem dX11_addPane_17 : decode cX11_addPane 17 = .ok (.iconst 2, 1) := by decide +kernel
theorem dX11_addPane_18 : decode cX11_addPane 18 = .ok (.isub, 1) := by decide +kernel
theorem dX11_addPane_19 : decode cX11_addPane 19 = .ok (.invokevirtual 64, 3) := by decide +kernel
theorem dX11_addPane_22 : decode cX11_addPane 22 = .ok (.iadd, 1) := by decide +kernel
theorem dX11_addPane_23 : decode cX11_addPane 23 = .ok (.aload_n 0, 1) := by decide +kernel
theorem dX11_addPane_24 : decode cX11_addPane 24 = .ok (.getfield 75, 3) := by decide +kernel
theorem dX11_addPane_27 : decode cX11_addPane 27 = .ok (.irem, 1) := by decide +kernel
theorem dX11_addPane_28 : decode cX11_addPane 28 = .ok (.istore_n 2, 1) := by decide +kernel
theorem dX11_addPane_29 : decode cX11_addPane 29 = .ok (.aload_n 0, 1) := by decide +kernel
theorem dX11_addPane_30 : decode cX11_addPane 30 = .ok (.aload_n 0, 1) := by decide +kernel
theorem dX11_addPane_31 : decode cX11_addPane 31 = .ok (.getfield 75, 3) := by decide +kernel
theorem dX11_addPane_34 : decode cX11_addPane 34 = .ok (.invokevirtual 64, 3) := by decide +kernel
theorem dX11_addPane_37 : decode cX11_addPane 37 = .ok (.istore_n 3, 1) := by decide +kernel
theorem dX11_addPane_38 : decode cX11_addPane 38 = .ok (.iload_n 3, 1) := by decide +kernel
theorem dX11_addPane_39 : decode cX11_addPane 39 = .ok (.iload_n 1, 1) := by decide +kernel
theorem dX11_addPane_40 : decode cX11_addPane 40 = .ok (.if_icmp .eq 8, 3) := by decide +kernel
theorem dX11_addPane_43 : decode cX11_addPane 43 = .ok (.iload_n 3, 1) := by decide +kernel
theorem dX11_addPane_44 : decode cX11_addPane 44 = .ok (.iload_n 2, 1) := by decide +kernel
theorem dX11_addPane_45 : decode cX11_addPane 45 = .ok (.if_icmp .ne 15, 3) := by decide +kernel
theorem dX11_addPane_48 : decode cX11_addPane 48 = .ok (.iload_n 3, 1) := by decide +kernel
theorem dX11_addPane_49 : decode cX11_addPane 49 = .ok (.iconst 1, 1) := by decide +kernel
theorem dX11_addPane_50 : decode cX11_addPane 50 = .ok (.iadd, 1) := by decide +kernel
theorem dX11_addPane_51 : decode cX11_addPane 51 = .ok (.aload_n 0, 1) := by decide +kernel
theorem dX11_addPane_52 : decode cX11_addPane 52 = .ok (.getfield 75, 3) := by decide +kernel
theorem dX11_addPane_55 : decode cX11_addPane 55 = .ok (.irem, 1) := by decide +kernel
theorem dX11_addPane_56 : decode cX11_addPane 56 = .ok (.istore_n 3, 1) := by decide +kernel
theorem dX11_addPane_57 : decode cX11_addPane 57 = .ok (.goto (-19), 3) := by decide +kernel
theorem dX11_addPane_60 : decode cX11_addPane 60 = .ok (.iconst 4, 1) := by decide +kernel
theorem dX11_addPane_61 : decode cX11_addPane 61 = .ok (.newarray .int, 2) := by decide +kernel
theorem dX11_addPane_63 : decode cX11_addPane 63 = .ok (.dup, 1) := by decide +kernel
theorem dX11_addPane_64 : decode cX11_addPane 64 = .ok (.iconst 0, 1) := by decide +kernel
theorem dX11_addPane_65 : decode cX11_addPane 65 = .ok (.iload_n 1, 1) := by decide +kernel
theorem dX11_addPane_66 : decode cX11_addPane 66 = .ok (.iastore, 1) := by decide +kernel
theorem dX11_addPane_67 : decode cX11_addPane 67 = .ok (.dup, 1) := by decide +kernel
theorem dX11_addPane_68 : decode cX11_addPane 68 = .ok (.iconst 1, 1) := by decide +kernel
theorem dX11_addPane_69 : decode cX11_addPane 69 = .ok (.iload_n 2, 1) := by decide +kernel
theorem dX11_addPane_70 : decode cX11_addPane 70 = .ok (.iastore, 1) := by decide +kernel
theorem dX11_addPane_71 : decode cX11_addPane 71 = .ok (.dup, 1) := by decide +kernel
theorem dX11_addPane_72 : decode cX11_addPane 72 = .ok (.iconst 2, 1) := by decide +kernel
theorem dX11_addPane_73 : decode cX11_addPane 73 = .ok (.iload_n 3, 1) := by decide +kernel
theorem dX11_addPane_74 : decode cX11_addPane 74 = .ok (.iastore, 1) := by decide +kernel
theorem dX11_addPane_75 : decode cX11_addPane 75 = .ok (.dup, 1) := by decide +kernel
theorem dX11_addPane_76 : decode cX11_addPane 76 = .ok (.iconst 3, 1) := by decide +kernel
theorem dX11_addPane_77 : decode cX11_addPane 77 = .ok (.aload_n 0, 1) := by decide +kernel
theorem dX11_addPane_78 : decode cX11_addPane 78 = .ok (.iconst (-1), 1) := by decide +kernel
theorem dX11_addPane_79 : decode cX11_addPane 79 = .ok (.iconst 3, 1) := by decide +kernel
theorem dX11_addPane_80 : decode cX11_addPane 80 = .ok (.invokevirtual 68, 3) := by decide +kernel
theorem dX11_addPane_83 : decode cX11_addPane 83 = .ok (.iastore, 1) := by decide +kernel
theorem dX11_addPane_84 : decode cX11_addPane 84 = .ok (.astore 4, 2) := by decide +kernel
theorem dX11_addPane_86 : decode cX11_addPane 86 = .ok (.iconst 3, 1) := by decide +kernel
theorem dX11_addPane_87 : decode cX11_addPane 87 = .ok (.newarray .boolean, 2) := by decide +kernel
theorem dX11_addPane_89 : decode cX11_addPane 89 = .ok (.dup, 1) := by decide +kernel
theorem dX11_addPane_90 : decode cX11_addPane 90 = .ok (.iconst 0, 1) := by decide +kernel
theorem dX11_addPane_91 : decode cX11_addPane 91 = .ok (.aload_n 0, 1) := by decide +kernel
theorem dX11_addPane_92 : decode cX11_addPane 92 = .ok (.iconst 4, 1) := by decide +kernel
theorem dX11_addPane_93 : decode cX11_addPane 93 = .ok (.invokevirtual 64, 3) := by decide +kernel
theorem dX11_addPane_96 : decode cX11_addPane 96 = .ok (.ifCond .ne 7, 3) := by decide +kernel
theorem dX11_addPane_99 : decode cX11_addPane 99 = .ok (.iconst 1, 1) := by decide +kernel
theorem dX11_addPane_100 : decode cX11_addPane 100 = .ok (.goto 4, 3) := by decide +kernel
theorem dX11_addPane_103 : decode cX11_addPane 103 = .ok (.iconst 0, 1) := by decide +kernel
theorem dX11_addPane_104 : decode cX11_addPane 104 = .ok (.bastore, 1) := by decide +kernel
theorem dX11_addPane_105 : decode cX11_addPane 105 = .ok (.dup, 1) := by decide +kernel
theorem dX11_addPane_106 : decode cX11_addPane 106 = .ok (.iconst 1, 1) := by decide +kernel
theorem dX11_addPane_107 : decode cX11_addPane 107 = .ok (.aload_n 0, 1) := by decide +kernel
theorem dX11_addPane_108 : decode cX11_addPane 108 = .ok (.iconst 3, 1) := by decide +kernel
theorem dX11_addPane_109 : decode cX11_addPane 109 = .ok (.invokevirtual 64, 3) := by decide +kernel
theorem dX11_addPane_112 : decode cX11_addPane 112 = .ok (.ifCond .le 7, 3) := by decide +kernel
theorem dX11_addPane_115 : decode cX11_addPane 115 = .ok (.iconst 1, 1) := by decide +kernel
theorem dX11_addPane_116 : decode cX11_addPane 116 = .ok (.goto 4, 3) := by decide +kernel
theorem dX11_addPane_119 : decode cX11_addPane 119 = .ok (.iconst 0, 1) := by decide +kernel
theorem dX11_addPane_120 : decode cX11_addPane 120 = .ok (.bastore, 1) := by decide +kernel
theorem dX11_addPane_121 : decode cX11_addPane 121 = .ok (.dup, 1) := by decide +kernel
theorem dX11_addPane_122 : decode cX11_addPane 122 = .ok (.iconst 2, 1) := by decide +kernel
theorem dX11_addPane_123 : decode cX11_addPane 123 = .ok (.iconst 1, 1) := by decide +kernel
theorem dX11_addPane_124 : decode cX11_addPane 124 = .ok (.bastore, 1) := by decide +kernel
theorem dX11_addPane_125 : decode cX11_addPane 125 = .ok (.astore 5, 2) := by decide +kernel
theorem dX11_addPane_127 : decode cX11_addPane 127 = .ok (.aload_n 0, 1) := by decide +kernel
theorem dX11_addPane_128 : decode cX11_addPane 128 = .ok (.getfield 21, 3) := by decide +kernel
theorem dX11_addPane_131 : decode cX11_addPane 131 = .ok (.aload_n 0, 1) := by decide +kernel
theorem dX11_addPane_132 : decode cX11_addPane 132 = .ok (.getfield 82, 3) := by decide +kernel
theorem dX11_addPane_135 : decode cX11_addPane 135 = .ok (.aload 4, 2) := by decide +kernel
theorem dX11_addPane_137 : decode cX11_addPane 137 = .ok (.aastore, 1) := by decide +kernel
theorem dX11_addPane_138 : decode cX11_addPane 138 = .ok (.aload_n 0, 1) := by decide +kernel
theorem dX11_addPane_139 : decode cX11_addPane 139 = .ok (.getfield 26, 3) := by decide +kernel
theorem dX11_addPane_142 : decode cX11_addPane 142 = .ok (.aload_n 0, 1) := by decide +kernel
theorem dX11_addPane_143 : decode cX11_addPane 143 = .ok (.getfield 82, 3) := by decide +kernel
theorem dX11_addPane_146 : decode cX11_addPane 146 = .ok (.aload 5, 2) := by decide +kernel
theorem dX11_addPane_148 : decode cX11_addPane 148 = .ok (.aastore, 1) := by decide +kernel
theorem dX11_addPane_149 : decode cX11_addPane 149 = .ok (.aload_n 0, 1) := by decide +kernel
theorem dX11_addPane_150 : decode cX11_addPane 150 = .ok (.dup, 1) := by decide +kernel
theorem dX11_addPane_151 : decode cX11_addPane 151 = .ok (.getfield 82, 3) := by decide +kernel
theorem dX11_addPane_154 : decode cX11_addPane 154 = .ok (.iconst 1, 1) := by decide +kernel
theorem dX11_addPane_155 : decode cX11_addPane 155 = .ok (.iadd, 1) := by decide +kernel
theorem dX11_addPane_156 : decode cX11_addPane 156 = .ok (.putfield 82, 3) := by decide +kernel
theorem dX11_addPane_159 : decode cX11_addPane 159 = .ok (.aload_n 0, 1) := by decide +kernel
theorem dX11_addPane_160 : decode cX11_addPane 160 = .ok (.getfield 10, 3) := by decide +kernel
theorem dX11_addPane_163 : decode cX11_addPane 163 = .ok (.aload 4, 2) := by decide +kernel
theorem dX11_addPane_165 : decode cX11_addPane 165 = .ok (.iconst 0, 1) := by decide +kernel
theorem dX11_addPane_166 : decode cX11_addPane 166 = .ok (.iaload, 1) := by decide +kernel
theorem dX11_addPane_167 : decode cX11_addPane 167 = .ok (.aload 4, 2) := by decide +kernel
theorem dX11_addPane_169 : decode cX11_addPane 169 = .ok (.iconst 1, 1) := by decide +kernel
theorem dX11_addPane_170 : decode cX11_addPane 170 = .ok (.iaload, 1) := by decide +kernel
theorem dX11_addPane_171 : decode cX11_addPane 171 = .ok (.aload 4, 2) := by decide +kernel
theorem dX11_addPane_173 : decode cX11_addPane 173 = .ok (.iconst 2, 1) := by decide +kernel
theorem dX11_addPane_174 : decode cX11_addPane 174 = .ok (.iaload, 1) := by decide +kernel
theorem dX11_addPane_175 : decode cX11_addPane 175 = .ok (.aload 4, 2) := by decide +kernel
theorem dX11_addPane_177 : decode cX11_addPane 177 = .ok (.iconst 3, 1) := by decide +kernel
theorem dX11_addPane_178 : decode cX11_addPane 178 = .ok (.iaload, 1) := by decide +kernel
theorem dX11_addPane_179 : decode cX11_addPane 179 = .ok (.aload 5, 2) := by decide +kernel
theorem dX11_addPane_181 : decode cX11_addPane 181 = .ok (.iconst 0, 1) := by decide +kernel
theorem dX11_addPane_182 : decode cX11_addPane 182 = .ok (.baload, 1) := by decide +kernel
theorem dX11_addPane_183 : decode cX11_addPane 183 = .ok (.aload 5, 2) := by decide +kernel
theorem dX11_addPane_185 : decode cX11_addPane 185 = .ok (.iconst 1, 1) := by decide +kernel
theorem dX11_addPane_186 : decode cX11_addPane 186 = .ok (.baload, 1) := by decide +kernel
theorem dX11_addPane_187 : decode cX11_addPane 187 = .ok (.invokevirtual 85, 3) := by decide +kernel
theorem dX11_addPane_190 : decode cX11_addPane 190 = .ok (.aload_n 0, 1) := by decide +kernel
theorem dX11_addPane_191 : decode cX11_addPane 191 = .ok (.getfield 82, 3) := by decide +kernel
theorem dX11_addPane_194 : decode cX11_addPane 194 = .ok (.iconst 1, 1) := by decide +kernel
theorem dX11_addPane_195 : decode cX11_addPane 195 = .ok (.isub, 1) := by decide +kernel
theorem dX11_addPane_196 : decode cX11_addPane 196 = .ok (.if_icmp .ne 7, 3) := by decide +kernel
theorem dX11_addPane_199 : decode cX11_addPane 199 = .ok (.iconst 1, 1) := by decide +kernel
theorem dX11_addPane_200 : decode cX11_addPane 200 = .ok (.goto 4, 3) := by decide +kernel
theorem dX11_addPane_203 : decode cX11_addPane 203 = .ok (.iconst 0, 1) := by decide +kernel
theorem dX11_addPane_204 : decode cX11_addPane 204 = .ok (.ireturn, 1) := by decide +kernel
def st_X11_addPane_38 (F : Nat) (L9 : Nat) (xs9 : Nat → Int32) (a17 : Int32) (a18 : Int32) (rec : Int32 → GM → Option (Int32 × GM)) (a19 : Int32) (M : GM) : Option (Int32 × GM) := if a19 = a17 then (grd (decide (¬ (gI M 122 3) = 0)) (bnd ((a19 + (1 : Int32)) - (a19 + (1 : Int32)) / (gI M 122 3) * (gI M 122 3)) (fun v21 => rec v21 M))) else (if a19 = a18 then (grd (decide (¬ (gI M 122 3) = 0)) (bnd ((a19 + (1 : Int32)) - (a19 + (1 : Int32)) / (gI M 122 3) * (gI M 122 3)) (fun v24 => rec v24 M))) else (some (a19, M)))
def lp_X11_addPane_38 (F : Nat) (L9 : Nat) (xs9 : Nat → Int32) (a17 : Int32) (a18 : Int32) : Nat → Int32 → GM → Option (Int32 × GM)
  | 0 => fun _ _ => none
  | f + 1 => fun a19 M => st_X11_addPane_38 F L9 xs9 a17 a18 (lp_X11_addPane_38 F L9 xs9 a17 a18 f) a19 M
set_option maxHeartbeats 4000000 in
set_option maxRecDepth 100000 in
theorem lw_X11_addPane_38 {x0 : GX} {ke : Nat} {a17 : Int32} {a18 : Int32}  {F : Nat} {L9 : Nat} {xs9 : Nat → Int32} {r9 : (Int32 × GM)} (hsc0 : gsl (xz x0) = L9 ∧ gsx (xz x0) = xs9) (hE : ∀ (x9 : GX) (x3_9 : Int32) (M9 : GM), XR x0 x9 → GC x9 cX11_addPane 6 RX11 8 → XB x9 ke → TZ (xz x9) [] → r9 = (x3_9, M9) → WG x9 M9 [(0, .ref (gad (xz x9) 122)), (1, .int a17), (2, .int a18), (3, .int x3_9)] 60 []) : ∀ (f : Nat) (x : GX) (a19 : Int32) (M : GM), XR x0 x → GC x cX11_addPane 6 RX11 8 → XB x (f * 0 + ke) → TZ (xz x) [] → lp_X11_addPane_38 F L9 xs9 a17 a18 f a19 M = some r9 → WG x M [(0, .ref (gad (xz x) 122)), (1, .int a17), (2, .int a18), (3, .int a19)] 38 [] := by
  intro f
  induction f with
  | zero => intro x a19 M hx X B hz h; cases h
  | succ f ih =>
    intro x a19 M hx X B hz h
    have hrec := ih
    have h : st_X11_addPane_38 F L9 xs9 a17 a18 (lp_X11_addPane_38 F L9 xs9 a17 a18 f) a19 M = some r9 := h
    generalize lp_X11_addPane_38 F L9 xs9 a17 a18 f = rec at h hrec
    unfold st_X11_addPane_38 at h
    have hsc := hx.sc hsc0
    have hk : ke ≤ f * 0 + ke := Nat.le_add_left _ _
    refine g_iload_n X (j := 3) dX11_addPane_38 rfl rfl ?_
    refine g_iload_n X (j := 1) dX11_addPane_39 rfl rfl ?_
    refine g_icmp_eq X (tgt := 48) dX11_addPane_40 (by decide) (fun hb => ?_) (fun hb => ?_)
    · have h := ite_t hb h
      refine g_iload_n X (j := 3) dX11_addPane_48 rfl rfl ?_
      refine g_iconst X (v := 1) dX11_addPane_49 (by decide) ?_
      refine g_iadd X dX11_addPane_50 ?_
      refine g_aload_n X (j := 0) dX11_addPane_51 rfl rfl ?_
      refine gf_X11_75 X gT_c122 dX11_addPane_52 ?_
      obtain ⟨hg20, h⟩ := grd_e h
      refine g_irem X dX11_addPane_55 (of_decide_eq_true hg20) ?_
      refine g_topi (fun v21 e22 => ?_)
      have h := bnd_e e22 h
      refine g_istore_n X (lv' := [(3, .int v21), (0, .ref (gad (xz x) 122)), (1, .int a17), (2, .int a18)]) dX11_addPane_56 rfl (by decide) rfl ?_
      refine g_goto X (tgt := 38) dX11_addPane_57 (by decide) ?_
      refine g_lv [1, 2, 3, 0] rfl ?_
      exact hrec x v21 M hx X (B.le (by omega)) hz h
    · have h := ite_f hb h
      refine g_iload_n X (j := 3) dX11_addPane_43 rfl rfl ?_
      refine g_iload_n X (j := 2) dX11_addPane_44 rfl rfl ?_
      refine g_icmp_ne X (tgt := 60) dX11_addPane_45 (by decide) (fun hb => ?_) (fun hb => ?_)
      · have h := ite_f hb h
        refine g_lv [0, 1, 2, 3] rfl ?_
        exact hE x a19 M hx X (B.le (by omega)) hz (Option.some.inj h).symm
      · have h := ite_t hb h
        refine g_iload_n X (j := 3) dX11_addPane_48 rfl rfl ?_
        refine g_iconst X (v := 1) dX11_addPane_49 (by decide) ?_
        refine g_iadd X dX11_addPane_50 ?_
        refine g_aload_n X (j := 0) dX11_addPane_51 rfl rfl ?_
        refine gf_X11_75 X gT_c122 dX11_addPane_52 ?_
        obtain ⟨hg23, h⟩ := grd_e h
        refine g_irem X dX11_addPane_55 (of_decide_eq_true hg23) ?_
        refine g_topi (fun v24 e25 => ?_)
        have h := bnd_e e25 h
        refine g_istore_n X (lv' := [(3, .int v24), (0, .ref (gad (xz x) 122)), (1, .int a17), (2, .int a18)]) dX11_addPane_56 rfl (by decide) rfl ?_
        refine g_goto X (tgt := 38) dX11_addPane_57 (by decide) ?_
        refine g_lv [1, 2, 3, 0] rfl ?_
        exact hrec x v24 M hx X (B.le (by omega)) hz h
def bk_X11_addPane_120 (F : Nat) (L9 : Nat) (xs9 : Nat → Int32) (a56 : Int32) (a57 : Int32) (M : GM) : Option (Int32 × GM) := grd (gIn a57 (gN 238)) (grd (gTf a56) (bnd (sI M 238 a57.toNatClampNeg a56) (fun M60 => bnd (sI M60 238 2 (1 : Int32)) (fun M62 => grd (gIn (gI M62 122 4) (gN 124)) (bnd (gR 124 (gI M62 122 4).toNatClampNeg) (fun o65 => bnd (sC M62 o65 0 4 (fun j => gI M62 237 j)) (fun M68 => grd (gIn (gI M68 122 4) (gN 125)) (bnd (gR 125 (gI M68 122 4).toNatClampNeg) (fun o71 => bnd (sC M68 o71 0 3 (fun j => gI M68 238 j)) (fun M74 => bnd (sI M74 122 4 ((gI M74 122 4) + (1 : Int32))) (fun M76 => grd (gIn (0 : Int32) (gN o65)) (grd (gIn (1 : Int32) (gN o65)) (grd (gIn (2 : Int32) (gN o65)) (grd (gIn (3 : Int32) (gN o65)) (grd (gIn (0 : Int32) (gN o71)) (grd (gIn (1 : Int32) (gN o71)) (bndT (f_X10_addPane F (gI M76 o65 0) (gI M76 o65 1) (gI M76 o65 2) (gI M76 o65 3) (gI M76 o71 0) (gI M76 o71 1) M76) (fun _ => none) (fun (v85, M86) => if v85 = ((gI M86 122 4) - (1 : Int32)) then (some ((1 : Int32), M86)) else (none)))))))))))))))))))
set_option maxHeartbeats 4000000 in
set_option maxRecDepth 100000 in
theorem bw_X11_addPane_120 {x0 x : GX} (hx : XR x0 x) (X : GC x cX11_addPane 6 RX11 8) (B : XB x (0)) (hz : TZ (xz x) [1, 2]) {a56 : Int32} {a57 : Int32}   {F : Nat} {L9 : Nat} {xs9 : Nat → Int32} {M : GM} {r9 : (Int32 × GM)} (hsc0 : gsl (xz x0) = L9 ∧ gsx (xz x0) = xs9) (hR : ∀ (x9 : GX) (v9 : Int32) (M9 : GM) (lv9 : List (Nat × Value)) (pc9 : Nat), XR x0 x9 → GC x9 cX11_addPane 6 RX11 8 → XB x9 0 → TZ (xz x9) [] → r9 = (v9, M9) → (v9 = 0 ∨ v9 = 1) → decode cX11_addPane pc9 = .ok (.ireturn, 1) → WG x9 M9 lv9 pc9 [.int v9]) (h : bk_X11_addPane_120 F L9 xs9 a56 a57 M = some r9) : WG x M [(0, .ref (gad (xz x) 122)), (4, .ref (gad (xz x) 237))] 120 [.int a56, .int a57, .ref (gad (xz x) 238), .ref (gad (xz x) 238)] := by
  unfold bk_X11_addPane_120 at h
  have hsc := hx.sc hsc0
  obtain ⟨hg58, h⟩ := grd_e h
  obtain ⟨hg59, h⟩ := grd_e h
  refine t_zast X hz (hz.mem (t := 2) (by decide)) gT_c238 hg58 (gTf_of hg59) dX11_addPane_120 ?_
  refine g_mem (fun M60 e61 => ?_)
  have h := bnd_e e61 h
  refine g_dup X dX11_addPane_121 rfl ?_
  refine g_iconst X (v := 2) dX11_addPane_122 (by decide) ?_
  refine g_iconst X (v := 1) dX11_addPane_123 (by decide) ?_
  refine t_zast X hz (hz.mem (t := 2) (by decide)) gT_c238 (by decide +kernel) (Or.inr rfl) dX11_addPane_124 ?_
  rw [tn_2]
  refine g_mem (fun M62 e63 => ?_)
  have h := bnd_e e63 h
  refine g_astore X (lv' := [(5, .ref (gad (xz x) 238)), (0, .ref (gad (xz x) 122)), (4, .ref (gad (xz x) 237))]) dX11_addPane_125 (by decide) rfl ?_
  refine g_aload_n X (j := 1) dX11_addPane_127 rfl rfl ?_
  refine gf_X11_21 X gT_c122 dX11_addPane_128 ?_
  refine g_aload_n X (j := 1) dX11_addPane_131 rfl rfl ?_
  refine gf_X11_82 X gT_c122 dX11_addPane_132 ?_
  refine g_aload X (j := 2) dX11_addPane_135 rfl ?_
  obtain ⟨hg64, h⟩ := grd_e h
  refine g_aastTi X hz (t := 1) (g := 237) (N := 4) rfl (by decide +kernel) gT_c124 hg64 gT_c237 (by decide +kernel) dX11_addPane_137 (fun x hxn X hB hz at1 ad => ?_)
  have B := hB _ B
  obtain ⟨o65, e66⟩ : ∃ o9, o9 = gR 124 (gI M62 122 4).toNatClampNeg := ⟨_, rfl⟩
  rw [← e66] at at1 ad ⊢
  have h := bnd_e e66 h
  have k67 : gT o65 = 20 := by rw [e66]; exact gR_28 gT_c124 (gIn_lt hg64)
  rw [at1]
  rw [ad 238 (fun q9 => by rw [← q9] at k67; exact absurd k67 (by decide +kernel))]
  rw [ad 122 (fun q9 => by rw [← q9] at k67; exact absurd k67 (by decide +kernel))]
  have hx := hx.tr hxn
  have hsc := hx.sc hsc0
  refine g_mem (fun M68 e69 => ?_)
  have h := bnd_e e69 h
  refine g_aload_n X (j := 1) dX11_addPane_138 rfl rfl ?_
  refine gf_X11_26 X gT_c122 dX11_addPane_139 ?_
  refine g_aload_n X (j := 1) dX11_addPane_142 rfl rfl ?_
  refine gf_X11_82 X gT_c122 dX11_addPane_143 ?_
  refine g_aload X (j := 0) dX11_addPane_146 rfl ?_
  obtain ⟨hg70, h⟩ := grd_e h
  refine g_aastTz X hz (t := 2) (g := 238) (N := 3) rfl (by decide +kernel) gT_c125 hg70 gT_c238 (by decide +kernel) dX11_addPane_148 (fun x hxn X hB hz at1 ad => ?_)
  have B := hB _ B
  obtain ⟨o71, e72⟩ : ∃ o9, o9 = gR 125 (gI M68 122 4).toNatClampNeg := ⟨_, rfl⟩
  rw [← e72] at at1 ad ⊢
  have h := bnd_e e72 h
  have k73 : gT o71 = 22 := by rw [e72]; exact gR_29 gT_c125 (gIn_lt hg70)
  rw [at1]
  rw [ad 122 (fun q9 => by rw [← q9] at k73; exact absurd k73 (by decide +kernel))]
  rw [ad o65 (fun q9 => by rw [← q9, k67] at k73; exact absurd k73 (by decide +kernel))]
  have hx := hx.tr hxn
  have hsc := hx.sc hsc0
  refine g_mem (fun M74 e75 => ?_)
  have h := bnd_e e75 h
  refine g_aload_n X (j := 1) dX11_addPane_149 rfl rfl ?_
  refine g_dup X dX11_addPane_150 rfl ?_
  refine gf_X11_82 X gT_c122 dX11_addPane_151 ?_
  refine g_iconst X (v := 1) dX11_addPane_154 (by decide) ?_
  refine g_iadd X dX11_addPane_155 ?_
  refine gp_X11_82 X gT_c122 dX11_addPane_156 ?_
  refine g_mem (fun M76 e77 => ?_)
  have h := bnd_e e77 h
  refine g_aload_n X (j := 1) dX11_addPane_159 rfl rfl ?_
  refine gf_X11_10 X gT_c122 dX11_addPane_160 ?_
  refine g_aload X (j := 2) dX11_addPane_163 rfl ?_
  refine g_iconst X (v := 0) dX11_addPane_165 (by decide) ?_
  obtain ⟨hg78, h⟩ := grd_e h
  refine g_iald X k67 hg78 dX11_addPane_166 ?_
  rw [tn_0]
  refine g_aload X (j := 2) dX11_addPane_167 rfl ?_
  refine g_iconst X (v := 1) dX11_addPane_169 (by decide) ?_
  obtain ⟨hg79, h⟩ := grd_e h
  refine g_iald X k67 hg79 dX11_addPane_170 ?_
  rw [tn_1]
  refine g_aload X (j := 2) dX11_addPane_171 rfl ?_
  refine g_iconst X (v := 2) dX11_addPane_173 (by decide) ?_
  obtain ⟨hg80, h⟩ := grd_e h
  refine g_iald X k67 hg80 dX11_addPane_174 ?_
  rw [tn_2]
  refine g_aload X (j := 2) dX11_addPane_175 rfl ?_
  refine g_iconst X (v := 3) dX11_addPane_177 (by decide) ?_
  obtain ⟨hg81, h⟩ := grd_e h
  refine g_iald X k67 hg81 dX11_addPane_178 ?_
  rw [tn_3]
  refine g_aload X (j := 0) dX11_addPane_179 rfl ?_
  refine g_iconst X (v := 0) dX11_addPane_181 (by decide) ?_
  obtain ⟨hg82, h⟩ := grd_e h
  refine g_zald X k73 hg82 dX11_addPane_182 ?_
  rw [tn_0]
  refine g_aload X (j := 0) dX11_addPane_183 rfl ?_
  refine g_iconst X (v := 1) dX11_addPane_185 (by decide) ?_
  obtain ⟨hg83, h⟩ := grd_e h
  refine g_zald X k73 hg83 dX11_addPane_186 ?_
  rw [tn_1]
  rcases bndT_e h with ⟨_, hc84, h⟩ | ⟨⟨v85, M86⟩, hc84, h⟩
  · cases h
  refine gc_X11_85 X gT_c0 (ct_X10_addPane X.htr  hc84) (by decide) (Nat.le_of_ble_eq_true rfl) dX11_addPane_187 ?_
  refine g_aload_n X (j := 1) dX11_addPane_190 rfl rfl ?_
  refine gf_X11_82 X gT_c122 dX11_addPane_191 ?_
  refine g_iconst X (v := 1) dX11_addPane_194 (by decide) ?_
  refine g_isub X dX11_addPane_195 ?_
  refine g_icmp_ne X (tgt := 203) dX11_addPane_196 (by decide) (fun hb => ?_) (fun hb => ?_)
  · have h := ite_f hb h
    refine g_iconst X (v := 0) dX11_addPane_203 (by decide) ?_
    cases h
  · have h := ite_t hb h
    refine g_iconst X (v := 1) dX11_addPane_199 (by decide) ?_
    refine g_goto X (tgt := 204) dX11_addPane_200 (by decide) ?_
    exact hR x (1 : Int32) M86 _ _ hx X (B.le (by omega)) hz (Option.some.inj h).symm (Or.inr rfl) dX11_addPane_204
def bk_X11_addPane_104 (F : Nat) (L9 : Nat) (xs9 : Nat → Int32) (a47 : Int32) (a48 : Int32) (M : GM) : Option (Int32 × GM) := grd (gIn a48 (gN 238)) (grd (gTf a47) (bnd (sI M 238 a48.toNatClampNeg a47) (fun M51 => bndO (f_X11_draw F L9 xs9 (3 : Int32) M51) (fun (v54, M55) => if v54 ≤ 0 then (bk_X11_addPane_120 F L9 xs9 (0 : Int32) (1 : Int32) M55) else (bk_X11_addPane_120 F L9 xs9 (1 : Int32) (1 : Int32) M55)))))
set_option maxHeartbeats 4000000 in
set_option maxRecDepth 100000 in
theorem bw_X11_addPane_104 {x0 x : GX} (hx : XR x0 x) (X : GC x cX11_addPane 6 RX11 8) (B : XB x (0)) (hz : TZ (xz x) [1, 2]) {a47 : Int32} {a48 : Int32}   {F : Nat} {L9 : Nat} {xs9 : Nat → Int32} {M : GM} {r9 : (Int32 × GM)} (hsc0 : gsl (xz x0) = L9 ∧ gsx (xz x0) = xs9) (hR : ∀ (x9 : GX) (v9 : Int32) (M9 : GM) (lv9 : List (Nat × Value)) (pc9 : Nat), XR x0 x9 → GC x9 cX11_addPane 6 RX11 8 → XB x9 0 → TZ (xz x9) [] → r9 = (v9, M9) → (v9 = 0 ∨ v9 = 1) → decode cX11_addPane pc9 = .ok (.ireturn, 1) → WG x9 M9 lv9 pc9 [.int v9]) (h : bk_X11_addPane_104 F L9 xs9 a47 a48 M = some r9) : WG x M [(0, .ref (gad (xz x) 122)), (4, .ref (gad (xz x) 237))] 104 [.int a47, .int a48, .ref (gad (xz x) 238), .ref (gad (xz x) 238)] := by
  unfold bk_X11_addPane_104 at h
  have hsc := hx.sc hsc0
  obtain ⟨hg49, h⟩ := grd_e h
  obtain ⟨hg50, h⟩ := grd_e h
  refine t_zast X hz (hz.mem (t := 2) (by decide)) gT_c238 hg49 (gTf_of hg50) dX11_addPane_104 ?_
  refine g_mem (fun M51 e52 => ?_)
  have h := bnd_e e52 h
  refine g_dup X dX11_addPane_105 rfl ?_
  refine g_iconst X (v := 1) dX11_addPane_106 (by decide) ?_
  refine g_aload_n X (j := 0) dX11_addPane_107 rfl rfl ?_
  refine g_iconst X (v := 3) dX11_addPane_108 (by decide) ?_
  obtain ⟨⟨v54, M55⟩, hc53, h⟩ := bndO_e h
  refine gc_X11_64 X gT_c122 (ct_X11_draw X.htr hsc hc53) (by decide) (Nat.le_of_ble_eq_true rfl) dX11_addPane_109 ?_
  refine g_if_le X (tgt := 119) dX11_addPane_112 (by decide) (fun hb => ?_) (fun hb => ?_)
  · have h := ite_t hb h
    refine g_iconst X (v := 0) dX11_addPane_119 (by decide) ?_
    refine g_lv [0, 1] rfl ?_
    exact bw_X11_addPane_120 hx X (B.le (by omega)) hz  hsc0 hR h
  · have h := ite_f hb h
    refine g_iconst X (v := 1) dX11_addPane_115 (by decide) ?_
    refine g_goto X (tgt := 120) dX11_addPane_116 (by decide) ?_
    refine g_lv [0, 1] rfl ?_
    exact bw_X11_addPane_120 hx X (B.le (by omega)) hz  hsc0 hR h
def f_X11_addPane (F : Nat) (L9 : Nat) (xs9 : Nat → Int32) (M : GM) : Option (Int32 × GM) := bndO (f_X11_draw F L9 xs9 (gI M 122 3) M) (fun (v2, M3) => bnd v2 (fun v4 => bndO (f_X11_draw F L9 xs9 ((gI M3 122 3) - (2 : Int32)) M3) (fun (v7, M8) => grd (decide (¬ (gI M8 122 3) = 0)) (bnd (((v4 + (1 : Int32)) + v7) - ((v4 + (1 : Int32)) + v7) / (gI M8 122 3) * (gI M8 122 3)) (fun v10 => bndO (f_X11_draw F L9 xs9 (gI M8 122 3) M8) (fun (v13, M14) => bnd v13 (fun v15 => bndO (lp_X11_addPane_38 F L9 xs9 v4 v10 F v15 M14) (fun (v26, M27) => bnd (sC M27 237 0 4 (fun _ => 0)) (fun M29 => bnd (sI M29 237 0 v4) (fun M31 => bnd (sI M31 237 1 v10) (fun M33 => bnd (sI M33 237 2 v26) (fun M35 => bndO (f_X11_between F L9 xs9 ((-1) : Int32) (3 : Int32) M35) (fun (v38, M39) => bnd (sI M39 237 3 v38) (fun M40 => bnd (sC M40 238 0 3 (fun _ => 0)) (fun M42 => bndO (f_X11_draw F L9 xs9 (4 : Int32) M42) (fun (v45, M46) => if v45 = 0 then (bk_X11_addPane_104 F L9 xs9 (1 : Int32) (0 : Int32) M46) else (bk_X11_addPane_104 F L9 xs9 (0 : Int32) (0 : Int32) M46)))))))))))))))))
set_option maxHeartbeats 4000000 in
set_option maxRecDepth 100000 in
theorem w_X11_addPane {x0 x : GX} (hx : XR x0 x) (X : GC x cX11_addPane 6 RX11 8) (B : XB x 2) (hz : TZ (xz x) [])   {F : Nat} {L9 : Nat} {xs9 : Nat → Int32} {M : GM} {r9 : (Int32 × GM)} (hsc0 : gsl (xz x0) = L9 ∧ gsx (xz x0) = xs9) (hR : ∀ (x9 : GX) (v9 : Int32) (M9 : GM) (lv9 : List (Nat × Value)) (pc9 : Nat), XR x0 x9 → GC x9 cX11_addPane 6 RX11 8 → XB x9 0 → TZ (xz x9) [] → r9 = (v9, M9) → (v9 = 0 ∨ v9 = 1) → decode cX11_addPane pc9 = .ok (.ireturn, 1) → WG x9 M9 lv9 pc9 [.int v9]) (h : f_X11_addPane F L9 xs9 M = some r9) : WG x M [(0, .ref (gad (xz x) 122))] 0 [] := by
  unfold f_X11_addPane at h
  have hsc := hx.sc hsc0
  refine g_aload_n X (j := 0) dX11_addPane_0 rfl rfl ?_
  refine g_aload_n X (j := 0) dX11_addPane_1 rfl rfl ?_
  refine gf_X11_75 X gT_c122 dX11_addPane_2 ?_
  obtain ⟨⟨v2, M3⟩, hc1, h⟩ := bndO_e h
  refine gc_X11_64 X gT_c122 (ct_X11_draw X.htr hsc hc1) (by decide) (Nat.le_of_ble_eq_true rfl) dX11_addPane_5 ?_
  refine g_topi (fun v4 e5 => ?_)
  have h := bnd_e e5 h
  refine g_istore_n X (lv' := [(1, .int v4), (0, .ref (gad (xz x) 122))]) dX11_addPane_8 rfl (by decide) rfl ?_
  refine g_iload_n X (j := 0) dX11_addPane_9 rfl rfl ?_
  refine g_iconst X (v := 1) dX11_addPane_10 (by decide) ?_
  refine g_iadd X dX11_addPane_11 ?_
  refine g_aload_n X (j := 1) dX11_addPane_12 rfl rfl ?_
  refine g_aload_n X (j := 1) dX11_addPane_13 rfl rfl ?_
  refine gf_X11_75 X gT_c122 dX11_addPane_14 ?_
  refine g_iconst X (v := 2) dX11_addPane_17 (by decide) ?_
  refine g_isub X dX11_addPane_18 ?_
  obtain ⟨⟨v7, M8⟩, hc6, h⟩ := bndO_e h
  refine gc_X11_64 X gT_c122 (ct_X11_draw X.htr hsc hc6) (by decide) (Nat.le_of_ble_eq_true rfl) dX11_addPane_19 ?_
  refine g_iadd X dX11_addPane_22 ?_
  refine g_aload_n X (j := 1) dX11_addPane_23 rfl rfl ?_
  refine gf_X11_75 X gT_c122 dX11_addPane_24 ?_
  obtain ⟨hg9, h⟩ := grd_e h
  refine g_irem X dX11_addPane_27 (of_decide_eq_true hg9) ?_
  refine g_topi (fun v10 e11 => ?_)
  have h := bnd_e e11 h
  refine g_istore_n X (lv' := [(2, .int v10), (1, .int v4), (0, .ref (gad (xz x) 122))]) dX11_addPane_28 rfl (by decide) rfl ?_
  refine g_aload_n X (j := 2) dX11_addPane_29 rfl rfl ?_
  refine g_aload_n X (j := 2) dX11_addPane_30 rfl rfl ?_
  refine gf_X11_75 X gT_c122 dX11_addPane_31 ?_
  obtain ⟨⟨v13, M14⟩, hc12, h⟩ := bndO_e h
  refine gc_X11_64 X gT_c122 (ct_X11_draw X.htr hsc hc12) (by decide) (Nat.le_of_ble_eq_true rfl) dX11_addPane_34 ?_
  refine g_topi (fun v15 e16 => ?_)
  have h := bnd_e e16 h
  refine g_istore_n X (lv' := [(3, .int v15), (2, .int v10), (1, .int v4), (0, .ref (gad (xz x) 122))]) dX11_addPane_37 rfl (by decide) rfl ?_
  refine g_lv [3, 2, 1, 0] rfl ?_
  obtain ⟨⟨v26, M27⟩, hl28, h⟩ := bndO_e h
  refine lw_X11_addPane_38 (ke := 2)  hsc0 (fun x v26_ M27_ hx X B hz e9 => ?_) F x v15 M14 hx X (B.le (by omega)) hz hl28
  cases e9
  have hsc := hx.sc hsc0
  refine g_iconst X (v := 4) dX11_addPane_60 (by decide) ?_
  refine g_newTi X hz (t := 1) (g := 237) (N := 4) rfl (by decide) (by decide) (by decide +kernel) (by decide +kernel) (by decide) tn_4 (by decide) (k := 1) (B.le (by omega)) q_ac20 dX11_addPane_61 (fun x hxn X B hz ad => ?_)
  rw [ad 122 (by decide)]
  have hx := hx.tr hxn
  have hsc := hx.sc hsc0
  refine g_mem (fun M29 e30 => ?_)
  have h := bnd_e e30 h
  refine g_dup X dX11_addPane_63 rfl ?_
  refine g_iconst X (v := 0) dX11_addPane_64 (by decide) ?_
  refine g_iload_n X (j := 1) dX11_addPane_65 rfl rfl ?_
  refine t_iast X hz (hz.mem (t := 1) (by decide)) gT_c237 (by decide +kernel) dX11_addPane_66 ?_
  rw [tn_0]
  refine g_mem (fun M31 e32 => ?_)
  have h := bnd_e e32 h
  refine g_dup X dX11_addPane_67 rfl ?_
  refine g_iconst X (v := 1) dX11_addPane_68 (by decide) ?_
  refine g_iload_n X (j := 2) dX11_addPane_69 rfl rfl ?_
  refine t_iast X hz (hz.mem (t := 1) (by decide)) gT_c237 (by decide +kernel) dX11_addPane_70 ?_
  rw [tn_1]
  refine g_mem (fun M33 e34 => ?_)
  have h := bnd_e e34 h
  refine g_dup X dX11_addPane_71 rfl ?_
  refine g_iconst X (v := 2) dX11_addPane_72 (by decide) ?_
  refine g_iload_n X (j := 3) dX11_addPane_73 rfl rfl ?_
  refine t_iast X hz (hz.mem (t := 1) (by decide)) gT_c237 (by decide +kernel) dX11_addPane_74 ?_
  rw [tn_2]
  refine g_mem (fun M35 e36 => ?_)
  have h := bnd_e e36 h
  refine g_dup X dX11_addPane_75 rfl ?_
  refine g_iconst X (v := 3) dX11_addPane_76 (by decide) ?_
  refine g_aload_n X (j := 0) dX11_addPane_77 rfl rfl ?_
  refine g_iconst X (v := (-1)) dX11_addPane_78 (by decide) ?_
  refine g_iconst X (v := 3) dX11_addPane_79 (by decide) ?_
  obtain ⟨⟨v38, M39⟩, hc37, h⟩ := bndO_e h
  refine gc_X11_68 X gT_c122 (ct_X11_between X.htr hsc hc37) (by decide) (Nat.le_of_ble_eq_true rfl) dX11_addPane_80 ?_
  refine t_iast X hz (hz.mem (t := 1) (by decide)) gT_c237 (by decide +kernel) dX11_addPane_83 ?_
  rw [tn_3]
  refine g_mem (fun M40 e41 => ?_)
  have h := bnd_e e41 h
  refine g_astore X (lv' := [(4, .ref (gad (xz x) 237)), (0, .ref (gad (xz x) 122)), (1, .int v4), (2, .int v10), (3, .int v26)]) dX11_addPane_84 (by decide) rfl ?_
  refine g_iconst X (v := 3) dX11_addPane_86 (by decide) ?_
  refine g_newTz X hz (t := 2) (g := 238) (N := 3) rfl (by decide) (by decide) (by decide +kernel) (by decide +kernel) (by decide) tn_3 (by decide) (k := 0) (B.le (by omega)) q_ac22 dX11_addPane_87 (fun x hxn X B hz ad => ?_)
  rw [ad 237 (by decide)]
  rw [ad 122 (by decide)]
  have hx := hx.tr hxn
  have hsc := hx.sc hsc0
  refine g_mem (fun M42 e43 => ?_)
  have h := bnd_e e43 h
  refine g_dup X dX11_addPane_89 rfl ?_
  refine g_iconst X (v := 0) dX11_addPane_90 (by decide) ?_
  refine g_aload_n X (j := 1) dX11_addPane_91 rfl rfl ?_
  refine g_iconst X (v := 4) dX11_addPane_92 (by decide) ?_
  obtain ⟨⟨v45, M46⟩, hc44, h⟩ := bndO_e h
  refine gc_X11_64 X gT_c122 (ct_X11_draw X.htr hsc hc44) (by decide) (Nat.le_of_ble_eq_true rfl) dX11_addPane_93 ?_
  refine g_if_ne X (tgt := 103) dX11_addPane_96 (by decide) (fun hb => ?_) (fun hb => ?_)
  · have h := ite_f hb h
    refine g_iconst X (v := 0) dX11_addPane_103 (by decide) ?_
    refine g_lv [1, 0] rfl ?_
    exact bw_X11_addPane_104 hx X (B.le (by omega)) hz  hsc0 hR h
  · have h := ite_t hb h
    refine g_iconst X (v := 1) dX11_addPane_99 (by decide) ?_
    refine g_goto X (tgt := 104) dX11_addPane_100 (by decide) ?_
    refine g_lv [1, 0] rfl ?_
    exact bw_X11_addPane_104 hx X (B.le (by omega)) hz  hsc0 hR h
theorem ct_X11_addPane {l : Launch} {z : GZ} (htr : l.stackTraces = false) {L9 : Nat} {xs9 : Nat → Int32} (hsc : gsl z = L9 ∧ gsx z = xs9)   {M : GM} {F : Nat} {v : Int32} {M1 : GM} (h : f_X11_addPane F L9 xs9 M = some (v, M1)) : aMet l z yX11_addPane cX11_addPane 6 8 [.ref (gad z 122)] M v M1 2 := aMet_of (by decide +kernel) (Nat.le_of_ble_eq_true rfl) htr (fun x X B hz ez el hR => by subst ez; subst el; exact w_X11_addPane (XR.rf x) X B hz  hsc (fun x9 v9 M9 lv9 pc9 hx9 X9 B9 hz9 e9 z9 d9 => by cases e9; exact hR x9 hx9 X9 B9 hz9 lv9 pc9 z9 d9) h)
theorem gc_X11_112 {x : GX} {cc : ByteArray} {nL d pc : Nat} {M : GM} {lv : List (Nat × Value)} {st : List Value} (X : GC x cc nL RX11 d) {i0 : Int32} {i1 : Int32} {i2 : Int32} {i3 : Int32} {i4 : Int32} {M1 : GM} {r : Int32} (ht : gT 0 = 10) (hM : gMet (xl x) (xz x) yX10_setCamera cX10_setCamera 6 (some .int) 7 [.ref (gad (xz x) 0), .int i0, .int i1, .int i2, .int i3, .int i4] M (some (.int r)) M1) (hd : 8 ≤ d) (hsum : (st.map fun v => v.category).sum ≤ 8) (dec : decode cc pc = .ok (.invokevirtual 112, 3)) (go : WG x M1 lv (pc + 3) (.int r :: st)) : WG x M lv pc (.int i4 :: .int i3 :: .int i2 :: .int i1 :: .int i0 :: .ref (gad (xz x) 0) :: st) := g_callV X (n := 5) (As := [.int i0, .int i1, .int i2, .int i3, .int i4]) (rest := st) hM ht (by decide) (gE_10 ht) rfl q_971 q_972 q_973 q_17 q_974 (by decide +kernel) rfl hd (by decide) rfl hsum dec go
theorem gx_X11_112 {x : GX} {cc : ByteArray} {nL d pc : Nat} {M : GM} {lv : List (Nat × Value)} {st : List Value} (X : GC x cc nL RX11 d) {i0 : Int32} {i1 : Int32} {i2 : Int32} {i3 : Int32} {i4 : Int32} {M1 : GM} {n9 : Nat} (ht : gT 0 = 10) (hM : gMetX (xl x) (xz x) yX10_setCamera cX10_setCamera 6 (some .int) 7 [.ref (gad (xz x) 0), .int i0, .int i1, .int i2, .int i3, .int i4] M n9 M1) (hd : 8 ≤ d) (hsum : (st.map fun v => v.category).sum ≤ 8) (dec : decode cc pc = .ok (.invokevirtual 112, 3)) (hT : GThr x n9 M1) : WG x M lv pc (.int i4 :: .int i3 :: .int i2 :: .int i1 :: .int i0 :: .ref (gad (xz x) 0) :: st) := g_xV X (n := 5) (As := [.int i0, .int i1, .int i2, .int i3, .int i4]) (rest := st) hM ht (by decide) (gE_10 ht) rfl q_971 q_972 q_973 q_17 q_974 (by decide +kernel) rfl hd (by decide) rfl hsum dec hT
theorem dX11_turnCamera_0 : decode cX11_turnCamera 0 = .ok (.iconst 4, 1) := by decide +kernel
theorem dX11_turnCamera_1 : decode cX11_turnCamera 1 = .ok (.newarray .int, 2) := by decide +kernel
theorem dX11_turnCamera_3 : decode cX11_turnCamera 3 = .ok (.dup, 1) := by decide +kernel
theorem dX11_turnCamera_4 : decode cX11_turnCamera 4 = .ok (.iconst 0, 1) := by decide +kernel
theorem dX11_turnCamera_5 : decode cX11_turnCamera 5 = .ok (.aload_n 0, 1) := by decide +kernel
theorem dX11_turnCamera_6 : decode cX11_turnCamera 6 = .ok (.sipush (-200), 3) := by decide +kernel
theorem dX11_turnCamera_9 : decode cX11_turnCamera 9 = .ok (.sipush 200, 3) := by decide +kernel
theorem dX11_turnCamera_12 : decode cX11_turnCamera 12 = .ok (.invokevirtual 68, 3) := by decide +kernel
theorem dX11_turnCamera_15 : decode cX11_turnCamera 15 = .ok (.iastore, 1) := by decide +kernel
theorem dX11_turnCamera_16 : decode cX11_turnCamera 16 = .ok (.dup, 1) := by decide +kernel
theorem dX11_turnCamera_17 : decode cX11_turnCamera 17 = .ok (.iconst 1, 1) := by decide +kernel
theorem dX11_turnCamera_18 : decode cX11_turnCamera 18 = .ok (.aload_n 0, 1) := by decide +kernel
theorem dX11_turnCamera_19 : decode cX11_turnCamera 19 = .ok (.sipush (-200), 3) := by decide +kernel
theorem dX11_turnCamera_22 : decode cX11_turnCamera 22 = .ok (.sipush 200, 3) := by decide +kernel
theorem dX11_turnCamera_25 : decode cX11_turnCamera 25 = .ok (.invokevirtual 68, 3) := by decide +kernel
theorem dX11_turnCamera_28 : decode cX11_turnCamera 28 = .ok (.iastore, 1) := by decide +kernel
theorem dX11_turnCamera_29 : decode cX11_turnCamera 29 = .ok (.dup, 1) := by decide +kernel
theorem dX11_turnCamera_30 : decode cX11_turnCamera 30 = .ok (.iconst 2, 1) := by decide +kernel
theorem dX11_turnCamera_31 : decode cX11_turnCamera 31 = .ok (.aload_n 0, 1) := by decide +kernel
theorem dX11_turnCamera_32 : decode cX11_turnCamera 32 = .ok (.sipush (-200), 3) := by decide +kernel
theorem dX11_turnCamera_35 : decode cX11_turnCamera 35 = .ok (.sipush 200, 3) := by decide +kernel
theorem dX11_turnCamera_38 : decode cX11_turnCamera 38 = .ok (.invokevirtual 68, 3) := by decide +kernel
theorem dX11_turnCamera_41 : decode cX11_turnCamera 41 = .ok (.iastore, 1) := by decide +kernel
theorem dX11_turnCamera_42 : decode cX11_turnCamera 42 = .ok (.dup, 1) := by decide +kernel
theorem dX11_turnCamera_43 : decode cX11_turnCamera 43 = .ok (.iconst 3, 1) := by decide +kernel
theorem dX11_turnCamera_44 : decode cX11_turnCamera 44 = .ok (.iload_n 1, 1) := by decide +kernel
theorem dX11_turnCamera_45 : decode cX11_turnCamera 45 = .ok (.iconst 2, 1) := by decide +kernel
theorem dX11_turnCamera_46 : decode cX11_turnCamera 46 = .ok (.if_icmp .ne 16, 3) := by decide +kernel
theorem dX11_turnCamera_49 : decode cX11_turnCamera 49 = .ok (.aload_n 0, 1) := by decide +kernel
theorem dX11_turnCamera_50 : decode cX11_turnCamera 50 = .ok (.sipush 300, 3) := by decide +kernel
theorem dX11_turnCamera_53 : decode cX11_turnCamera 53 = .ok (.sipush 700, 3) := by decide +kernel
theorem dX11_turnCamera_56 : decode cX11_turnCamera 56 = .ok (.invokevirtual 68, 3) := by decide +kernel
theorem dX11_turnCamera_59 : decode cX11_turnCamera 59 = .ok (.goto 11, 3) := by decide +kernel
theorem dX11_turnCamera_62 : decode cX11_turnCamera 62 = .ok (.aload_n 0, 1) := by decide +kernel
theorem dX11_turnCamera_63 : decode cX11_turnCamera 63 = .ok (.bipush (-60), 2) := by decide +kernel
theorem dX11_turnCamera_65 : decode cX11_turnCamera 65 = .ok (.bipush 60, 2) := by decide +kernel
theorem dX11_turnCamera_67 : decode cX11_turnCamera 67 = .ok (.invokevirtual 68, 3) := by decide +kernel
theorem dX11_turnCamera_70 : decode cX11_turnCamera 70 = .ok (.iastore, 1) := by decide +kernel
theorem dX11_turnCamera_71 : decode cX11_turnCamera 71 = .ok (.astore_n 2, 1) := by decide +kernel
theorem dX11_turnCamera_72 : decode cX11_turnCamera 72 = .ok (.aload_n 2, 1) := by decide +kernel
theorem dX11_turnCamera_73 : decode cX11_turnCamera 73 = .ok (.iload_n 1, 1) := by decide +kernel
theorem dX11_turnCamera_74 : decode cX11_turnCamera 74 = .ok (.aload_n 0, 1) := by decide +kernel
theorem dX11_turnCamera_75 : decode cX11_turnCamera 75 = .ok (.sipush 700, 3) := by decide +kernel
theorem dX11_turnCamera_78 : decode cX11_turnCamera 78 = .ok (.sipush 1300, 3) := by decide +kernel
theorem dX11_turnCamera_81 : decode cX11_turnCamera 81 = .ok (.invokevirtual 68, 3) := by decide +kernel
theorem dX11_turnCamera_84 : decode cX11_turnCamera 84 = .ok (.iastore, 1) := by decide +kernel
theorem dX11_turnCamera_85 : decode cX11_turnCamera 85 = .ok (.aload_n 0, 1) := by decide +kernel
theorem dX11_turnCamera_86 : decode cX11_turnCamera 86 = .ok (.getfield 31, 3) := by decide +kernel
theorem dX11_turnCamera_89 : decode cX11_turnCamera 89 = .ok (.iload_n 1, 1) := by decide +kernel
theorem dX11_turnCamera_90 : decode cX11_turnCamera 90 = .ok (.aload_n 2, 1) := by decide +kernel
theorem dX11_turnCamera_91 : decode cX11_turnCamera 91 = .ok (.aastore, 1) := by decide +kernel
theorem dX11_turnCamera_92 : decode cX11_turnCamera 92 = .ok (.aload_n 0, 1) := by decide +kernel
theorem dX11_turnCamera_93 : decode cX11_turnCamera 93 = .ok (.getfield 10, 3) := by decide +kernel
theorem dX11_turnCamera_96 : decode cX11_turnCamera 96 = .ok (.iload_n 1, 1) := by decide +kernel
theorem dX11_turnCamera_97 : decode cX11_turnCamera 97 = .ok (.aload_n 2, 1) := by decide +kernel
theorem dX11_turnCamera_98 : decode cX11_turnCamera 98 = .ok (.iconst 0, 1) := by decide +kernel
theorem dX11_turnCamera_99 : decode cX11_turnCamera 99 = .ok (.iaload, 1) := by decide +kernel
theorem dX11_turnCamera_100 : decode cX11_turnCamera 100 = .ok (.aload_n 2, 1) := by decide +kernel
theorem dX11_turnCamera_101 : decode cX11_turnCamera 101 = .ok (.iconst 1, 1) := by decide +kernel
theorem dX11_turnCamera_102 : decode cX11_turnCamera 102 = .ok (.iaload, 1) := by decide +kernel
theorem dX11_turnCamera_103 : decode cX11_turnCamera 103 = .ok (.aload_n 2, 1) := by decide +kernel
theorem dX11_turnCamera_104 : decode cX11_turnCamera 104 = .ok (.iconst 2, 1) := by decide +kernel
theorem dX11_turnCamera_105 : decode cX11_turnCamera 105 = .ok (.iaload, 1) := by decide +kernel
theorem dX11_turnCamera_106 : decode cX11_turnCamera 106 = .ok (.aload_n 2, 1) := by decide +kernel
theorem dX11_turnCamera_107 : decode cX11_turnCamera 107 = .ok (.iconst 3, 1) := by decide +kernel
theorem dX11_turnCamera_108 : decode cX11_turnCamera 108 = .ok (.iaload, 1) := by decide +kernel
theorem dX11_turnCamera_109 : decode cX11_turnCamera 109 = .ok (.invokevirtual 112, 3) := by decide +kernel
theorem dX11_turnCamera_112 : decode cX11_turnCamera 112 = .ok (.aload_n 0, 1) := by decide +kernel
theorem dX11_turnCamera_113 : decode cX11_turnCamera 113 = .ok (.invokevirtual 116, 3) := by decide +kernel
theorem dX11_turnCamera_116 : decode cX11_turnCamera 116 = .ok (.if_icmp .ne 7, 3) := by decide +kernel
theorem dX11_turnCamera_119 : decode cX11_turnCamera 119 = .ok (.iconst 1, 1) := by decide +kernel
theorem dX11_turnCamera_120 : decode cX11_turnCamera 120 = .ok (.goto 4, 3) := by decide +kernel
theorem dX11_turnCamera_123 : decode cX11_turnCamera 123 = .ok (.iconst 0, 1) := by decide +kernel
theorem dX11_turnCamera_124 : decode cX11_turnCamera 124 = .ok (.ireturn, 1) := by decide +kernel
def bk_X11_turnCamera_70 (F : Nat) (L9 : Nat) (xs9 : Nat → Int32) (a21 : Int32) (a22 : Int32) (a23 : Int32) (M : GM) : Option (Int32 × GM) := grd (gIn a23 (gN 237)) (bnd (sI M 237 a23.toNatClampNeg a22) (fun M25 => bndO (f_X11_between F L9 xs9 (700 : Int32) (1300 : Int32) M25) (fun (v28, M29) => grd (gIn a21 (gN 237)) (bnd (sI M29 237 a21.toNatClampNeg v28) (fun M31 => grd (gIn a21 (gN 126)) (bnd (gR 126 a21.toNatClampNeg) (fun o34 => bnd (sC M31 o34 0 4 (fun j => gI M31 237 j)) (fun M37 => grd (gIn (0 : Int32) (gN o34)) (grd (gIn (1 : Int32) (gN o34)) (grd (gIn (2 : Int32) (gN o34)) (grd (gIn (3 : Int32) (gN o34)) (bndT (f_X10_setCamera F a21 (gI M37 o34 0) (gI M37 o34 1) (gI M37 o34 2) (gI M37 o34 3) M37) (fun _ => none) (fun (v44, M45) => bndO (f_X11_inFront F M45) (fun v47 => if v44 = v47 then (some ((1 : Int32), M45)) else (none)))))))))))))))
set_option maxHeartbeats 4000000 in
set_option maxRecDepth 100000 in
theorem bw_X11_turnCamera_70 {x0 x : GX} (hx : XR x0 x) (X : GC x cX11_turnCamera 3 RX11 8) (B : XB x (0)) (hz : TZ (xz x) [1]) {a21 : Int32} {a22 : Int32} {a23 : Int32}   {F : Nat} {L9 : Nat} {xs9 : Nat → Int32} {M : GM} {r9 : (Int32 × GM)} (hsc0 : gsl (xz x0) = L9 ∧ gsx (xz x0) = xs9) (hR : ∀ (x9 : GX) (v9 : Int32) (M9 : GM) (lv9 : List (Nat × Value)) (pc9 : Nat), XR x0 x9 → GC x9 cX11_turnCamera 3 RX11 8 → XB x9 0 → TZ (xz x9) [] → r9 = (v9, M9) → (v9 = 0 ∨ v9 = 1) → decode cX11_turnCamera pc9 = .ok (.ireturn, 1) → WG x9 M9 lv9 pc9 [.int v9]) (h : bk_X11_turnCamera_70 F L9 xs9 a21 a22 a23 M = some r9) : WG x M [(0, .ref (gad (xz x) 122)), (1, .int a21)] 70 [.int a22, .int a23, .ref (gad (xz x) 237), .ref (gad (xz x) 237)] := by
  unfold bk_X11_turnCamera_70 at h
  have hsc := hx.sc hsc0
  obtain ⟨hg24, h⟩ := grd_e h
  refine t_iast X hz (hz.mem (t := 1) (by decide)) gT_c237 hg24 dX11_turnCamera_70 ?_
  refine g_mem (fun M25 e26 => ?_)
  have h := bnd_e e26 h
  refine g_astore_n X (lv' := [(2, .ref (gad (xz x) 237)), (0, .ref (gad (xz x) 122)), (1, .int a21)]) dX11_turnCamera_71 rfl (by decide) rfl ?_
  refine g_aload_n X (j := 0) dX11_turnCamera_72 rfl rfl ?_
  refine g_iload_n X (j := 2) dX11_turnCamera_73 rfl rfl ?_
  refine g_aload_n X (j := 1) dX11_turnCamera_74 rfl rfl ?_
  refine g_sipush X (v := 700) dX11_turnCamera_75 (by decide) ?_
  refine g_sipush X (v := 1300) dX11_turnCamera_78 (by decide) ?_
  obtain ⟨⟨v28, M29⟩, hc27, h⟩ := bndO_e h
  refine gc_X11_68 X gT_c122 (ct_X11_between X.htr hsc hc27) (by decide) (Nat.le_of_ble_eq_true rfl) dX11_turnCamera_81 ?_
  obtain ⟨hg30, h⟩ := grd_e h
  refine t_iast X hz (hz.mem (t := 1) (by decide)) gT_c237 hg30 dX11_turnCamera_84 ?_
  refine g_mem (fun M31 e32 => ?_)
  have h := bnd_e e32 h
  refine g_aload_n X (j := 1) dX11_turnCamera_85 rfl rfl ?_
  refine gf_X11_31 X gT_c122 dX11_turnCamera_86 ?_
  refine g_iload_n X (j := 2) dX11_turnCamera_89 rfl rfl ?_
  refine g_aload_n X (j := 0) dX11_turnCamera_90 rfl rfl ?_
  obtain ⟨hg33, h⟩ := grd_e h
  refine g_aastTi X hz (t := 1) (g := 237) (N := 4) rfl (by decide +kernel) gT_c126 hg33 gT_c237 (by decide +kernel) dX11_turnCamera_91 (fun x hxn X hB hz at1 ad => ?_)
  have B := hB _ B
  obtain ⟨o34, e35⟩ : ∃ o9, o9 = gR 126 a21.toNatClampNeg := ⟨_, rfl⟩
  rw [← e35] at at1 ad ⊢
  have h := bnd_e e35 h
  have k36 : gT o34 = 20 := by rw [e35]; exact gR_28 gT_c126 (gIn_lt hg33)
  rw [at1]
  rw [ad 122 (fun q9 => by rw [← q9] at k36; exact absurd k36 (by decide +kernel))]
  have hx := hx.tr hxn
  have hsc := hx.sc hsc0
  refine g_mem (fun M37 e38 => ?_)
  have h := bnd_e e38 h
  refine g_aload_n X (j := 1) dX11_turnCamera_92 rfl rfl ?_
  refine gf_X11_10 X gT_c122 dX11_turnCamera_93 ?_
  refine g_iload_n X (j := 2) dX11_turnCamera_96 rfl rfl ?_
  refine g_aload_n X (j := 0) dX11_turnCamera_97 rfl rfl ?_
  refine g_iconst X (v := 0) dX11_turnCamera_98 (by decide) ?_
  obtain ⟨hg39, h⟩ := grd_e h
  refine g_iald X k36 hg39 dX11_turnCamera_99 ?_
  rw [tn_0]
  refine g_aload_n X (j := 0) dX11_turnCamera_100 rfl rfl ?_
  refine g_iconst X (v := 1) dX11_turnCamera_101 (by decide) ?_
  obtain ⟨hg40, h⟩ := grd_e h
  refine g_iald X k36 hg40 dX11_turnCamera_102 ?_
  rw [tn_1]
  refine g_aload_n X (j := 0) dX11_turnCamera_103 rfl rfl ?_
  refine g_iconst X (v := 2) dX11_turnCamera_104 (by decide) ?_
  obtain ⟨hg41, h⟩ := grd_e h
  refine g_iald X k36 hg41 dX11_turnCamera_105 ?_
  rw [tn_2]
  refine g_aload_n X (j := 0) dX11_turnCamera_106 rfl rfl ?_
  refine g_iconst X (v := 3) dX11_turnCamera_107 (by decide) ?_
  obtain ⟨hg42, h⟩ := grd_e h
  refine g_iald X k36 hg42 dX11_turnCamera_108 ?_
  rw [tn_3]
  rcases bndT_e h with ⟨_, hc43, h⟩ | ⟨⟨v44, M45⟩, hc43, h⟩
  · cases h
  refine gc_X11_112 X gT_c0 (ct_X10_setCamera X.htr  hc43) (by decide) (Nat.le_of_ble_eq_true rfl) dX11_turnCamera_109 ?_
  refine g_aload_n X (j := 1) dX11_turnCamera_112 rfl rfl ?_
  obtain ⟨v47, hc46, h⟩ := bndO_e h
  refine gc_X11_116 X gT_c122 (ct_X11_inFront X.htr  hc46) (by decide) (Nat.le_of_ble_eq_true rfl) dX11_turnCamera_113 ?_
  refine g_icmp_ne X (tgt := 123) dX11_turnCamera_116 (by decide) (fun hb => ?_) (fun hb => ?_)
  · have h := ite_f hb h
    refine g_iconst X (v := 0) dX11_turnCamera_123 (by decide) ?_
    cases h
  · have h := ite_t hb h
    refine g_iconst X (v := 1) dX11_turnCamera_119 (by decide) ?_
    refine g_goto X (tgt := 124) dX11_turnCamera_120 (by decide) ?_
    exact hR x (1 : Int32) M45 _ _ hx X (B.le (by omega)) hz (Option.some.inj h).symm (Or.inr rfl) dX11_turnCamera_124
def f_X11_turnCamera (F : Nat) (L9 : Nat) (xs9 : Nat → Int32) (i0 : Int32) (M : GM) : Option (Int32 × GM) := bnd (sC M 237 0 4 (fun _ => 0)) (fun M1 => bndO (f_X11_between F L9 xs9 ((-200) : Int32) (200 : Int32) M1) (fun (v4, M5) => bnd (sI M5 237 0 v4) (fun M6 => bndO (f_X11_between F L9 xs9 ((-200) : Int32) (200 : Int32) M6) (fun (v9, M10) => bnd (sI M10 237 1 v9) (fun M11 => bndO (f_X11_between F L9 xs9 ((-200) : Int32) (200 : Int32) M11) (fun (v14, M15) => bnd (sI M15 237 2 v14) (fun M16 => if i0 = (2 : Int32) then (bndO (f_X11_between F L9 xs9 (300 : Int32) (700 : Int32) M16) (fun (v49, M50) => bk_X11_turnCamera_70 F L9 xs9 i0 v49 (3 : Int32) M50)) else (bndO (f_X11_between F L9 xs9 ((-60) : Int32) (60 : Int32) M16) (fun (v19, M20) => bk_X11_turnCamera_70 F L9 xs9 i0 v19 (3 : Int32) M20)))))))))
set_option maxHeartbeats 4000000 in
set_option maxRecDepth 100000 in
theorem w_X11_turnCamera {x0 x : GX} (hx : XR x0 x) (X : GC x cX11_turnCamera 3 RX11 8) (B : XB x 1) (hz : TZ (xz x) []) {i0 : Int32}  {F : Nat} {L9 : Nat} {xs9 : Nat → Int32} {M : GM} {r9 : (Int32 × GM)} (hsc0 : gsl (xz x0) = L9 ∧ gsx (xz x0) = xs9) (hR : ∀ (x9 : GX) (v9 : Int32) (M9 : GM) (lv9 : List (Nat × Value)) (pc9 : Nat), XR x0 x9 → GC x9 cX11_turnCamera 3 RX11 8 → XB x9 0 → TZ (xz x9) [] → r9 = (v9, M9) → (v9 = 0 ∨ v9 = 1) → decode cX11_turnCamera pc9 = .ok (.ireturn, 1) → WG x9 M9 lv9 pc9 [.int v9]) (h : f_X11_turnCamera F L9 xs9 i0 M = some r9) : WG x M [(0, .ref (gad (xz x) 122)), (1, .int i0)] 0 [] := by
  unfold f_X11_turnCamera at h
  have hsc := hx.sc hsc0
  refine g_iconst X (v := 4) dX11_turnCamera_0 (by decide) ?_
  refine g_newTi X hz (t := 1) (g := 237) (N := 4) rfl (by decide) (by decide) (by decide +kernel) (by decide +kernel) (by decide) tn_4 (by decide) (k := 0) (B.le (by omega)) q_ac20 dX11_turnCamera_1 (fun x hxn X B hz ad => ?_)
  rw [ad 122 (by decide)]
  have hx := hx.tr hxn
  have hsc := hx.sc hsc0
  refine g_mem (fun M1 e2 => ?_)
  have h := bnd_e e2 h
  refine g_dup X dX11_turnCamera_3 rfl ?_
  refine g_iconst X (v := 0) dX11_turnCamera_4 (by decide) ?_
  refine g_aload_n X (j := 0) dX11_turnCamera_5 rfl rfl ?_
  refine g_sipush X (v := (-200)) dX11_turnCamera_6 (by decide) ?_
  refine g_sipush X (v := 200) dX11_turnCamera_9 (by decide) ?_
  obtain ⟨⟨v4, M5⟩, hc3, h⟩ := bndO_e h
  refine gc_X11_68 X gT_c122 (ct_X11_between X.htr hsc hc3) (by decide) (Nat.le_of_ble_eq_true rfl) dX11_turnCamera_12 ?_
  refine t_iast X hz (hz.mem (t := 1) (by decide)) gT_c237 (by decide +kernel) dX11_turnCamera_15 ?_
  rw [tn_0]
  refine g_mem (fun M6 e7 => ?_)
  have h := bnd_e e7 h
  refine g_dup X dX11_turnCamera_16 rfl ?_
  refine g_iconst X (v := 1) dX11_turnCamera_17 (by decide) ?_
  refine g_aload_n X (j := 0) dX11_turnCamera_18 rfl rfl ?_
  refine g_sipush X (v := (-200)) dX11_turnCamera_19 (by decide) ?_
  refine g_sipush X (v := 200) dX11_turnCamera_22 (by decide) ?_
  obtain ⟨⟨v9, M10⟩, hc8, h⟩ := bndO_e h
  refine gc_X11_68 X gT_c122 (ct_X11_between X.htr hsc hc8) (by decide) (Nat.le_of_ble_eq_true rfl) dX11_turnCamera_25 ?_
  refine t_iast X hz (hz.mem (t := 1) (by decide)) gT_c237 (by decide +kernel) dX11_turnCamera_28 ?_
  rw [tn_1]
  refine g_mem (fun M11 e12 => ?_)
  have h := bnd_e e12 h
  refine g_dup X dX11_turnCamera_29 rfl ?_
  refine g_iconst X (v := 2) dX11_turnCamera_30 (by decide) ?_
  refine g_aload_n X (j := 0) dX11_turnCamera_31 rfl rfl ?_
  refine g_sipush X (v := (-200)) dX11_turnCamera_32 (by decide) ?_
  refine g_sipush X (v := 200) dX11_turnCamera_35 (by decide) ?_
  obtain ⟨⟨v14, M15⟩, hc13, h⟩ := bndO_e h
  refine gc_X11_68 X gT_c122 (ct_X11_between X.htr hsc hc13) (by decide) (Nat.le_of_ble_eq_true rfl) dX11_turnCamera_38 ?_
  refine t_iast X hz (hz.mem (t := 1) (by decide)) gT_c237 (by decide +kernel) dX11_turnCamera_41 ?_
  rw [tn_2]
  refine g_mem (fun M16 e17 => ?_)
  have h := bnd_e e17 h
  refine g_dup X dX11_turnCamera_42 rfl ?_
  refine g_iconst X (v := 3) dX11_turnCamera_43 (by decide) ?_
  refine g_iload_n X (j := 1) dX11_turnCamera_44 rfl rfl ?_
  refine g_iconst X (v := 2) dX11_turnCamera_45 (by decide) ?_
  refine g_icmp_ne X (tgt := 62) dX11_turnCamera_46 (by decide) (fun hb => ?_) (fun hb => ?_)
  · have h := ite_f hb h
    refine g_aload_n X (j := 0) dX11_turnCamera_62 rfl rfl ?_
    refine g_bipush X (v := (-60)) dX11_turnCamera_63 (by decide) ?_
    refine g_bipush X (v := 60) dX11_turnCamera_65 (by decide) ?_
    obtain ⟨⟨v19, M20⟩, hc18, h⟩ := bndO_e h
    refine gc_X11_68 X gT_c122 (ct_X11_between X.htr hsc hc18) (by decide) (Nat.le_of_ble_eq_true rfl) dX11_turnCamera_67 ?_
    refine g_lv [0, 1] rfl ?_
    exact bw_X11_turnCamera_70 hx X (B.le (by omega)) hz  hsc0 hR h
  · have h := ite_t hb h
    refine g_aload_n X (j := 0) dX11_turnCamera_49 rfl rfl ?_
    refine g_sipush X (v := 300) dX11_turnCamera_50 (by decide) ?_
    refine g_sipush X (v := 700) dX11_turnCamera_53 (by decide) ?_
    obtain ⟨⟨v49, M50⟩, hc48, h⟩ := bndO_e h
    refine gc_X11_68 X gT_c122 (ct_X11_between X.htr hsc hc48) (by decide) (Nat.le_of_ble_eq_true rfl) dX11_turnCamera_56 ?_
    refine g_goto X (tgt := 70) dX11_turnCamera_59 (by decide) ?_
    refine g_lv [0, 1] rfl ?_
    exact bw_X11_turnCamera_70 hx X (B.le (by omega)) hz  hsc0 hR h
theorem ct_X11_turnCamera {l : Launch} {z : GZ} (htr : l.stackTraces = false) {L9 : Nat} {xs9 : Nat → Int32} (hsc : gsl z = L9 ∧ gsx z = xs9) {i0 : Int32}  {M : GM} {F : Nat} {v : Int32} {M1 : GM} (h : f_X11_turnCamera F L9 xs9 i0 M = some (v, M1)) : aMet l z yX11_turnCamera cX11_turnCamera 3 8 [.ref (gad z 122), .int i0] M v M1 1 := aMet_of (by decide +kernel) (Nat.le_of_ble_eq_true rfl) htr (fun x X B hz ez el hR => by subst ez; subst el; exact w_X11_turnCamera (XR.rf x) X B hz  hsc (fun x9 v9 M9 lv9 pc9 hx9 X9 B9 hz9 e9 z9 d9 => by cases e9; exact hR x9 hx9 X9 B9 hz9 lv9 pc9 z9 d9) h)
