/-! 21.m -/
theorem gc_X11_179 {x : GX} {cc : ByteArray} {nL d pc : Nat} {M : GM} {lv : List (Nat × Value)} {st : List Value} (X : GC x cc nL RX11 d) {i0 : Int64} {i1 : Int64} {M1 : GM} {r : Int64} (hM : gMet (xl x) (xz x) yX11_down cX11_down 6 (some .long) 0 [.long i0, .long i1] M (some (.long r)) M1) (hd : 1 ≤ d) (hsum : (st.map fun v => v.category).sum ≤ 8) (dec : decode cc pc = .ok (.invokestatic 179, 3)) (go : WG x M1 lv (pc + 3) (.long r :: st)) : WG x M lv pc (.long i1 :: .long i0 :: st) := g_callS X (n := 2) (As := [.long i0, .long i1]) (rest := st) hM q_1322 q_1323 q_63 q_1324 (by decide +kernel) rfl hd (by decide) rfl hsum dec go
theorem dX11_cut_0 : decode cX11_cut 0 = .ok (.iconst 0, 1) := by decide +kernel
theorem dX11_cut_1 : decode cX11_cut 1 = .ok (.istore 4, 2) := by decide +kernel
theorem dX11_cut_3 : decode cX11_cut 3 = .ok (.iload 4, 2) := by decide +kernel
theorem dX11_cut_5 : decode cX11_cut 5 = .ok (.bipush 8, 2) := by decide +kernel
theorem dX11_cut_7 : decode cX11_cut 7 = .ok (.if_icmp .ge 50, 3) := by decide +kernel
theorem dX11_cut_10 : decode cX11_cut 10 = .ok (.aload_n 3, 1) := by decide +kernel
theorem dX11_cut_11 : decode cX11_cut 11 = .ok (.iload 4, 2) := by decide +kernel
theorem dX11_cut_13 : decode cX11_cut 13 = .ok (.aload_n 1, 1) := by decide +kernel
theorem dX11_cut_14 : decode cX11_cut 14 = .ok (.iload 4, 2) := by decide +kernel
theorem dX11_cut_16 : decode cX11_cut 16 = .ok (.iaload, 1) := by decide +kernel
theorem dX11_cut_17 : decode cX11_cut 17 = .ok (.aload_n 2, 1) := by decide +kernel
theorem dX11_cut_18 : decode cX11_cut 18 = .ok (.iload 4, 2) := by decide +kernel
theorem dX11_cut_20 : decode cX11_cut 20 = .ok (.iaload, 1) := by decide +kernel
theorem dX11_cut_21 : decode cX11_cut 21 = .ok (.aload_n 1, 1) := by decide +kernel
theorem dX11_cut_22 : decode cX11_cut 22 = .ok (.iload 4, 2) := by decide +kernel
theorem dX11_cut_24 : decode cX11_cut 24 = .ok (.iaload, 1) := by decide +kernel
theorem dX11_cut_25 : decode cX11_cut 25 = .ok (.isub, 1) := by decide +kernel
theorem dX11_cut_26 : decode cX11_cut 26 = .ok (.i2l, 1) := by decide +kernel
theorem dX11_cut_27 : decode cX11_cut 27 = .ok (.aload_n 1, 1) := by decide +kernel
theorem dX11_cut_28 : decode cX11_cut 28 = .ok (.iconst 2, 1) := by decide +kernel
theorem dX11_cut_29 : decode cX11_cut 29 = .ok (.iaload, 1) := by decide +kernel
theorem dX11_cut_30 : decode cX11_cut 30 = .ok (.aload_n 0, 1) := by decide +kernel
theorem dX11_cut_31 : decode cX11_cut 31 = .ok (.getfield 9, 3) := by decide +kernel
theorem dX11_cut_34 : decode cX11_cut 34 = .ok (.isub, 1) := by decide +kernel
theorem dX11_cut_35 : decode cX11_cut 35 = .ok (.i2l, 1) := by decide +kernel
theorem dX11_cut_36 : decode cX11_cut 36 = .ok (.lmul, 1) := by decide +kernel
theorem dX11_cut_37 : decode cX11_cut 37 = .ok (.aload_n 1, 1) := by decide +kernel
theorem dX11_cut_38 : decode cX11_cut 38 = .ok (.iconst 2, 1) := by decide +kernel
theorem dX11_cut_39 : decode cX11_cut 39 = .ok (.iaload, 1) := by decide +kernel
theorem dX11_cut_40 : decode cX11_cut 40 = .ok (.aload_n 2, 1) := by decide +kernel
theorem dX11_cut_41 : decode cX11_cut 41 = .ok (.iconst 2, 1) := by decide +kernel
theorem dX11_cut_42 : decode cX11_cut 42 = .ok (.iaload, 1) := by decide +kernel
theorem dX11_cut_43 : decode cX11_cut 43 = .ok (.isub, 1) := by decide +kernel
theorem dX11_cut_44 : decode cX11_cut 44 = .ok (.i2l, 1) := by decide +kernel
theorem dX11_cut_45 : decode cX11_cut 45 = .ok (.invokestatic 179, 3) := by decide +kernel
theorem dX11_cut_48 : decode cX11_cut 48 = .ok (.l2i, 1) := by decide +kernel
theorem dX11_cut_49 : decode cX11_cut 49 = .ok (.iadd, 1) := by decide +kernel
theorem dX11_cut_50 : decode cX11_cut 50 = .ok (.iastore, 1) := by decide +kernel
theorem dX11_cut_51 : decode cX11_cut 51 = .ok (.iinc 4 1, 3) := by decide +kernel
theorem dX11_cut_54 : decode cX11_cut 54 = .ok (.goto (-51), 3) := by decide +kernel
theorem dX11_cut_57 : decode cX11_cut 57 = .ok (.aload_n 3, 1) := by decide +kernel
theorem dX11_cut_58 : decode cX11_cut 58 = .ok (.iconst 2, 1) := by decide +kernel
theorem dX11_cut_59 : decode cX11_cut 59 = .ok (.aload_n 0, 1) := by decide +kernel
theorem dX11_cut_60 : decode cX11_cut 60 = .ok (.getfield 9, 3) := by decide +kernel
theorem dX11_cut_63 : decode cX11_cut 63 = .ok (.iastore, 1) := by decide +kernel
theorem dX11_cut_64 : decode cX11_cut 64 = .ok (.return_, 1) := by decide +kernel
def st_X11_cut_3 (F : Nat) (p3 : Nat) (p5 : Nat) (p7 : Nat) (rec : Int32 → GM → Option GM) (a9 : Int32) (M : GM) : Option GM := if (8 : Int32) ≤ a9 then (some M) else (grd (gIn a9 (gN p3)) (grd (gIn a9 (gN p5)) (grd (gIn a9 (gN p3)) (grd (gIn (2 : Int32) (gN p3)) (grd (gIn (2 : Int32) (gN p3)) (grd (gIn (2 : Int32) (gN p5)) (bndO (f_X11_down F ((((gI M p5 a9.toNatClampNeg) - (gI M p3 a9.toNatClampNeg)).toInt64) * (((gI M p3 2) - (gI M 122 3)).toInt64)) (((gI M p3 2) - (gI M p5 2)).toInt64) M) (fun w17 => grd (gIn a9 (gN p7)) (bnd (sI M p7 a9.toNatClampNeg ((gI M p3 a9.toNatClampNeg) + w17.toInt32)) (fun M19 => bnd (a9 + (1 : Int32)) (fun v21 => rec v21 M19)))))))))))
def lp_X11_cut_3 (F : Nat) (p3 : Nat) (p5 : Nat) (p7 : Nat) : Nat → Int32 → GM → Option GM
  | 0 => fun _ _ => none
  | f + 1 => fun a9 M => st_X11_cut_3 F p3 p5 p7 (lp_X11_cut_3 F p3 p5 p7 f) a9 M
set_option maxHeartbeats 4000000 in
set_option maxRecDepth 100000 in
theorem lw_X11_cut_3 {x : GX} (X : GC x cX11_cut 5 RX11 1) {p3 : Nat} {p5 : Nat} {p7 : Nat} (k4 : gT p3 = 20) (k6 : gT p5 = 20) (k8 : gT p7 = 20) {F : Nat} {r9 : GM} (hE : ∀  (M9 : GM), r9 = M9 → WG x M9 [(0, .ref (gad (xz x) 122)), (3, .ref (gad (xz x) p7))] 57 []) : ∀ (f : Nat) (a9 : Int32) (M : GM), lp_X11_cut_3 F p3 p5 p7 f a9 M = some r9 → WG x M [(0, .ref (gad (xz x) 122)), (1, .ref (gad (xz x) p3)), (2, .ref (gad (xz x) p5)), (3, .ref (gad (xz x) p7)), (4, .int a9)] 3 [] := by
  intro f
  induction f with
  | zero => intro a9 M h; cases h
  | succ f ih =>
    intro a9 M h
    have hrec := ih
    have h : st_X11_cut_3 F p3 p5 p7 (lp_X11_cut_3 F p3 p5 p7 f) a9 M = some r9 := h
    generalize lp_X11_cut_3 F p3 p5 p7 f = rec at h hrec
    unfold st_X11_cut_3 at h
    refine g_iload X (j := 4) dX11_cut_3 rfl ?_
    refine g_bipush X (v := 8) dX11_cut_5 (by decide) ?_
    refine g_icmp_ge X (tgt := 57) dX11_cut_7 (by decide) (fun hb => ?_) (fun hb => ?_)
    · have h := ite_t hb h
      refine g_lv [0, 3] rfl ?_
      exact hE M (Option.some.inj h).symm
    · have h := ite_f hb h
      refine g_aload_n X (j := 3) dX11_cut_10 rfl rfl ?_
      refine g_iload X (j := 4) dX11_cut_11 rfl ?_
      refine g_aload_n X (j := 1) dX11_cut_13 rfl rfl ?_
      refine g_iload X (j := 4) dX11_cut_14 rfl ?_
      obtain ⟨hg10, h⟩ := grd_e h
      refine g_iald X k4 hg10 dX11_cut_16 ?_
      refine g_aload_n X (j := 2) dX11_cut_17 rfl rfl ?_
      refine g_iload X (j := 4) dX11_cut_18 rfl ?_
      obtain ⟨hg11, h⟩ := grd_e h
      refine g_iald X k6 hg11 dX11_cut_20 ?_
      refine g_aload_n X (j := 1) dX11_cut_21 rfl rfl ?_
      refine g_iload X (j := 4) dX11_cut_22 rfl ?_
      obtain ⟨hg12, h⟩ := grd_e h
      refine g_iald X k4 hg12 dX11_cut_24 ?_
      refine g_isub X dX11_cut_25 ?_
      refine g_i2l X dX11_cut_26 ?_
      refine g_aload_n X (j := 1) dX11_cut_27 rfl rfl ?_
      refine g_iconst X (v := 2) dX11_cut_28 (by decide) ?_
      obtain ⟨hg13, h⟩ := grd_e h
      refine g_iald X k4 hg13 dX11_cut_29 ?_
      rw [tn_2]
      refine g_aload_n X (j := 0) dX11_cut_30 rfl rfl ?_
      refine gf_X11_9 X gT_c122 dX11_cut_31 ?_
      refine g_isub X dX11_cut_34 ?_
      refine g_i2l X dX11_cut_35 ?_
      refine g_lmul X dX11_cut_36 ?_
      refine g_aload_n X (j := 1) dX11_cut_37 rfl rfl ?_
      refine g_iconst X (v := 2) dX11_cut_38 (by decide) ?_
      obtain ⟨hg14, h⟩ := grd_e h
      refine g_iald X k4 hg14 dX11_cut_39 ?_
      rw [tn_2]
      refine g_aload_n X (j := 2) dX11_cut_40 rfl rfl ?_
      refine g_iconst X (v := 2) dX11_cut_41 (by decide) ?_
      obtain ⟨hg15, h⟩ := grd_e h
      refine g_iald X k6 hg15 dX11_cut_42 ?_
      rw [tn_2]
      refine g_isub X dX11_cut_43 ?_
      refine g_i2l X dX11_cut_44 ?_
      obtain ⟨w17, hc16, h⟩ := bndO_e h
      refine gc_X11_179 X (ct_X11_down X.htr  hc16) (by decide) (Nat.le_of_ble_eq_true rfl) dX11_cut_45 ?_
      refine g_l2i X dX11_cut_48 ?_
      refine g_iadd X dX11_cut_49 ?_
      obtain ⟨hg18, h⟩ := grd_e h
      refine g_iast X k8 hg18 dX11_cut_50 ?_
      refine g_mem (fun M19 e20 => ?_)
      have h := bnd_e e20 h
      refine g_iinc X (j := 4) (w := a9 + (1 : Int32)) (lv' := [(0, .ref (gad (xz x) 122)), (1, .ref (gad (xz x) p3)), (2, .ref (gad (xz x) p5)), (3, .ref (gad (xz x) p7))]) dX11_cut_51 rfl (by rw [ii_1]) (by decide) (fun _ => rfl) (fun v21 e22 => ?_)
      have h := bnd_e e22 h
      refine g_goto X (tgt := 3) dX11_cut_54 (by decide) ?_
      refine g_lv [1, 2, 3, 4, 0] rfl ?_
      exact hrec v21 M19 h
def f_X11_cut (F : Nat) (p0 : Nat) (p1 : Nat) (p2 : Nat) (M : GM) : Option GM := bnd (0 : Int32) (fun v1 => bndO (lp_X11_cut_3 F p0 p1 p2 F v1 M) (fun M23 => grd (gIn (2 : Int32) (gN p2)) (bnd (sI M23 p2 2 (gI M23 122 3)) (fun M26 => some M26))))
set_option maxHeartbeats 4000000 in
set_option maxRecDepth 100000 in
theorem w_X11_cut {x : GX} (X : GC x cX11_cut 5 RX11 1) {p0 : Nat} {p1 : Nat} {p2 : Nat} (h1 : gT p0 = 20) (h2 : gT p1 = 20) (h3 : gT p2 = 20) {F : Nat} {M : GM} {r9 : GM} (hR : ∀ (M9 : GM) (lv9 : List (Nat × Value)) (pc9 : Nat), r9 = M9 → decode cX11_cut pc9 = .ok (.return_, 1) → WG x M9 lv9 pc9 []) (h : f_X11_cut F p0 p1 p2 M = some r9) : WG x M [(0, .ref (gad (xz x) 122)), (1, .ref (gad (xz x) p0)), (2, .ref (gad (xz x) p1)), (3, .ref (gad (xz x) p2))] 0 [] := by
  unfold f_X11_cut at h
  refine g_iconst X (v := 0) dX11_cut_0 (by decide) ?_
  refine g_topi (fun v1 e2 => ?_)
  have h := bnd_e e2 h
  refine g_istore X (lv' := [(4, .int v1), (0, .ref (gad (xz x) 122)), (1, .ref (gad (xz x) p0)), (2, .ref (gad (xz x) p1)), (3, .ref (gad (xz x) p2))]) dX11_cut_1 (by decide) rfl ?_
  refine g_lv [1, 2, 3, 4, 0] rfl ?_
  obtain ⟨M23, hl24, h⟩ := bndO_e h
  refine lw_X11_cut_3 X h1 h2 h3 (fun M23_ e9 => ?_) F v1 M hl24
  cases e9
  refine g_aload_n X (j := 1) dX11_cut_57 rfl rfl ?_
  refine g_iconst X (v := 2) dX11_cut_58 (by decide) ?_
  refine g_aload_n X (j := 0) dX11_cut_59 rfl rfl ?_
  refine gf_X11_9 X gT_c122 dX11_cut_60 ?_
  obtain ⟨hg25, h⟩ := grd_e h
  refine g_iast X h3 hg25 dX11_cut_63 ?_
  rw [tn_2]
  refine g_mem (fun M26 e27 => ?_)
  have h := bnd_e e27 h
  exact hR M26 _ _ (Option.some.inj h).symm dX11_cut_64
theorem ct_X11_cut {l : Launch} {z : GZ} (htr : l.stackTraces = false) {p0 : Nat} {p1 : Nat} {p2 : Nat} (h1 : gT p0 = 20) (h2 : gT p1 = 20) (h3 : gT p2 = 20) {M : GM} {F : Nat} {M1 : GM} (h : f_X11_cut F p0 p1 p2 M = some M1) : gMet l z yX11_cut cX11_cut 5 none 1 [.ref (gad z 122), .ref (gad z p0), .ref (gad z p1), .ref (gad z p2)] M (none) M1 := gMet_ofV (by decide +kernel) (Nat.le_of_ble_eq_true rfl) htr (fun x X ez el hR => by subst ez; subst el; exact w_X11_cut X h1 h2 h3 (fun M9 lv9 pc9 e9 d9 => by cases e9; exact hR lv9 pc9 d9) h)
theorem gc_X11_186 {x : GX} {cc : ByteArray} {nL d pc : Nat} {M : GM} {lv : List (Nat × Value)} {st : List Value} (X : GC x cc nL RX11 d) {i0 : Int32} {i1 : Nat} {M1 : GM} (ht : gT 122 = 11) (hM : gMet (xl x) (xz x) yX11_take cX11_take 4 none 1 [.ref (gad (xz x) 122), .int i0, .ref (gad (xz x) i1)] M (none) M1) (hd : 2 ≤ d) (hsum : (st.map fun v => v.category).sum ≤ 8) (dec : decode cc pc = .ok (.invokevirtual 186, 3)) (go : WG x M1 lv (pc + 3) (st)) : WG x M lv pc (.ref (gad (xz x) i1) :: .int i0 :: .ref (gad (xz x) 122) :: st) := g_callV X (n := 2) (As := [.int i0, .ref (gad (xz x) i1)]) (rest := st) hM ht (by decide) (gE_11 ht) rfl q_1304 q_1306 q_26 q_63 q_1307 (by decide +kernel) rfl hd (by decide) rfl hsum dec go
theorem gm_X11_190 {x : GX} {cc : ByteArray} {nL d pc : Nat} {M : GM} {lv : List (Nat × Value)} {st : List Value} (X : GC x cc nL RX11 d) (hd : 1 ≤ d) (hsum : (st.map fun v => v.category).sum ≤ 8) {g1 g2 n : Nat} {nn : Int32} (h1 : gT g1 = 20) (h2 : gT g2 = 20) (h0 : ¬ nn < 0) (hn : nn.toNatClampNeg = n) (hb1 : n ≤ gN g1) (hb2 : n ≤ gN g2) (dec : decode cc pc = .ok (.invokestatic 190, 3)) (go : WG x (sC M g2 0 n (fun j => gI M g1 j)) lv (pc + 3) st) : WG x M lv pc (.int nn :: .int 0 :: .ref (gad (xz x) g2) :: .int 0 :: .ref (gad (xz x) g1) :: st) := fun H locs ls hP hO hS hl =>
  va_copyi X.1 X.2.1 hl.1.symm X.2.2.2.1 (X.hw q_1317) (X.hw q_620) (X.hw q_619) (X.hw q_71) X.hK hP (X.hD M) hS g1 g2 0 0 (gW_at h1 (by decide) (gE_20 h1)) (gW_at h2 (by decide) (gE_20 h2)) rfl rfl rfl (by decide) (by decide) h0 (by rw [hn, tn_0]; omega) (by rw [hn, tn_0]; omega) (fun _ _ => rfl) (by have := X.2.2.2.2.2.2.2.1; omega) (by have h8 := X.2.2.2.2.2.2.2.2.1; have h9 : nativeFrameWords "java/lang/System" "arraycopy" 5 + 11 ≤ 23 := (by decide +kernel); omega) dec (fun H1 locs1 hP1 _ hS1 => go H1 locs1 ls (by
    rw [hn, tn_0, gW_set (M' := sC M g2 0 n (fun j => gI M g1 j)) (by
      rw [gE_20 h2]; refine congrArg (fun f => Sum.inl (gcy (xz x) 20, gN g2, Sum.inl f)) (funext fun j => ?_)
      by_cases h : j < n <;> simp [va_cpy, gI, sC, h]) gE_sC] at hP1
    exact hP1) hO hS1 hl)
theorem gc_X11_196 {x : GX} {cc : ByteArray} {nL d pc : Nat} {M : GM} {lv : List (Nat × Value)} {st : List Value} (X : GC x cc nL RX11 d) {i0 : Nat} {i1 : Nat} {i2 : Nat} {M1 : GM} (ht : gT 122 = 11) (hM : gMet (xl x) (xz x) yX11_cut cX11_cut 5 none 1 [.ref (gad (xz x) 122), .ref (gad (xz x) i0), .ref (gad (xz x) i1), .ref (gad (xz x) i2)] M (none) M1) (hd : 2 ≤ d) (hsum : (st.map fun v => v.category).sum ≤ 8) (dec : decode cc pc = .ok (.invokevirtual 196, 3)) (go : WG x M1 lv (pc + 3) (st)) : WG x M lv pc (.ref (gad (xz x) i2) :: .ref (gad (xz x) i1) :: .ref (gad (xz x) i0) :: .ref (gad (xz x) 122) :: st) := g_callV X (n := 3) (As := [.ref (gad (xz x) i0), .ref (gad (xz x) i1), .ref (gad (xz x) i2)]) (rest := st) hM ht (by decide) (gE_11 ht) rfl q_1318 q_1320 q_27 q_63 q_1321 (by decide +kernel) rfl hd (by decide) rfl hsum dec go
theorem dX11_makePolygon_0 : decode cX11_makePolygon 0 = .ok (.aload_n 0, 1) := by decide +kernel
theorem dX11_makePolygon_1 : decode cX11_makePolygon 1 = .ok (.iconst 0, 1) := by decide +kernel
theorem dX11_makePolygon_2 : decode cX11_makePolygon 2 = .ok (.putfield 183, 3) := by decide +kernel
theorem dX11_makePolygon_5 : decode cX11_makePolygon 5 = .ok (.iconst 0, 1) := by decide +kernel
theorem dX11_makePolygon_6 : decode cX11_makePolygon 6 = .ok (.istore_n 2, 1) := by decide +kernel
theorem dX11_makePolygon_7 : decode cX11_makePolygon 7 = .ok (.iload_n 2, 1) := by decide +kernel
theorem dX11_makePolygon_8 : decode cX11_makePolygon 8 = .ok (.iconst 3, 1) := by decide +kernel
theorem dX11_makePolygon_9 : decode cX11_makePolygon 9 = .ok (.if_icmp .ge 193, 3) := by decide +kernel
theorem dX11_makePolygon_12 : decode cX11_makePolygon 12 = .ok (.aload_n 0, 1) := by decide +kernel
theorem dX11_makePolygon_13 : decode cX11_makePolygon 13 = .ok (.aload_n 0, 1) := by decide +kernel
theorem dX11_makePolygon_14 : decode cX11_makePolygon 14 = .ok (.getfield 31, 3) := by decide +kernel
theorem dX11_makePolygon_17 : decode cX11_makePolygon 17 = .ok (.iconst 3, 1) := by decide +kernel
theorem dX11_makePolygon_18 : decode cX11_makePolygon 18 = .ok (.iload_n 1, 1) := by decide +kernel
theorem dX11_makePolygon_19 : decode cX11_makePolygon 19 = .ok (.imul, 1) := by decide +kernel
theorem dX11_makePolygon_20 : decode cX11_makePolygon 20 = .ok (.iload_n 2, 1) := by decide +kernel
theorem dX11_makePolygon_21 : decode cX11_makePolygon 21 = .ok (.iadd, 1) := by decide +kernel
theorem dX11_makePolygon_22 : decode cX11_makePolygon 22 = .ok (.iaload, 1) := by decide +kernel
theorem dX11_makePolygon_23 : decode cX11_makePolygon 23 = .ok (.aload_n 0, 1) := by decide +kernel
theorem dX11_makePolygon_24 : decode cX11_makePolygon 24 = .ok (.getfield 96, 3) := by decide +kernel
theorem dX11_makePolygon_27 : decode cX11_makePolygon 27 = .ok (.invokevirtual 186, 3) := by decide +kernel
theorem dX11_makePolygon_30 : decode cX11_makePolygon 30 = .ok (.aload_n 0, 1) := by decide +kernel
theorem dX11_makePolygon_31 : decode cX11_makePolygon 31 = .ok (.aload_n 0, 1) := by decide +kernel
theorem dX11_makePolygon_32 : decode cX11_makePolygon 32 = .ok (.getfield 31, 3) := by decide +kernel
theorem dX11_makePolygon_35 : decode cX11_makePolygon 35 = .ok (.iconst 3, 1) := by decide +kernel
theorem dX11_makePolygon_36 : decode cX11_makePolygon 36 = .ok (.iload_n 1, 1) := by decide +kernel
theorem dX11_makePolygon_37 : decode cX11_makePolygon 37 = .ok (.imul, 1) := by decide +kernel
theorem dX11_makePolygon_38 : decode cX11_makePolygon 38 = .ok (.iload_n 2, 1) := by decide +kernel
theorem dX11_makePolygon_39 : decode cX11_makePolygon 39 = .ok (.iconst 1, 1) := by decide +kernel
theorem dX11_makePolygon_40 : decode cX11_makePolygon 40 = .ok (.iadd, 1) := by decide +kernel
theorem dX11_makePolygon_41 : decode cX11_makePolygon 41 = .ok (.iconst 3, 1) := by decide +kernel
theorem dX11_makePolygon_42 : decode cX11_makePolygon 42 = .ok (.irem, 1) := by decide +kernel
theorem dX11_makePolygon_43 : decode cX11_makePolygon 43 = .ok (.iadd, 1) := by decide +kernel
theorem dX11_makePolygon_44 : decode cX11_makePolygon 44 = .ok (.iaload, 1) := by decide +kernel
theorem dX11_makePolygon_45 : decode cX11_makePolygon 45 = .ok (.aload_n 0, 1) := by decide +kernel
theorem dX11_makePolygon_46 : decode cX11_makePolygon 46 = .ok (.getfield 99, 3) := by decide +kernel
theorem dX11_makePolygon_49 : decode cX11_makePolygon 49 = .ok (.invokevirtual 186, 3) := by decide +kernel
theorem dX11_makePolygon_52 : decode cX11_makePolygon 52 = .ok (.aload_n 0, 1) := by decide +kernel
theorem dX11_makePolygon_53 : decode cX11_makePolygon 53 = .ok (.getfield 96, 3) := by decide +kernel
theorem dX11_makePolygon_56 : decode cX11_makePolygon 56 = .ok (.iconst 2, 1) := by decide +kernel
theorem dX11_makePolygon_57 : decode cX11_makePolygon 57 = .ok (.iaload, 1) := by decide +kernel
theorem dX11_makePolygon_58 : decode cX11_makePolygon 58 = .ok (.aload_n 0, 1) := by decide +kernel
theorem dX11_makePolygon_59 : decode cX11_makePolygon 59 = .ok (.getfield 9, 3) := by decide +kernel
theorem dX11_makePolygon_62 : decode cX11_makePolygon 62 = .ok (.if_icmp .lt 7, 3) := by decide +kernel
theorem dX11_makePolygon_65 : decode cX11_makePolygon 65 = .ok (.iconst 1, 1) := by decide +kernel
theorem dX11_makePolygon_66 : decode cX11_makePolygon 66 = .ok (.goto 4, 3) := by decide +kernel
theorem dX11_makePolygon_69 : decode cX11_makePolygon 69 = .ok (.iconst 0, 1) := by decide +kernel
theorem dX11_makePolygon_70 : decode cX11_makePolygon 70 = .ok (.istore_n 3, 1) := by decide +kernel
theorem dX11_makePolygon_71 : decode cX11_makePolygon 71 = .ok (.aload_n 0, 1) := by decide +kernel
theorem dX11_makePolygon_72 : decode cX11_makePolygon 72 = .ok (.getfield 99, 3) := by decide +kernel
theorem dX11_makePolygon_75 : decode cX11_makePolygon 75 = .ok (.iconst 2, 1) := by decide +kernel
theorem dX11_makePolygon_76 : decode cX11_makePolygon 76 = .ok (.iaload, 1) := by decide +kernel
theorem dX11_makePolygon_77 : decode cX11_makePolygon 77 = .ok (.aload_n 0, 1) := by decide +kernel
theorem dX11_makePolygon_78 : decode cX11_makePolygon 78 = .ok (.getfield 9, 3) := by decide +kernel
theorem dX11_makePolygon_81 : decode cX11_makePolygon 81 = .ok (.if_icmp .lt 7, 3) := by decide +kernel
theorem dX11_makePolygon_84 : decode cX11_makePolygon 84 = .ok (.iconst 1, 1) := by decide +kernel
theorem dX11_makePolygon_85 : decode cX11_makePolygon 85 = .ok (.goto 4, 3) := by decide +kernel
theorem dX11_makePolygon_88 : decode cX11_makePolygon 88 = .ok (.iconst 0, 1) := by decide +kernel
theorem dX11_makePolygon_89 : decode cX11_makePolygon 89 = .ok (.istore 4, 2) := by decide +kernel
theorem dX11_makePolygon_91 : decode cX11_makePolygon 91 = .ok (.iload_n 3, 1) := by decide +kernel
theorem dX11_makePolygon_92 : decode cX11_makePolygon 92 = .ok (.ifCond .eq 30, 3) := by decide +kernel
theorem dX11_makePolygon_95 : decode cX11_makePolygon 95 = .ok (.aload_n 0, 1) := by decide +kernel
theorem dX11_makePolygon_96 : decode cX11_makePolygon 96 = .ok (.getfield 96, 3) := by decide +kernel
theorem dX11_makePolygon_99 : decode cX11_makePolygon 99 = .ok (.iconst 0, 1) := by decide +kernel
theorem dX11_makePolygon_100 : decode cX11_makePolygon 100 = .ok (.aload_n 0, 1) := by decide +kernel
theorem dX11_makePolygon_101 : decode cX11_makePolygon 101 = .ok (.getfield 77, 3) := by decide +kernel
theorem dX11_makePolygon_104 : decode cX11_makePolygon 104 = .ok (.aload_n 0, 1) := by decide +kernel
theorem dX11_makePolygon_105 : decode cX11_makePolygon 105 = .ok (.dup, 1) := by decide +kernel
theorem dX11_makePolygon_106 : decode cX11_makePolygon 106 = .ok (.getfield 183, 3) := by decide +kernel
theorem dX11_makePolygon_109 : decode cX11_makePolygon 109 = .ok (.dup_x1, 1) := by decide +kernel
theorem dX11_makePolygon_110 : decode cX11_makePolygon 110 = .ok (.iconst 1, 1) := by decide +kernel
theorem dX11_makePolygon_111 : decode cX11_makePolygon 111 = .ok (.iadd, 1) := by decide +kernel
theorem dX11_makePolygon_112 : decode cX11_makePolygon 112 = .ok (.putfield 183, 3) := by decide +kernel
theorem dX11_makePolygon_115 : decode cX11_makePolygon 115 = .ok (.aaload, 1) := by decide +kernel
theorem dX11_makePolygon_116 : decode cX11_makePolygon 116 = .ok (.iconst 0, 1) := by decide +kernel
theorem dX11_makePolygon_117 : decode cX11_makePolygon 117 = .ok (.bipush 8, 2) := by decide +kernel
theorem dX11_makePolygon_119 : decode cX11_makePolygon 119 = .ok (.invokestatic 190, 3) := by decide +kernel
theorem dX11_makePolygon_122 : decode cX11_makePolygon 122 = .ok (.iload_n 3, 1) := by decide +kernel
theorem dX11_makePolygon_123 : decode cX11_makePolygon 123 = .ok (.ifCond .eq 36, 3) := by decide +kernel
theorem dX11_makePolygon_126 : decode cX11_makePolygon 126 = .ok (.iload 4, 2) := by decide +kernel
theorem dX11_makePolygon_128 : decode cX11_makePolygon 128 = .ok (.ifCond .ne 31, 3) := by decide +kernel
theorem dX11_makePolygon_131 : decode cX11_makePolygon 131 = .ok (.aload_n 0, 1) := by decide +kernel
theorem dX11_makePolygon_132 : decode cX11_makePolygon 132 = .ok (.aload_n 0, 1) := by decide +kernel
theorem dX11_makePolygon_133 : decode cX11_makePolygon 133 = .ok (.getfield 96, 3) := by decide +kernel
theorem dX11_makePolygon_136 : decode cX11_makePolygon 136 = .ok (.aload_n 0, 1) := by decide +kernel
theorem dX11_makePolygon_137 : decode cX11_makePolygon 137 = .ok (.getfield 99, 3) := by decide +kernel
theorem dX11_makePolygon_140 : decode cX11_makePolygon 140 = .ok (.aload_n 0, 1) := by decide +kernel
theorem dX11_makePolygon_141 : decode cX11_makePolygon 141 = .ok (.getfield 77, 3) := by decide +kernel
theorem dX11_makePolygon_144 : decode cX11_makePolygon 144 = .ok (.aload_n 0, 1) := by decide +kernel
theorem dX11_makePolygon_145 : decode cX11_makePolygon 145 = .ok (.dup, 1) := by decide +kernel
theorem dX11_makePolygon_146 : decode cX11_makePolygon 146 = .ok (.getfield 183, 3) := by decide +kernel
theorem dX11_makePolygon_149 : decode cX11_makePolygon 149 = .ok (.dup_x1, 1) := by decide +kernel
theorem dX11_makePolygon_150 : decode cX11_makePolygon 150 = .ok (.iconst 1, 1) := by decide +kernel
theorem dX11_makePolygon_151 : decode cX11_makePolygon 151 = .ok (.iadd, 1) := by decide +kernel
theorem dX11_makePolygon_152 : decode cX11_makePolygon 152 = .ok (.putfield 183, 3) := by decide +kernel
theorem dX11_makePolygon_155 : decode cX11_makePolygon 155 = .ok (.aaload, 1) := by decide +kernel
theorem dX11_makePolygon_156 : decode cX11_makePolygon 156 = .ok (.invokevirtual 196, 3) := by decide +kernel
theorem dX11_makePolygon_159 : decode cX11_makePolygon 159 = .ok (.iload_n 3, 1) := by decide +kernel
theorem dX11_makePolygon_160 : decode cX11_makePolygon 160 = .ok (.ifCond .ne 36, 3) := by decide +kernel
theorem dX11_makePolygon_163 : decode cX11_makePolygon 163 = .ok (.iload 4, 2) := by decide +kernel
theorem dX11_makePolygon_165 : decode cX11_makePolygon 165 = .ok (.ifCond .eq 31, 3) := by decide +kernel
theorem dX11_makePolygon_168 : decode cX11_makePolygon 168 = .ok (.aload_n 0, 1) := by decide +kernel
theorem dX11_makePolygon_169 : decode cX11_makePolygon 169 = .ok (.aload_n 0, 1) := by decide +kernel
theorem dX11_makePolygon_170 : decode cX11_makePolygon 170 = .ok (.getfield 99, 3) := by decide +kernel
theorem dX11_makePolygon_173 : decode cX11_makePolygon 173 = .ok (.aload_n 0, 1) := by decide +kernel
theorem dX11_makePolygon_174 : decode cX11_makePolygon 174 = .ok (.getfield 96, 3) := by decide +kernel
theorem dX11_makePolygon_177 : decode cX11_makePolygon 177 = .ok (.aload_n 0, 1) := by decide +kernel
theorem dX11_makePolygon_178 : decode cX11_makePolygon 178 = .ok (.getfield 77, 3) := by decide +kernel
theorem dX11_makePolygon_181 : decode cX11_makePolygon 181 = .ok (.aload_n 0, 1) := by decide +kernel
theorem dX11_makePolygon_182 : decode cX11_makePolygon 182 = .ok (.dup, 1) := by decide +kernel
theorem dX11_makePolygon_183 : decode cX11_makePolygon 183 = .ok (.getfield 183, 3) := by decide +kernel
theorem dX11_makePolygon_186 : decode cX11_makePolygon 186 = .ok (.dup_x1, 1) := by decide +kernel
theorem dX11_makePolygon_187 : decode cX11_makePolygon 187 = .ok (.iconst 1, 1) := by decide +kernel
theorem dX11_makePolygon_188 : decode cX11_makePolygon 188 = .ok (.iadd, 1) := by decide +kernel
theorem dX11_makePolygon_189 : decode cX11_makePolygon 189 = .ok (.putfield 183, 3) := by decide +kernel
theorem dX11_makePolygon_192 : decode cX11_makePolygon 192 = .ok (.aaload, 1) := by decide +kernel
theorem dX11_makePolygon_193 : decode cX11_makePolygon 193 = .ok (.invokevirtual 196, 3) := by decide +kernel
theorem dX11_makePolygon_196 : decode cX11_makePolygon 196 = .ok (.iinc 2 1, 3) := by decide +kernel
theorem dX11_makePolygon_199 : decode cX11_makePolygon 199 = .ok (.goto (-192), 3) := by decide +kernel
theorem dX11_makePolygon_202 : decode cX11_makePolygon 202 = .ok (.return_, 1) := by decide +kernel
def bk_X11_makePolygon_159_7 (F : Nat) (rec : Int32 → GM → Option GM) (a5 : Int32) (a25 : Int32) (a26 : Int32) (a27 : Int32) (M : GM) : Option GM := if a26 = 0 then (if a27 = 0 then (bnd (a25 + (1 : Int32)) (fun v30 => rec v30 M)) else (bnd (sI M 122 27 ((gI M 122 27) + (1 : Int32))) (fun M32 => grd (gIn (gI M 122 27) (gN 144)) (bnd (gR 144 (gI M 122 27).toNatClampNeg) (fun o35 => bndO (f_X11_cut F 158 157 o35 M32) (fun M39 => bnd (a25 + (1 : Int32)) (fun v40 => rec v40 M39))))))) else (bnd (a25 + (1 : Int32)) (fun v28 => rec v28 M))
set_option maxHeartbeats 4000000 in
set_option maxRecDepth 100000 in
theorem bw_X11_makePolygon_159_7 {x : GX} (X : GC x cX11_makePolygon 5 RX11 2) {a5 : Int32} {a25 : Int32} {a26 : Int32} {a27 : Int32}   {F : Nat} {rec : Int32 → GM → Option GM} {M : GM} {r9 : GM} (hE : ∀  (M9 : GM), r9 = M9 → WG x M9 [] 202 []) (hrec : ∀ (a6_9 : Int32) (M9 : GM), rec a6_9 M9 = some r9 → WG x M9 [(0, .ref (gad (xz x) 122)), (1, .int a5), (2, .int a6_9)] 7 []) (h : bk_X11_makePolygon_159_7 F rec a5 a25 a26 a27 M = some r9) : WG x M [(0, .ref (gad (xz x) 122)), (1, .int a5), (2, .int a25), (3, .int a26), (4, .int a27)] 159 [] := by
  unfold bk_X11_makePolygon_159_7 at h
  refine g_iload_n X (j := 3) dX11_makePolygon_159 rfl rfl ?_
  refine g_if_ne X (tgt := 196) dX11_makePolygon_160 (by decide) (fun hb => ?_) (fun hb => ?_)
  · have h := ite_f hb h
    refine g_iinc X (j := 2) (w := a25 + (1 : Int32)) (lv' := [(0, .ref (gad (xz x) 122)), (1, .int a5), (3, .int a26), (4, .int a27)]) dX11_makePolygon_196 rfl (by rw [ii_1]) (by decide) (fun _ => rfl) (fun v28 e29 => ?_)
    have h := bnd_e e29 h
    refine g_goto X (tgt := 7) dX11_makePolygon_199 (by decide) ?_
    refine g_lv [1, 2, 0] rfl ?_
    exact hrec v28 M h
  · have h := ite_t hb h
    refine g_iload X (j := 4) dX11_makePolygon_163 rfl ?_
    refine g_if_eq X (tgt := 196) dX11_makePolygon_165 (by decide) (fun hb => ?_) (fun hb => ?_)
    · have h := ite_t hb h
      refine g_iinc X (j := 2) (w := a25 + (1 : Int32)) (lv' := [(0, .ref (gad (xz x) 122)), (1, .int a5), (3, .int a26), (4, .int a27)]) dX11_makePolygon_196 rfl (by rw [ii_1]) (by decide) (fun _ => rfl) (fun v30 e31 => ?_)
      have h := bnd_e e31 h
      refine g_goto X (tgt := 7) dX11_makePolygon_199 (by decide) ?_
      refine g_lv [1, 2, 0] rfl ?_
      exact hrec v30 M h
    · have h := ite_f hb h
      refine g_aload_n X (j := 0) dX11_makePolygon_168 rfl rfl ?_
      refine g_aload_n X (j := 0) dX11_makePolygon_169 rfl rfl ?_
      refine gf_X11_99 X gT_c122 dX11_makePolygon_170 ?_
      refine g_aload_n X (j := 0) dX11_makePolygon_173 rfl rfl ?_
      refine gf_X11_96 X gT_c122 dX11_makePolygon_174 ?_
      refine g_aload_n X (j := 0) dX11_makePolygon_177 rfl rfl ?_
      refine gf_X11_77 X gT_c122 dX11_makePolygon_178 ?_
      refine g_aload_n X (j := 0) dX11_makePolygon_181 rfl rfl ?_
      refine g_dup X dX11_makePolygon_182 rfl ?_
      refine gf_X11_183 X gT_c122 dX11_makePolygon_183 ?_
      refine g_dup_x1 X dX11_makePolygon_186 rfl rfl ?_
      refine g_iconst X (v := 1) dX11_makePolygon_187 (by decide) ?_
      refine g_iadd X dX11_makePolygon_188 ?_
      refine gp_X11_183 X gT_c122 dX11_makePolygon_189 ?_
      refine g_mem (fun M32 e33 => ?_)
      have h := bnd_e e33 h
      obtain ⟨hg34, h⟩ := grd_e h
      refine g_aald_28 X gT_c144 hg34 dX11_makePolygon_192 ?_
      refine g_topr (fun o35 e36 => ?_)
      have h := bnd_e e36 h
      have k37 : gT o35 = 20 := by rw [e36]; exact gR_28 gT_c144 (gIn_lt hg34)
      obtain ⟨M39, hc38, h⟩ := bndO_e h
      refine gc_X11_196 X gT_c122 (ct_X11_cut X.htr gT_c158 gT_c157 k37 hc38) (by decide) (Nat.le_of_ble_eq_true rfl) dX11_makePolygon_193 ?_
      refine g_iinc X (j := 2) (w := a25 + (1 : Int32)) (lv' := [(0, .ref (gad (xz x) 122)), (1, .int a5), (3, .int a26), (4, .int a27)]) dX11_makePolygon_196 rfl (by rw [ii_1]) (by decide) (fun _ => rfl) (fun v40 e41 => ?_)
      have h := bnd_e e41 h
      refine g_goto X (tgt := 7) dX11_makePolygon_199 (by decide) ?_
      refine g_lv [1, 2, 0] rfl ?_
      exact hrec v40 M39 h
def bk_X11_makePolygon_122_7 (F : Nat) (rec : Int32 → GM → Option GM) (a5 : Int32) (a22 : Int32) (a23 : Int32) (a24 : Int32) (M : GM) : Option GM := if a23 = 0 then (bk_X11_makePolygon_159_7 F rec a5 a22 a23 a24 M) else (if a24 = 0 then (bnd (sI M 122 27 ((gI M 122 27) + (1 : Int32))) (fun M42 => grd (gIn (gI M 122 27) (gN 144)) (bnd (gR 144 (gI M 122 27).toNatClampNeg) (fun o45 => bndO (f_X11_cut F 157 158 o45 M42) (fun M49 => bk_X11_makePolygon_159_7 F rec a5 a22 a23 a24 M49))))) else (bk_X11_makePolygon_159_7 F rec a5 a22 a23 a24 M))
set_option maxHeartbeats 4000000 in
set_option maxRecDepth 100000 in
theorem bw_X11_makePolygon_122_7 {x : GX} (X : GC x cX11_makePolygon 5 RX11 2) {a5 : Int32} {a22 : Int32} {a23 : Int32} {a24 : Int32}   {F : Nat} {rec : Int32 → GM → Option GM} {M : GM} {r9 : GM} (hE : ∀  (M9 : GM), r9 = M9 → WG x M9 [] 202 []) (hrec : ∀ (a6_9 : Int32) (M9 : GM), rec a6_9 M9 = some r9 → WG x M9 [(0, .ref (gad (xz x) 122)), (1, .int a5), (2, .int a6_9)] 7 []) (h : bk_X11_makePolygon_122_7 F rec a5 a22 a23 a24 M = some r9) : WG x M [(0, .ref (gad (xz x) 122)), (1, .int a5), (2, .int a22), (3, .int a23), (4, .int a24)] 122 [] := by
  unfold bk_X11_makePolygon_122_7 at h
  refine g_iload_n X (j := 3) dX11_makePolygon_122 rfl rfl ?_
  refine g_if_eq X (tgt := 159) dX11_makePolygon_123 (by decide) (fun hb => ?_) (fun hb => ?_)
  · have h := ite_t hb h
    refine g_lv [0, 1, 2, 3, 4] rfl ?_
    exact bw_X11_makePolygon_159_7 X  hE hrec h
  · have h := ite_f hb h
    refine g_iload X (j := 4) dX11_makePolygon_126 rfl ?_
    refine g_if_ne X (tgt := 159) dX11_makePolygon_128 (by decide) (fun hb => ?_) (fun hb => ?_)
    · have h := ite_f hb h
      refine g_lv [0, 1, 2, 3, 4] rfl ?_
      exact bw_X11_makePolygon_159_7 X  hE hrec h
    · have h := ite_t hb h
      refine g_aload_n X (j := 0) dX11_makePolygon_131 rfl rfl ?_
      refine g_aload_n X (j := 0) dX11_makePolygon_132 rfl rfl ?_
      refine gf_X11_96 X gT_c122 dX11_makePolygon_133 ?_
      refine g_aload_n X (j := 0) dX11_makePolygon_136 rfl rfl ?_
      refine gf_X11_99 X gT_c122 dX11_makePolygon_137 ?_
      refine g_aload_n X (j := 0) dX11_makePolygon_140 rfl rfl ?_
      refine gf_X11_77 X gT_c122 dX11_makePolygon_141 ?_
      refine g_aload_n X (j := 0) dX11_makePolygon_144 rfl rfl ?_
      refine g_dup X dX11_makePolygon_145 rfl ?_
      refine gf_X11_183 X gT_c122 dX11_makePolygon_146 ?_
      refine g_dup_x1 X dX11_makePolygon_149 rfl rfl ?_
      refine g_iconst X (v := 1) dX11_makePolygon_150 (by decide) ?_
      refine g_iadd X dX11_makePolygon_151 ?_
      refine gp_X11_183 X gT_c122 dX11_makePolygon_152 ?_
      refine g_mem (fun M42 e43 => ?_)
      have h := bnd_e e43 h
      obtain ⟨hg44, h⟩ := grd_e h
      refine g_aald_28 X gT_c144 hg44 dX11_makePolygon_155 ?_
      refine g_topr (fun o45 e46 => ?_)
      have h := bnd_e e46 h
      have k47 : gT o45 = 20 := by rw [e46]; exact gR_28 gT_c144 (gIn_lt hg44)
      obtain ⟨M49, hc48, h⟩ := bndO_e h
      refine gc_X11_196 X gT_c122 (ct_X11_cut X.htr gT_c157 gT_c158 k47 hc48) (by decide) (Nat.le_of_ble_eq_true rfl) dX11_makePolygon_156 ?_
      refine g_lv [0, 1, 2, 3, 4] rfl ?_
      exact bw_X11_makePolygon_159_7 X  hE hrec h
def bk_X11_makePolygon_89_7 (F : Nat) (rec : Int32 → GM → Option GM) (a5 : Int32) (a17 : Int32) (a18 : Int32) (a19 : Int32) (M : GM) : Option GM := bnd a19 (fun v20 => if a18 = 0 then (bk_X11_makePolygon_122_7 F rec a5 a17 a18 v20 M) else (bnd (sI M 122 27 ((gI M 122 27) + (1 : Int32))) (fun M50 => grd (gIn (gI M 122 27) (gN 144)) (bnd (gR 144 (gI M 122 27).toNatClampNeg) (fun o53 => grd (decide (8 ≤ gN 157)) (grd (decide (8 ≤ gN o53)) (bnd (sC M50 o53 0 8 (fun j => gI M50 157 j)) (fun M58 => bk_X11_makePolygon_122_7 F rec a5 a17 a18 v20 M58))))))))
set_option maxHeartbeats 4000000 in
set_option maxRecDepth 100000 in
theorem bw_X11_makePolygon_89_7 {x : GX} (X : GC x cX11_makePolygon 5 RX11 2) {a5 : Int32} {a17 : Int32} {a18 : Int32} {a19 : Int32}   {F : Nat} {rec : Int32 → GM → Option GM} {M : GM} {r9 : GM} (hE : ∀  (M9 : GM), r9 = M9 → WG x M9 [] 202 []) (hrec : ∀ (a6_9 : Int32) (M9 : GM), rec a6_9 M9 = some r9 → WG x M9 [(0, .ref (gad (xz x) 122)), (1, .int a5), (2, .int a6_9)] 7 []) (h : bk_X11_makePolygon_89_7 F rec a5 a17 a18 a19 M = some r9) : WG x M [(0, .ref (gad (xz x) 122)), (1, .int a5), (2, .int a17), (3, .int a18)] 89 [.int a19] := by
  unfold bk_X11_makePolygon_89_7 at h
  refine g_topi (fun v20 e21 => ?_)
  have h := bnd_e e21 h
  refine g_istore X (lv' := [(4, .int v20), (0, .ref (gad (xz x) 122)), (1, .int a5), (2, .int a17), (3, .int a18)]) dX11_makePolygon_89 (by decide) rfl ?_
  refine g_iload_n X (j := 4) dX11_makePolygon_91 rfl rfl ?_
  refine g_if_eq X (tgt := 122) dX11_makePolygon_92 (by decide) (fun hb => ?_) (fun hb => ?_)
  · have h := ite_t hb h
    refine g_lv [1, 2, 3, 4, 0] rfl ?_
    exact bw_X11_makePolygon_122_7 X  hE hrec h
  · have h := ite_f hb h
    refine g_aload_n X (j := 1) dX11_makePolygon_95 rfl rfl ?_
    refine gf_X11_96 X gT_c122 dX11_makePolygon_96 ?_
    refine g_iconst X (v := 0) dX11_makePolygon_99 (by decide) ?_
    refine g_aload_n X (j := 1) dX11_makePolygon_100 rfl rfl ?_
    refine gf_X11_77 X gT_c122 dX11_makePolygon_101 ?_
    refine g_aload_n X (j := 1) dX11_makePolygon_104 rfl rfl ?_
    refine g_dup X dX11_makePolygon_105 rfl ?_
    refine gf_X11_183 X gT_c122 dX11_makePolygon_106 ?_
    refine g_dup_x1 X dX11_makePolygon_109 rfl rfl ?_
    refine g_iconst X (v := 1) dX11_makePolygon_110 (by decide) ?_
    refine g_iadd X dX11_makePolygon_111 ?_
    refine gp_X11_183 X gT_c122 dX11_makePolygon_112 ?_
    refine g_mem (fun M50 e51 => ?_)
    have h := bnd_e e51 h
    obtain ⟨hg52, h⟩ := grd_e h
    refine g_aald_28 X gT_c144 hg52 dX11_makePolygon_115 ?_
    refine g_topr (fun o53 e54 => ?_)
    have h := bnd_e e54 h
    have k55 : gT o53 = 20 := by rw [e54]; exact gR_28 gT_c144 (gIn_lt hg52)
    refine g_iconst X (v := 0) dX11_makePolygon_116 (by decide) ?_
    refine g_bipush X (v := 8) dX11_makePolygon_117 (by decide) ?_
    obtain ⟨hg56, h⟩ := grd_e h
    obtain ⟨hg57, h⟩ := grd_e h
    refine gm_X11_190 X (by decide) (Nat.le_of_ble_eq_true rfl) gT_c157 k55 (n := 8) (by decide) tn_8 (of_decide_eq_true hg56) (of_decide_eq_true hg57) dX11_makePolygon_119 ?_
    refine g_mem (fun M58 e59 => ?_)
    have h := bnd_e e59 h
    refine g_lv [1, 2, 3, 4, 0] rfl ?_
    exact bw_X11_makePolygon_122_7 X  hE hrec h
def bk_X11_makePolygon_70_7 (F : Nat) (rec : Int32 → GM → Option GM) (a5 : Int32) (a13 : Int32) (a14 : Int32) (M : GM) : Option GM := bnd a14 (fun v15 => if (gI M 158 2) < (gI M 122 3) then (bk_X11_makePolygon_89_7 F rec a5 a13 v15 (0 : Int32) M) else (bk_X11_makePolygon_89_7 F rec a5 a13 v15 (1 : Int32) M))
set_option maxHeartbeats 4000000 in
set_option maxRecDepth 100000 in
theorem bw_X11_makePolygon_70_7 {x : GX} (X : GC x cX11_makePolygon 5 RX11 2) {a5 : Int32} {a13 : Int32} {a14 : Int32}   {F : Nat} {rec : Int32 → GM → Option GM} {M : GM} {r9 : GM} (hE : ∀  (M9 : GM), r9 = M9 → WG x M9 [] 202 []) (hrec : ∀ (a6_9 : Int32) (M9 : GM), rec a6_9 M9 = some r9 → WG x M9 [(0, .ref (gad (xz x) 122)), (1, .int a5), (2, .int a6_9)] 7 []) (h : bk_X11_makePolygon_70_7 F rec a5 a13 a14 M = some r9) : WG x M [(0, .ref (gad (xz x) 122)), (1, .int a5), (2, .int a13)] 70 [.int a14] := by
  unfold bk_X11_makePolygon_70_7 at h
  refine g_topi (fun v15 e16 => ?_)
  have h := bnd_e e16 h
  refine g_istore_n X (lv' := [(3, .int v15), (0, .ref (gad (xz x) 122)), (1, .int a5), (2, .int a13)]) dX11_makePolygon_70 rfl (by decide) rfl ?_
  refine g_aload_n X (j := 1) dX11_makePolygon_71 rfl rfl ?_
  refine gf_X11_99 X gT_c122 dX11_makePolygon_72 ?_
  refine g_iconst X (v := 2) dX11_makePolygon_75 (by decide) ?_
  refine g_iald X gT_c158 (by decide +kernel) dX11_makePolygon_76 ?_
  rw [tn_2]
  refine g_aload_n X (j := 1) dX11_makePolygon_77 rfl rfl ?_
  refine gf_X11_9 X gT_c122 dX11_makePolygon_78 ?_
  refine g_icmp_lt X (tgt := 88) dX11_makePolygon_81 (by decide) (fun hb => ?_) (fun hb => ?_)
  · have h := ite_t hb h
    refine g_iconst X (v := 0) dX11_makePolygon_88 (by decide) ?_
    refine g_lv [1, 2, 3, 0] rfl ?_
    exact bw_X11_makePolygon_89_7 X  hE hrec h
  · have h := ite_f hb h
    refine g_iconst X (v := 1) dX11_makePolygon_84 (by decide) ?_
    refine g_goto X (tgt := 89) dX11_makePolygon_85 (by decide) ?_
    refine g_lv [1, 2, 3, 0] rfl ?_
    exact bw_X11_makePolygon_89_7 X  hE hrec h
def st_X11_makePolygon_7 (F : Nat) (a5 : Int32) (rec : Int32 → GM → Option GM) (a6 : Int32) (M : GM) : Option GM := if (3 : Int32) ≤ a6 then (some M) else (grd (gIn (((3 : Int32) * a5) + a6) (gN 130)) (bndO (f_X11_take F (gI M 130 ((((3 : Int32) * a5) + a6).toNatClampNeg)) 157 M) (fun M9 => grd (gIn (((3 : Int32) * a5) + ((a6 + (1 : Int32)) - (a6 + (1 : Int32)) / (3 : Int32) * (3 : Int32))) (gN 130)) (bndO (f_X11_take F (gI M9 130 ((((3 : Int32) * a5) + ((a6 + (1 : Int32)) - (a6 + (1 : Int32)) / (3 : Int32) * (3 : Int32))).toNatClampNeg)) 158 M9) (fun M12 => if (gI M12 157 2) < (gI M12 122 3) then (bk_X11_makePolygon_70_7 F rec a5 a6 (0 : Int32) M12) else (bk_X11_makePolygon_70_7 F rec a5 a6 (1 : Int32) M12))))))
def lp_X11_makePolygon_7 (F : Nat) (a5 : Int32) : Nat → Int32 → GM → Option GM
  | 0 => fun _ _ => none
  | f + 1 => fun a6 M => st_X11_makePolygon_7 F a5 (lp_X11_makePolygon_7 F a5 f) a6 M
set_option maxHeartbeats 4000000 in
set_option maxRecDepth 100000 in
theorem lw_X11_makePolygon_7 {x : GX} (X : GC x cX11_makePolygon 5 RX11 2) {a5 : Int32}  {F : Nat} {r9 : GM} (hE : ∀  (M9 : GM), r9 = M9 → WG x M9 [] 202 []) : ∀ (f : Nat) (a6 : Int32) (M : GM), lp_X11_makePolygon_7 F a5 f a6 M = some r9 → WG x M [(0, .ref (gad (xz x) 122)), (1, .int a5), (2, .int a6)] 7 [] := by
  intro f
  induction f with
  | zero => intro a6 M h; cases h
  | succ f ih =>
    intro a6 M h
    have hrec := ih
    have h : st_X11_makePolygon_7 F a5 (lp_X11_makePolygon_7 F a5 f) a6 M = some r9 := h
    generalize lp_X11_makePolygon_7 F a5 f = rec at h hrec
    unfold st_X11_makePolygon_7 at h
    refine g_iload_n X (j := 2) dX11_makePolygon_7 rfl rfl ?_
    refine g_iconst X (v := 3) dX11_makePolygon_8 (by decide) ?_
    refine g_icmp_ge X (tgt := 202) dX11_makePolygon_9 (by decide) (fun hb => ?_) (fun hb => ?_)
    · have h := ite_t hb h
      refine g_lv [] rfl ?_
      exact hE M (Option.some.inj h).symm
    · have h := ite_f hb h
      refine g_aload_n X (j := 0) dX11_makePolygon_12 rfl rfl ?_
      refine g_aload_n X (j := 0) dX11_makePolygon_13 rfl rfl ?_
      refine gf_X11_31 X gT_c122 dX11_makePolygon_14 ?_
      refine g_iconst X (v := 3) dX11_makePolygon_17 (by decide) ?_
      refine g_iload_n X (j := 1) dX11_makePolygon_18 rfl rfl ?_
      refine g_imul X dX11_makePolygon_19 ?_
      refine g_iload_n X (j := 2) dX11_makePolygon_20 rfl rfl ?_
      refine g_iadd X dX11_makePolygon_21 ?_
      obtain ⟨hg7, h⟩ := grd_e h
      refine g_iald X gT_c130 hg7 dX11_makePolygon_22 ?_
      refine g_aload_n X (j := 0) dX11_makePolygon_23 rfl rfl ?_
      refine gf_X11_96 X gT_c122 dX11_makePolygon_24 ?_
      obtain ⟨M9, hc8, h⟩ := bndO_e h
      refine gc_X11_186 X gT_c122 (ct_X11_take X.htr gT_c157 hc8) (by decide) (Nat.le_of_ble_eq_true rfl) dX11_makePolygon_27 ?_
      refine g_aload_n X (j := 0) dX11_makePolygon_30 rfl rfl ?_
      refine g_aload_n X (j := 0) dX11_makePolygon_31 rfl rfl ?_
      refine gf_X11_31 X gT_c122 dX11_makePolygon_32 ?_
      refine g_iconst X (v := 3) dX11_makePolygon_35 (by decide) ?_
      refine g_iload_n X (j := 1) dX11_makePolygon_36 rfl rfl ?_
      refine g_imul X dX11_makePolygon_37 ?_
      refine g_iload_n X (j := 2) dX11_makePolygon_38 rfl rfl ?_
      refine g_iconst X (v := 1) dX11_makePolygon_39 (by decide) ?_
      refine g_iadd X dX11_makePolygon_40 ?_
      refine g_iconst X (v := 3) dX11_makePolygon_41 (by decide) ?_
      refine g_irem X dX11_makePolygon_42 (by decide) ?_
      refine g_iadd X dX11_makePolygon_43 ?_
      obtain ⟨hg10, h⟩ := grd_e h
      refine g_iald X gT_c130 hg10 dX11_makePolygon_44 ?_
      refine g_aload_n X (j := 0) dX11_makePolygon_45 rfl rfl ?_
      refine gf_X11_99 X gT_c122 dX11_makePolygon_46 ?_
      obtain ⟨M12, hc11, h⟩ := bndO_e h
      refine gc_X11_186 X gT_c122 (ct_X11_take X.htr gT_c158 hc11) (by decide) (Nat.le_of_ble_eq_true rfl) dX11_makePolygon_49 ?_
      refine g_aload_n X (j := 0) dX11_makePolygon_52 rfl rfl ?_
      refine gf_X11_96 X gT_c122 dX11_makePolygon_53 ?_
      refine g_iconst X (v := 2) dX11_makePolygon_56 (by decide) ?_
      refine g_iald X gT_c157 (by decide +kernel) dX11_makePolygon_57 ?_
      rw [tn_2]
      refine g_aload_n X (j := 0) dX11_makePolygon_58 rfl rfl ?_
      refine gf_X11_9 X gT_c122 dX11_makePolygon_59 ?_
      refine g_icmp_lt X (tgt := 69) dX11_makePolygon_62 (by decide) (fun hb => ?_) (fun hb => ?_)
      · have h := ite_t hb h
        refine g_iconst X (v := 0) dX11_makePolygon_69 (by decide) ?_
        refine g_lv [0, 1, 2] rfl ?_
        exact bw_X11_makePolygon_70_7 X  hE hrec h
      · have h := ite_f hb h
        refine g_iconst X (v := 1) dX11_makePolygon_65 (by decide) ?_
        refine g_goto X (tgt := 70) dX11_makePolygon_66 (by decide) ?_
        refine g_lv [0, 1, 2] rfl ?_
        exact bw_X11_makePolygon_70_7 X  hE hrec h
def f_X11_makePolygon (F : Nat) (i0 : Int32) (M : GM) : Option GM := bnd (sI M 122 27 (0 : Int32)) (fun M1 => bnd (0 : Int32) (fun v3 => bndO (lp_X11_makePolygon_7 F i0 F v3 M1) (fun M60 => some M60)))
set_option maxHeartbeats 4000000 in
set_option maxRecDepth 100000 in
theorem w_X11_makePolygon {x : GX} (X : GC x cX11_makePolygon 5 RX11 2) {i0 : Int32}  {F : Nat} {M : GM} {r9 : GM} (hR : ∀ (M9 : GM) (lv9 : List (Nat × Value)) (pc9 : Nat), r9 = M9 → decode cX11_makePolygon pc9 = .ok (.return_, 1) → WG x M9 lv9 pc9 []) (h : f_X11_makePolygon F i0 M = some r9) : WG x M [(0, .ref (gad (xz x) 122)), (1, .int i0)] 0 [] := by
  unfold f_X11_makePolygon at h
  refine g_aload_n X (j := 0) dX11_makePolygon_0 rfl rfl ?_
  refine g_iconst X (v := 0) dX11_makePolygon_1 (by decide) ?_
  refine gp_X11_183 X gT_c122 dX11_makePolygon_2 ?_
  refine g_mem (fun M1 e2 => ?_)
  have h := bnd_e e2 h
  refine g_iconst X (v := 0) dX11_makePolygon_5 (by decide) ?_
  refine g_topi (fun v3 e4 => ?_)
  have h := bnd_e e4 h
  refine g_istore_n X (lv' := [(2, .int v3), (0, .ref (gad (xz x) 122)), (1, .int i0)]) dX11_makePolygon_6 rfl (by decide) rfl ?_
  refine g_lv [1, 2, 0] rfl ?_
  obtain ⟨M60, hl61, h⟩ := bndO_e h
  refine lw_X11_makePolygon_7 X  (fun M60_ e9 => ?_) F v3 M1 hl61
  cases e9
  exact hR M60 _ _ (Option.some.inj h).symm dX11_makePolygon_202
theorem ct_X11_makePolygon {l : Launch} {z : GZ} (htr : l.stackTraces = false) {i0 : Int32}  {M : GM} {F : Nat} {M1 : GM} (h : f_X11_makePolygon F i0 M = some M1) : gMet l z yX11_makePolygon cX11_makePolygon 5 none 2 [.ref (gad z 122), .int i0] M (none) M1 := gMet_ofV (by decide +kernel) (Nat.le_of_ble_eq_true rfl) htr (fun x X ez el hR => by subst ez; subst el; exact w_X11_makePolygon X  (fun M9 lv9 pc9 e9 d9 => by cases e9; exact hR lv9 pc9 d9) h)
theorem dX11_screenX_0 : decode cX11_screenX 0 = .ok (.ldc2_w 200, 3) := by decide +kernel
theorem dX11_screenX_3 : decode cX11_screenX 3 = .ok (.ldc2_w 202, 3) := by decide +kernel
theorem dX11_screenX_6 : decode cX11_screenX 6 = .ok (.aload_n 0, 1) := by decide +kernel
theorem dX11_screenX_7 : decode cX11_screenX 7 = .ok (.getfield 13, 3) := by decide +kernel
theorem dX11_screenX_10 : decode cX11_screenX 10 = .ok (.i2l, 1) := by decide +kernel
theorem dX11_screenX_11 : decode cX11_screenX 11 = .ok (.lmul, 1) := by decide +kernel
theorem dX11_screenX_12 : decode cX11_screenX 12 = .ok (.aload_n 1, 1) := by decide +kernel
theorem dX11_screenX_13 : decode cX11_screenX 13 = .ok (.iconst 0, 1) := by decide +kernel
theorem dX11_screenX_14 : decode cX11_screenX 14 = .ok (.iaload, 1) := by decide +kernel
theorem dX11_screenX_15 : decode cX11_screenX 15 = .ok (.i2l, 1) := by decide +kernel
theorem dX11_screenX_16 : decode cX11_screenX 16 = .ok (.lmul, 1) := by decide +kernel
theorem dX11_screenX_17 : decode cX11_screenX 17 = .ok (.aload_n 1, 1) := by decide +kernel
theorem dX11_screenX_18 : decode cX11_screenX 18 = .ok (.iconst 2, 1) := by decide +kernel
theorem dX11_screenX_19 : decode cX11_screenX 19 = .ok (.iaload, 1) := by decide +kernel
theorem dX11_screenX_20 : decode cX11_screenX 20 = .ok (.i2l, 1) := by decide +kernel
theorem dX11_screenX_21 : decode cX11_screenX 21 = .ok (.invokestatic 179, 3) := by decide +kernel
theorem dX11_screenX_24 : decode cX11_screenX 24 = .ok (.ladd, 1) := by decide +kernel
theorem dX11_screenX_25 : decode cX11_screenX 25 = .ok (.lreturn, 1) := by decide +kernel
def f_X11_screenX (F : Nat) (p0 : Nat) (M : GM) : Option Int64 := grd (gIn (0 : Int32) (gN p0)) (grd (gIn (2 : Int32) (gN p0)) (bndO (f_X11_down F (((16 : Int64) * ((gI M 122 4).toInt64)) * ((gI M p0 0).toInt64)) ((gI M p0 2).toInt64) M) (fun w4 => some ((320 : Int64) + w4))))
set_option maxHeartbeats 4000000 in
set_option maxRecDepth 100000 in
theorem w_X11_screenX {x : GX} (X : GC x cX11_screenX 2 RX11 1) {p0 : Nat} (h1 : gT p0 = 20) {F : Nat} {M : GM} {r9 : Int64} (hR : ∀ (v9 : Int64) (lv9 : List (Nat × Value)) (pc9 : Nat), r9 = v9 → decode cX11_screenX pc9 = .ok (.lreturn, 1) → WG x M lv9 pc9 [.long v9]) (h : f_X11_screenX F p0 M = some r9) : WG x M [(0, .ref (gad (xz x) 122)), (1, .ref (gad (xz x) p0))] 0 [] := by
  unfold f_X11_screenX at h
  refine g_ldc2 X q_1344 dX11_screenX_0 ?_
  refine g_ldc2 X q_1345 dX11_screenX_3 ?_
  refine g_aload_n X (j := 0) dX11_screenX_6 rfl rfl ?_
  refine gf_X11_13 X gT_c122 dX11_screenX_7 ?_
  refine g_i2l X dX11_screenX_10 ?_
  refine g_lmul X dX11_screenX_11 ?_
  refine g_aload_n X (j := 1) dX11_screenX_12 rfl rfl ?_
  refine g_iconst X (v := 0) dX11_screenX_13 (by decide) ?_
  obtain ⟨hg1, h⟩ := grd_e h
  refine g_iald X h1 hg1 dX11_screenX_14 ?_
  rw [tn_0]
  refine g_i2l X dX11_screenX_15 ?_
  refine g_lmul X dX11_screenX_16 ?_
  refine g_aload_n X (j := 1) dX11_screenX_17 rfl rfl ?_
  refine g_iconst X (v := 2) dX11_screenX_18 (by decide) ?_
  obtain ⟨hg2, h⟩ := grd_e h
  refine g_iald X h1 hg2 dX11_screenX_19 ?_
  rw [tn_2]
  refine g_i2l X dX11_screenX_20 ?_
  obtain ⟨w4, hc3, h⟩ := bndO_e h
  refine gc_X11_179 X (ct_X11_down X.htr  hc3) (by decide) (Nat.le_of_ble_eq_true rfl) dX11_screenX_21 ?_
  refine g_ladd X dX11_screenX_24 ?_
  exact hR ((320 : Int64) + w4) _ _ (Option.some.inj h).symm dX11_screenX_25
theorem ct_X11_screenX {l : Launch} {z : GZ} (htr : l.stackTraces = false) {p0 : Nat} (h1 : gT p0 = 20) {M : GM} {F : Nat} {v : Int64} (h : f_X11_screenX F p0 M = some v) : gMet l z yX11_screenX cX11_screenX 2 (some .long) 1 [.ref (gad z 122), .ref (gad z p0)] M (some (.long v)) M := gMet_ofL (by decide +kernel) (Nat.le_of_ble_eq_true rfl) htr (fun x X ez el hR => by subst ez; subst el; exact w_X11_screenX X h1 (fun v9 lv9 pc9 e9 d9 => by cases e9; exact hR lv9 pc9 d9) h)
theorem dX11_screenY_0 : decode cX11_screenY 0 = .ok (.ldc2_w 204, 3) := by decide +kernel
theorem dX11_screenY_3 : decode cX11_screenY 3 = .ok (.ldc2_w 202, 3) := by decide +kernel
theorem dX11_screenY_6 : decode cX11_screenY 6 = .ok (.aload_n 0, 1) := by decide +kernel
theorem dX11_screenY_7 : decode cX11_screenY 7 = .ok (.getfield 13, 3) := by decide +kernel
theorem dX11_screenY_10 : decode cX11_screenY 10 = .ok (.i2l, 1) := by decide +kernel
theorem dX11_screenY_11 : decode cX11_screenY 11 = .ok (.lmul, 1) := by decide +kernel
theorem dX11_screenY_12 : decode cX11_screenY 12 = .ok (.aload_n 1, 1) := by decide +kernel
theorem dX11_screenY_13 : decode cX11_screenY 13 = .ok (.iconst 1, 1) := by decide +kernel
theorem dX11_screenY_14 : decode cX11_screenY 14 = .ok (.iaload, 1) := by decide +kernel
theorem dX11_screenY_15 : decode cX11_screenY 15 = .ok (.i2l, 1) := by decide +kernel
theorem dX11_screenY_16 : decode cX11_screenY 16 = .ok (.lmul, 1) := by decide +kernel
theorem dX11_screenY_17 : decode cX11_screenY 17 = .ok (.aload_n 1, 1) := by decide +kernel
theorem dX11_screenY_18 : decode cX11_screenY 18 = .ok (.iconst 2, 1) := by decide +kernel
theorem dX11_screenY_19 : decode cX11_screenY 19 = .ok (.iaload, 1) := by decide +kernel
theorem dX11_screenY_20 : decode cX11_screenY 20 = .ok (.i2l, 1) := by decide +kernel
theorem dX11_screenY_21 : decode cX11_screenY 21 = .ok (.invokestatic 179, 3) := by decide +kernel
theorem dX11_screenY_24 : decode cX11_screenY 24 = .ok (.ladd, 1) := by decide +kernel
theorem dX11_screenY_25 : decode cX11_screenY 25 = .ok (.lreturn, 1) := by decide +kernel
def f_X11_screenY (F : Nat) (p0 : Nat) (M : GM) : Option Int64 := grd (gIn (1 : Int32) (gN p0)) (grd (gIn (2 : Int32) (gN p0)) (bndO (f_X11_down F (((16 : Int64) * ((gI M 122 4).toInt64)) * ((gI M p0 1).toInt64)) ((gI M p0 2).toInt64) M) (fun w4 => some ((192 : Int64) + w4))))
set_option maxHeartbeats 4000000 in
set_option maxRecDepth 100000 in
theorem w_X11_screenY {x : GX} (X : GC x cX11_screenY 2 RX11 1) {p0 : Nat} (h1 : gT p0 = 20) {F : Nat} {M : GM} {r9 : Int64} (hR : ∀ (v9 : Int64) (lv9 : List (Nat × Value)) (pc9 : Nat), r9 = v9 → decode cX11_screenY pc9 = .ok (.lreturn, 1) → WG x M lv9 pc9 [.long v9]) (h : f_X11_screenY F p0 M = some r9) : WG x M [(0, .ref (gad (xz x) 122)), (1, .ref (gad (xz x) p0))] 0 [] := by
  unfold f_X11_screenY at h
  refine g_ldc2 X q_1355 dX11_screenY_0 ?_
  refine g_ldc2 X q_1345 dX11_screenY_3 ?_
  refine g_aload_n X (j := 0) dX11_screenY_6 rfl rfl ?_
  refine gf_X11_13 X gT_c122 dX11_screenY_7 ?_
  refine g_i2l X dX11_screenY_10 ?_
  refine g_lmul X dX11_screenY_11 ?_
  refine g_aload_n X (j := 1) dX11_screenY_12 rfl rfl ?_
  refine g_iconst X (v := 1) dX11_screenY_13 (by decide) ?_
  obtain ⟨hg1, h⟩ := grd_e h
  refine g_iald X h1 hg1 dX11_screenY_14 ?_
  rw [tn_1]
  refine g_i2l X dX11_screenY_15 ?_
  refine g_lmul X dX11_screenY_16 ?_
  refine g_aload_n X (j := 1) dX11_screenY_17 rfl rfl ?_
  refine g_iconst X (v := 2) dX11_screenY_18 (by decide) ?_
  obtain ⟨hg2, h⟩ := grd_e h
  refine g_iald X h1 hg2 dX11_screenY_19 ?_
  rw [tn_2]
  refine g_i2l X dX11_screenY_20 ?_
  obtain ⟨w4, hc3, h⟩ := bndO_e h
  refine gc_X11_179 X (ct_X11_down X.htr  hc3) (by decide) (Nat.le_of_ble_eq_true rfl) dX11_screenY_21 ?_
  refine g_ladd X dX11_screenY_24 ?_
  exact hR ((192 : Int64) + w4) _ _ (Option.some.inj h).symm dX11_screenY_25
theorem ct_X11_screenY {l : Launch} {z : GZ} (htr : l.stackTraces = false) {p0 : Nat} (h1 : gT p0 = 20) {M : GM} {F : Nat} {v : Int64} (h : f_X11_screenY F p0 M = some v) : gMet l z yX11_screenY cX11_screenY 2 (some .long) 1 [.ref (gad z 122), .ref (gad z p0)] M (some (.long v)) M := gMet_ofL (by decide +kernel) (Nat.le_of_ble_eq_true rfl) htr (fun x X ez el hR => by subst ez; subst el; exact w_X11_screenY X h1 (fun v9 lv9 pc9 e9 d9 => by cases e9; exact hR lv9 pc9 d9) h)
theorem dX11_depthAt_0 : decode cX11_depthAt 0 = .ok (.ldc2_w 206, 3) := by decide +kernel
theorem dX11_depthAt_3 : decode cX11_depthAt 3 = .ok (.ldc2_w 206, 3) := by decide +kernel
theorem dX11_depthAt_6 : decode cX11_depthAt 6 = .ok (.aload_n 0, 1) := by decide +kernel
theorem dX11_depthAt_7 : decode cX11_depthAt 7 = .ok (.getfield 9, 3) := by decide +kernel
theorem dX11_depthAt_10 : decode cX11_depthAt 10 = .ok (.i2l, 1) := by decide +kernel
theorem dX11_depthAt_11 : decode cX11_depthAt 11 = .ok (.lmul, 1) := by decide +kernel
theorem dX11_depthAt_12 : decode cX11_depthAt 12 = .ok (.aload_n 1, 1) := by decide +kernel
theorem dX11_depthAt_13 : decode cX11_depthAt 13 = .ok (.iconst 2, 1) := by decide +kernel
theorem dX11_depthAt_14 : decode cX11_depthAt 14 = .ok (.iaload, 1) := by decide +kernel
theorem dX11_depthAt_15 : decode cX11_depthAt 15 = .ok (.i2l, 1) := by decide +kernel
theorem dX11_depthAt_16 : decode cX11_depthAt 16 = .ok (.ldiv, 1) := by decide +kernel
theorem dX11_depthAt_17 : decode cX11_depthAt 17 = .ok (.lsub, 1) := by decide +kernel
theorem dX11_depthAt_18 : decode cX11_depthAt 18 = .ok (.lreturn, 1) := by decide +kernel
def f_X11_depthAt (F : Nat) (p0 : Nat) (M : GM) : Option Int64 := grd (gIn (2 : Int32) (gN p0)) (grd (decide (¬ ((gI M p0 2).toInt64) = 0)) (some ((65535 : Int64) - (((65535 : Int64) * ((gI M 122 3).toInt64)) / ((gI M p0 2).toInt64)))))
set_option maxHeartbeats 4000000 in
set_option maxRecDepth 100000 in
theorem w_X11_depthAt {x : GX} (X : GC x cX11_depthAt 2 RX11 0) {p0 : Nat} (h1 : gT p0 = 20) {F : Nat} {M : GM} {r9 : Int64} (hR : ∀ (v9 : Int64) (lv9 : List (Nat × Value)) (pc9 : Nat), r9 = v9 → decode cX11_depthAt pc9 = .ok (.lreturn, 1) → WG x M lv9 pc9 [.long v9]) (h : f_X11_depthAt F p0 M = some r9) : WG x M [(0, .ref (gad (xz x) 122)), (1, .ref (gad (xz x) p0))] 0 [] := by
  unfold f_X11_depthAt at h
  refine g_ldc2 X q_1360 dX11_depthAt_0 ?_
  refine g_ldc2 X q_1360 dX11_depthAt_3 ?_
  refine g_aload_n X (j := 0) dX11_depthAt_6 rfl rfl ?_
  refine gf_X11_9 X gT_c122 dX11_depthAt_7 ?_
  refine g_i2l X dX11_depthAt_10 ?_
  refine g_lmul X dX11_depthAt_11 ?_
  refine g_aload_n X (j := 1) dX11_depthAt_12 rfl rfl ?_
  refine g_iconst X (v := 2) dX11_depthAt_13 (by decide) ?_
  obtain ⟨hg1, h⟩ := grd_e h
  refine g_iald X h1 hg1 dX11_depthAt_14 ?_
  rw [tn_2]
  refine g_i2l X dX11_depthAt_15 ?_
  obtain ⟨hg2, h⟩ := grd_e h
  refine g_ldiv X dX11_depthAt_16 (of_decide_eq_true hg2) ?_
  refine g_lsub X dX11_depthAt_17 ?_
  exact hR ((65535 : Int64) - (((65535 : Int64) * ((gI M 122 3).toInt64)) / ((gI M p0 2).toInt64))) _ _ (Option.some.inj h).symm dX11_depthAt_18
theorem ct_X11_depthAt {l : Launch} {z : GZ} (htr : l.stackTraces = false) {p0 : Nat} (h1 : gT p0 = 20) {M : GM} {F : Nat} {v : Int64} (h : f_X11_depthAt F p0 M = some v) : gMet l z yX11_depthAt cX11_depthAt 2 (some .long) 0 [.ref (gad z 122), .ref (gad z p0)] M (some (.long v)) M := gMet_ofL (by decide +kernel) (Nat.le_of_ble_eq_true rfl) htr (fun x X ez el hR => by subst ez; subst el; exact w_X11_depthAt X h1 (fun v9 lv9 pc9 e9 d9 => by cases e9; exact hR lv9 pc9 d9) h)
theorem dX11_weightOf_0 : decode cX11_weightOf 0 = .ok (.ldc 208, 2) := by decide +kernel
theorem dX11_weightOf_2 : decode cX11_weightOf 2 = .ok (.aload_n 0, 1) := by decide +kernel
theorem dX11_weightOf_3 : decode cX11_weightOf 3 = .ok (.iconst 2, 1) := by decide +kernel
theorem dX11_weightOf_4 : decode cX11_weightOf 4 = .ok (.iaload, 1) := by decide +kernel
theorem dX11_weightOf_5 : decode cX11_weightOf 5 = .ok (.idiv, 1) := by decide +kernel
theorem dX11_weightOf_6 : decode cX11_weightOf 6 = .ok (.iconst 1, 1) := by decide +kernel
theorem dX11_weightOf_7 : decode cX11_weightOf 7 = .ok (.iadd, 1) := by decide +kernel
theorem dX11_weightOf_8 : decode cX11_weightOf 8 = .ok (.i2l, 1) := by decide +kernel
theorem dX11_weightOf_9 : decode cX11_weightOf 9 = .ok (.lreturn, 1) := by decide +kernel
def f_X11_weightOf (F : Nat) (p0 : Nat) (M : GM) : Option Int64 := grd (gIn (2 : Int32) (gN p0)) (grd (decide (¬ (gI M p0 2) = 0)) (some ((((65536 : Int32) / (gI M p0 2)) + (1 : Int32)).toInt64)))
set_option maxHeartbeats 4000000 in
set_option maxRecDepth 100000 in
theorem w_X11_weightOf {x : GX} (X : GC x cX11_weightOf 1 RX11 0) {p0 : Nat} (h1 : gT p0 = 20) {F : Nat} {M : GM} {r9 : Int64} (hR : ∀ (v9 : Int64) (lv9 : List (Nat × Value)) (pc9 : Nat), r9 = v9 → decode cX11_weightOf pc9 = .ok (.lreturn, 1) → WG x M lv9 pc9 [.long v9]) (h : f_X11_weightOf F p0 M = some r9) : WG x M [(0, .ref (gad (xz x) p0))] 0 [] := by
  unfold f_X11_weightOf at h
  refine g_ldc X q_1364 dX11_weightOf_0 ?_
  refine g_aload_n X (j := 0) dX11_weightOf_2 rfl rfl ?_
  refine g_iconst X (v := 2) dX11_weightOf_3 (by decide) ?_
  obtain ⟨hg1, h⟩ := grd_e h
  refine g_iald X h1 hg1 dX11_weightOf_4 ?_
  rw [tn_2]
  obtain ⟨hg2, h⟩ := grd_e h
  refine g_idiv X dX11_weightOf_5 (of_decide_eq_true hg2) ?_
  refine g_iconst X (v := 1) dX11_weightOf_6 (by decide) ?_
  refine g_iadd X dX11_weightOf_7 ?_
  refine g_i2l X dX11_weightOf_8 ?_
  exact hR ((((65536 : Int32) / (gI M p0 2)) + (1 : Int32)).toInt64) _ _ (Option.some.inj h).symm dX11_weightOf_9
theorem ct_X11_weightOf {l : Launch} {z : GZ} (htr : l.stackTraces = false) {p0 : Nat} (h1 : gT p0 = 20) {M : GM} {F : Nat} {v : Int64} (h : f_X11_weightOf F p0 M = some v) : gMet l z yX11_weightOf cX11_weightOf 1 (some .long) 0 [.ref (gad z p0)] M (some (.long v)) M := gMet_ofL (by decide +kernel) (Nat.le_of_ble_eq_true rfl) htr (fun x X ez el hR => by subst ez; subst el; exact w_X11_weightOf X h1 (fun v9 lv9 pc9 e9 d9 => by cases e9; exact hR lv9 pc9 d9) h)
theorem dX11_isOff_0 : decode cX11_isOff 0 = .ok (.lload_n 0, 1) := by decide +kernel
theorem dX11_isOff_1 : decode cX11_isOff 1 = .ok (.ldc2_w 209, 3) := by decide +kernel
theorem dX11_isOff_4 : decode cX11_isOff 4 = .ok (.lcmp, 1) := by decide +kernel
theorem dX11_isOff_5 : decode cX11_isOff 5 = .ok (.ifCond .lt 11, 3) := by decide +kernel
theorem dX11_isOff_8 : decode cX11_isOff 8 = .ok (.lload_n 0, 1) := by decide +kernel
theorem dX11_isOff_9 : decode cX11_isOff 9 = .ok (.ldc2_w 211, 3) := by decide +kernel
theorem dX11_isOff_12 : decode cX11_isOff 12 = .ok (.lcmp, 1) := by decide +kernel
theorem dX11_isOff_13 : decode cX11_isOff 13 = .ok (.ifCond .le 7, 3) := by decide +kernel
theorem dX11_isOff_16 : decode cX11_isOff 16 = .ok (.iconst 1, 1) := by decide +kernel
theorem dX11_isOff_17 : decode cX11_isOff 17 = .ok (.goto 4, 3) := by decide +kernel
theorem dX11_isOff_20 : decode cX11_isOff 20 = .ok (.iconst 0, 1) := by decide +kernel
theorem dX11_isOff_21 : decode cX11_isOff 21 = .ok (.ireturn, 1) := by decide +kernel
def f_X11_isOff (j0 : Int64) : Int32 := if (lg_cmp j0 ((-30000) : Int64)) < 0 then ((1 : Int32)) else (if (lg_cmp j0 (30000 : Int64)) ≤ 0 then ((0 : Int32)) else ((1 : Int32)))
set_option maxHeartbeats 4000000 in
set_option maxRecDepth 100000 in
theorem w_X11_isOff {x : GX} (X : GC x cX11_isOff 2 RX11 0) {j0 : Int64}  {M : GM} {r9 : Int32} (hR : ∀ (v9 : Int32) (lv9 : List (Nat × Value)) (pc9 : Nat), r9 = v9 → (v9 = 0 ∨ v9 = 1) → decode cX11_isOff pc9 = .ok (.ireturn, 1) → WG x M lv9 pc9 [.int v9]) (h : f_X11_isOff j0 = r9) : WG x M [(0, .long j0)] 0 [] := by
  unfold f_X11_isOff at h
  refine g_lload_n X (j := 0) dX11_isOff_0 rfl rfl ?_
  refine g_ldc2 X q_1349 dX11_isOff_1 ?_
  refine g_lcmp X dX11_isOff_4 ?_
  refine g_if_lt X (tgt := 16) dX11_isOff_5 (by decide) (fun hb => ?_) (fun hb => ?_)
  · have h := ite_t hb h
    refine g_iconst X (v := 1) dX11_isOff_16 (by decide) ?_
    refine g_goto X (tgt := 21) dX11_isOff_17 (by decide) ?_
    exact hR (1 : Int32) _ _ h.symm (Or.inr rfl) dX11_isOff_21
  · have h := ite_f hb h
    refine g_lload_n X (j := 0) dX11_isOff_8 rfl rfl ?_
    refine g_ldc2 X q_1350 dX11_isOff_9 ?_
    refine g_lcmp X dX11_isOff_12 ?_
    refine g_if_le X (tgt := 20) dX11_isOff_13 (by decide) (fun hb => ?_) (fun hb => ?_)
    · have h := ite_t hb h
      refine g_iconst X (v := 0) dX11_isOff_20 (by decide) ?_
      exact hR (0 : Int32) _ _ h.symm (Or.inl rfl) dX11_isOff_21
    · have h := ite_f hb h
      refine g_iconst X (v := 1) dX11_isOff_16 (by decide) ?_
      refine g_goto X (tgt := 21) dX11_isOff_17 (by decide) ?_
      exact hR (1 : Int32) _ _ h.symm (Or.inr rfl) dX11_isOff_21
theorem ct_X11_isOff {l : Launch} {z : GZ} (htr : l.stackTraces = false) {j0 : Int64}  {M : GM} : gMet l z yX11_isOff cX11_isOff 2 (some .boolean) 0 [.long j0] M (some (.int (f_X11_isOff j0))) M := gMet_ofZ (by decide +kernel) (Nat.le_of_ble_eq_true rfl) htr (fun x X ez el hR => by subst ez; subst el; exact w_X11_isOff X  (fun v9 lv9 pc9 e9 z9 d9 => by cases e9; exact hR lv9 pc9 z9 d9) rfl)
theorem fz_X11_isOff (j0 : Int64) : f_X11_isOff j0 = 0 ∨ f_X11_isOff j0 = 1 := by
  unfold f_X11_isOff
  repeat' split
  all_goals first | exact Or.inl rfl | exact Or.inr rfl | exact fz_X11_isIn _ _ _
theorem gc_X11_213 {x : GX} {cc : ByteArray} {nL d pc : Nat} {M : GM} {lv : List (Nat × Value)} {st : List Value} (X : GC x cc nL RX11 d) {i0 : Nat} {M1 : GM} {r : Int64} (ht : gT 122 = 11) (hM : gMet (xl x) (xz x) yX11_screenX cX11_screenX 2 (some .long) 1 [.ref (gad (xz x) 122), .ref (gad (xz x) i0)] M (some (.long r)) M1) (hd : 2 ≤ d) (hsum : (st.map fun v => v.category).sum ≤ 8) (dec : decode cc pc = .ok (.invokevirtual 213, 3)) (go : WG x M1 lv (pc + 3) (.long r :: st)) : WG x M lv pc (.ref (gad (xz x) i0) :: .ref (gad (xz x) 122) :: st) := g_callV X (n := 1) (As := [.ref (gad (xz x) i0)]) (rest := st) hM ht (by decide) (gE_11 ht) rfl q_1340 q_1342 q_29 q_63 q_1343 (by decide +kernel) rfl hd (by decide) rfl hsum dec go
theorem gc_X11_217 {x : GX} {cc : ByteArray} {nL d pc : Nat} {M : GM} {lv : List (Nat × Value)} {st : List Value} (X : GC x cc nL RX11 d) {i0 : Nat} {M1 : GM} {r : Int64} (ht : gT 122 = 11) (hM : gMet (xl x) (xz x) yX11_screenY cX11_screenY 2 (some .long) 1 [.ref (gad (xz x) 122), .ref (gad (xz x) i0)] M (some (.long r)) M1) (hd : 2 ≤ d) (hsum : (st.map fun v => v.category).sum ≤ 8) (dec : decode cc pc = .ok (.invokevirtual 217, 3)) (go : WG x M1 lv (pc + 3) (.long r :: st)) : WG x M lv pc (.ref (gad (xz x) i0) :: .ref (gad (xz x) 122) :: st) := g_callV X (n := 1) (As := [.ref (gad (xz x) i0)]) (rest := st) hM ht (by decide) (gE_11 ht) rfl q_1351 q_1353 q_30 q_63 q_1354 (by decide +kernel) rfl hd (by decide) rfl hsum dec go
theorem gc_X11_220 {x : GX} {cc : ByteArray} {nL d pc : Nat} {M : GM} {lv : List (Nat × Value)} {st : List Value} (X : GC x cc nL RX11 d) {i0 : Nat} {M1 : GM} {r : Int64} (ht : gT 122 = 11) (hM : gMet (xl x) (xz x) yX11_depthAt cX11_depthAt 2 (some .long) 0 [.ref (gad (xz x) 122), .ref (gad (xz x) i0)] M (some (.long r)) M1) (hd : 1 ≤ d) (hsum : (st.map fun v => v.category).sum ≤ 8) (dec : decode cc pc = .ok (.invokevirtual 220, 3)) (go : WG x M1 lv (pc + 3) (.long r :: st)) : WG x M lv pc (.ref (gad (xz x) i0) :: .ref (gad (xz x) 122) :: st) := g_callV X (n := 1) (As := [.ref (gad (xz x) i0)]) (rest := st) hM ht (by decide) (gE_11 ht) rfl q_1356 q_1358 q_31 q_63 q_1359 (by decide +kernel) rfl hd (by decide) rfl hsum dec go
theorem gc_X11_223 {x : GX} {cc : ByteArray} {nL d pc : Nat} {M : GM} {lv : List (Nat × Value)} {st : List Value} (X : GC x cc nL RX11 d) {i0 : Nat} {M1 : GM} {r : Int64} (hM : gMet (xl x) (xz x) yX11_weightOf cX11_weightOf 1 (some .long) 0 [.ref (gad (xz x) i0)] M (some (.long r)) M1) (hd : 1 ≤ d) (hsum : (st.map fun v => v.category).sum ≤ 8) (dec : decode cc pc = .ok (.invokestatic 223, 3)) (go : WG x M1 lv (pc + 3) (.long r :: st)) : WG x M lv pc (.ref (gad (xz x) i0) :: st) := g_callS X (n := 1) (As := [.ref (gad (xz x) i0)]) (rest := st) hM q_1361 q_1362 q_63 q_1363 (by decide +kernel) rfl hd (by decide) rfl hsum dec go
theorem dX11_lay_0 : decode cX11_lay 0 = .ok (.aload_n 2, 1) := by decide +kernel
theorem dX11_lay_1 : decode cX11_lay 1 = .ok (.iconst 0, 1) := by decide +kernel
theorem dX11_lay_2 : decode cX11_lay 2 = .ok (.aload_n 0, 1) := by decide +kernel
theorem dX11_lay_3 : decode cX11_lay 3 = .ok (.getfield 80, 3) := by decide +kernel
theorem dX11_lay_6 : decode cX11_lay 6 = .ok (.iload_n 1, 1) := by decide +kernel
theorem dX11_lay_7 : decode cX11_lay 7 = .ok (.aaload, 1) := by decide +kernel
theorem dX11_lay_8 : decode cX11_lay 8 = .ok (.iconst 0, 1) := by decide +kernel
theorem dX11_lay_9 : decode cX11_lay 9 = .ok (.bipush 8, 2) := by decide +kernel
theorem dX11_lay_11 : decode cX11_lay 11 = .ok (.invokestatic 190, 3) := by decide +kernel
theorem dX11_lay_14 : decode cX11_lay 14 = .ok (.aload_n 0, 1) := by decide +kernel
theorem dX11_lay_15 : decode cX11_lay 15 = .ok (.getfield 83, 3) := by decide +kernel
theorem dX11_lay_18 : decode cX11_lay 18 = .ok (.iload_n 1, 1) := by decide +kernel
theorem dX11_lay_19 : decode cX11_lay 19 = .ok (.aload_n 0, 1) := by decide +kernel
theorem dX11_lay_20 : decode cX11_lay 20 = .ok (.aload_n 2, 1) := by decide +kernel
theorem dX11_lay_21 : decode cX11_lay 21 = .ok (.invokevirtual 213, 3) := by decide +kernel
theorem dX11_lay_24 : decode cX11_lay 24 = .ok (.lastore, 1) := by decide +kernel
theorem dX11_lay_25 : decode cX11_lay 25 = .ok (.aload_n 0, 1) := by decide +kernel
theorem dX11_lay_26 : decode cX11_lay 26 = .ok (.getfield 87, 3) := by decide +kernel
theorem dX11_lay_29 : decode cX11_lay 29 = .ok (.iload_n 1, 1) := by decide +kernel
theorem dX11_lay_30 : decode cX11_lay 30 = .ok (.aload_n 0, 1) := by decide +kernel
theorem dX11_lay_31 : decode cX11_lay 31 = .ok (.aload_n 2, 1) := by decide +kernel
theorem dX11_lay_32 : decode cX11_lay 32 = .ok (.invokevirtual 217, 3) := by decide +kernel
theorem dX11_lay_35 : decode cX11_lay 35 = .ok (.lastore, 1) := by decide +kernel
theorem dX11_lay_36 : decode cX11_lay 36 = .ok (.aload_n 0, 1) := by decide +kernel
theorem dX11_lay_37 : decode cX11_lay 37 = .ok (.getfield 90, 3) := by decide +kernel
theorem dX11_lay_40 : decode cX11_lay 40 = .ok (.iload_n 1, 1) := by decide +kernel
theorem dX11_lay_41 : decode cX11_lay 41 = .ok (.aload_n 0, 1) := by decide +kernel
theorem dX11_lay_42 : decode cX11_lay 42 = .ok (.aload_n 2, 1) := by decide +kernel
theorem dX11_lay_43 : decode cX11_lay 43 = .ok (.invokevirtual 220, 3) := by decide +kernel
theorem dX11_lay_46 : decode cX11_lay 46 = .ok (.lastore, 1) := by decide +kernel
theorem dX11_lay_47 : decode cX11_lay 47 = .ok (.aload_n 0, 1) := by decide +kernel
theorem dX11_lay_48 : decode cX11_lay 48 = .ok (.getfield 93, 3) := by decide +kernel
theorem dX11_lay_51 : decode cX11_lay 51 = .ok (.iload_n 1, 1) := by decide +kernel
theorem dX11_lay_52 : decode cX11_lay 52 = .ok (.aload_n 2, 1) := by decide +kernel
theorem dX11_lay_53 : decode cX11_lay 53 = .ok (.invokestatic 223, 3) := by decide +kernel
theorem dX11_lay_56 : decode cX11_lay 56 = .ok (.lastore, 1) := by decide +kernel
theorem dX11_lay_57 : decode cX11_lay 57 = .ok (.return_, 1) := by decide +kernel
def f_X11_lay (F : Nat) (i0 : Int32) (p1 : Nat) (M : GM) : Option GM := grd (gIn i0 (gN 149)) (bnd (gR 149 i0.toNatClampNeg) (fun o2 => grd (decide (8 ≤ gN p1)) (grd (decide (8 ≤ gN o2)) (bnd (sC M o2 0 8 (fun j => gI M p1 j)) (fun M7 => bndO (f_X11_screenX F p1 M7) (fun w10 => grd (gIn i0 (gN 153)) (bnd (sL M7 153 i0.toNatClampNeg w10) (fun M12 => bndO (f_X11_screenY F p1 M12) (fun w15 => grd (gIn i0 (gN 154)) (bnd (sL M12 154 i0.toNatClampNeg w15) (fun M17 => bndO (f_X11_depthAt F p1 M17) (fun w20 => grd (gIn i0 (gN 155)) (bnd (sL M17 155 i0.toNatClampNeg w20) (fun M22 => bndO (f_X11_weightOf F p1 M22) (fun w25 => grd (gIn i0 (gN 156)) (bnd (sL M22 156 i0.toNatClampNeg w25) (fun M27 => some M27)))))))))))))))))
set_option maxHeartbeats 4000000 in
set_option maxRecDepth 100000 in
theorem w_X11_lay {x : GX} (X : GC x cX11_lay 3 RX11 2) {i0 : Int32} {p1 : Nat} (h2 : gT p1 = 20) {F : Nat} {M : GM} {r9 : GM} (hR : ∀ (M9 : GM) (lv9 : List (Nat × Value)) (pc9 : Nat), r9 = M9 → decode cX11_lay pc9 = .ok (.return_, 1) → WG x M9 lv9 pc9 []) (h : f_X11_lay F i0 p1 M = some r9) : WG x M [(0, .ref (gad (xz x) 122)), (1, .int i0), (2, .ref (gad (xz x) p1))] 0 [] := by
  unfold f_X11_lay at h
  refine g_aload_n X (j := 2) dX11_lay_0 rfl rfl ?_
  refine g_iconst X (v := 0) dX11_lay_1 (by decide) ?_
  refine g_aload_n X (j := 0) dX11_lay_2 rfl rfl ?_
  refine gf_X11_80 X gT_c122 dX11_lay_3 ?_
  refine g_iload_n X (j := 1) dX11_lay_6 rfl rfl ?_
  obtain ⟨hg1, h⟩ := grd_e h
  refine g_aald_28 X gT_c149 hg1 dX11_lay_7 ?_
  refine g_topr (fun o2 e3 => ?_)
  have h := bnd_e e3 h
  have k4 : gT o2 = 20 := by rw [e3]; exact gR_28 gT_c149 (gIn_lt hg1)
  refine g_iconst X (v := 0) dX11_lay_8 (by decide) ?_
  refine g_bipush X (v := 8) dX11_lay_9 (by decide) ?_
  obtain ⟨hg5, h⟩ := grd_e h
  obtain ⟨hg6, h⟩ := grd_e h
  refine gm_X11_190 X (by decide) (Nat.le_of_ble_eq_true rfl) h2 k4 (n := 8) (by decide) tn_8 (of_decide_eq_true hg5) (of_decide_eq_true hg6) dX11_lay_11 ?_
  refine g_mem (fun M7 e8 => ?_)
  have h := bnd_e e8 h
  refine g_aload_n X (j := 0) dX11_lay_14 rfl rfl ?_
  refine gf_X11_83 X gT_c122 dX11_lay_15 ?_
  refine g_iload_n X (j := 1) dX11_lay_18 rfl rfl ?_
  refine g_aload_n X (j := 0) dX11_lay_19 rfl rfl ?_
  refine g_aload_n X (j := 2) dX11_lay_20 rfl rfl ?_
  obtain ⟨w10, hc9, h⟩ := bndO_e h
  refine gc_X11_213 X gT_c122 (ct_X11_screenX X.htr h2 hc9) (by decide) (Nat.le_of_ble_eq_true rfl) dX11_lay_21 ?_
  obtain ⟨hg11, h⟩ := grd_e h
  refine g_last X gT_c153 hg11 dX11_lay_24 ?_
  refine g_mem (fun M12 e13 => ?_)
  have h := bnd_e e13 h
  refine g_aload_n X (j := 0) dX11_lay_25 rfl rfl ?_
  refine gf_X11_87 X gT_c122 dX11_lay_26 ?_
  refine g_iload_n X (j := 1) dX11_lay_29 rfl rfl ?_
  refine g_aload_n X (j := 0) dX11_lay_30 rfl rfl ?_
  refine g_aload_n X (j := 2) dX11_lay_31 rfl rfl ?_
  obtain ⟨w15, hc14, h⟩ := bndO_e h
  refine gc_X11_217 X gT_c122 (ct_X11_screenY X.htr h2 hc14) (by decide) (Nat.le_of_ble_eq_true rfl) dX11_lay_32 ?_
  obtain ⟨hg16, h⟩ := grd_e h
  refine g_last X gT_c154 hg16 dX11_lay_35 ?_
  refine g_mem (fun M17 e18 => ?_)
  have h := bnd_e e18 h
  refine g_aload_n X (j := 0) dX11_lay_36 rfl rfl ?_
  refine gf_X11_90 X gT_c122 dX11_lay_37 ?_
  refine g_iload_n X (j := 1) dX11_lay_40 rfl rfl ?_
  refine g_aload_n X (j := 0) dX11_lay_41 rfl rfl ?_
  refine g_aload_n X (j := 2) dX11_lay_42 rfl rfl ?_
  obtain ⟨w20, hc19, h⟩ := bndO_e h
  refine gc_X11_220 X gT_c122 (ct_X11_depthAt X.htr h2 hc19) (by decide) (Nat.le_of_ble_eq_true rfl) dX11_lay_43 ?_
  obtain ⟨hg21, h⟩ := grd_e h
  refine g_last X gT_c155 hg21 dX11_lay_46 ?_
  refine g_mem (fun M22 e23 => ?_)
  have h := bnd_e e23 h
  refine g_aload_n X (j := 0) dX11_lay_47 rfl rfl ?_
  refine gf_X11_93 X gT_c122 dX11_lay_48 ?_
  refine g_iload_n X (j := 1) dX11_lay_51 rfl rfl ?_
  refine g_aload_n X (j := 2) dX11_lay_52 rfl rfl ?_
  obtain ⟨w25, hc24, h⟩ := bndO_e h
  refine gc_X11_223 X (ct_X11_weightOf X.htr h2 hc24) (by decide) (Nat.le_of_ble_eq_true rfl) dX11_lay_53 ?_
  obtain ⟨hg26, h⟩ := grd_e h
  refine g_last X gT_c156 hg26 dX11_lay_56 ?_
  refine g_mem (fun M27 e28 => ?_)
  have h := bnd_e e28 h
  exact hR M27 _ _ (Option.some.inj h).symm dX11_lay_57
theorem ct_X11_lay {l : Launch} {z : GZ} (htr : l.stackTraces = false) {i0 : Int32} {p1 : Nat} (h2 : gT p1 = 20) {M : GM} {F : Nat} {M1 : GM} (h : f_X11_lay F i0 p1 M = some M1) : gMet l z yX11_lay cX11_lay 3 none 2 [.ref (gad z 122), .int i0, .ref (gad z p1)] M (none) M1 := gMet_ofV (by decide +kernel) (Nat.le_of_ble_eq_true rfl) htr (fun x X ez el hR => by subst ez; subst el; exact w_X11_lay X h2 (fun M9 lv9 pc9 e9 d9 => by cases e9; exact hR lv9 pc9 d9) h)
theorem dX11_turn_0 : decode cX11_turn 0 = .ok (.aload_n 0, 1) := by decide +kernel
theorem dX11_turn_1 : decode cX11_turn 1 = .ok (.getfield 83, 3) := by decide +kernel
theorem dX11_turn_4 : decode cX11_turn 4 = .ok (.iload_n 2, 1) := by decide +kernel
theorem dX11_turn_5 : decode cX11_turn 5 = .ok (.laload, 1) := by decide +kernel
theorem dX11_turn_6 : decode cX11_turn 6 = .ok (.aload_n 0, 1) := by decide +kernel
theorem dX11_turn_7 : decode cX11_turn 7 = .ok (.getfield 83, 3) := by decide +kernel
theorem dX11_turn_10 : decode cX11_turn 10 = .ok (.iload_n 1, 1) := by decide +kernel
theorem dX11_turn_11 : decode cX11_turn 11 = .ok (.laload, 1) := by decide +kernel
theorem dX11_turn_12 : decode cX11_turn 12 = .ok (.lsub, 1) := by decide +kernel
theorem dX11_turn_13 : decode cX11_turn 13 = .ok (.lload 5, 2) := by decide +kernel
theorem dX11_turn_15 : decode cX11_turn 15 = .ok (.aload_n 0, 1) := by decide +kernel
theorem dX11_turn_16 : decode cX11_turn 16 = .ok (.getfield 87, 3) := by decide +kernel
theorem dX11_turn_19 : decode cX11_turn 19 = .ok (.iload_n 1, 1) := by decide +kernel
theorem dX11_turn_20 : decode cX11_turn 20 = .ok (.laload, 1) := by decide +kernel
theorem dX11_turn_21 : decode cX11_turn 21 = .ok (.lsub, 1) := by decide +kernel
theorem dX11_turn_22 : decode cX11_turn 22 = .ok (.lmul, 1) := by decide +kernel
theorem dX11_turn_23 : decode cX11_turn 23 = .ok (.aload_n 0, 1) := by decide +kernel
theorem dX11_turn_24 : decode cX11_turn 24 = .ok (.getfield 87, 3) := by decide +kernel
theorem dX11_turn_27 : decode cX11_turn 27 = .ok (.iload_n 2, 1) := by decide +kernel
theorem dX11_turn_28 : decode cX11_turn 28 = .ok (.laload, 1) := by decide +kernel
theorem dX11_turn_29 : decode cX11_turn 29 = .ok (.aload_n 0, 1) := by decide +kernel
theorem dX11_turn_30 : decode cX11_turn 30 = .ok (.getfield 87, 3) := by decide +kernel
theorem dX11_turn_33 : decode cX11_turn 33 = .ok (.iload_n 1, 1) := by decide +kernel
theorem dX11_turn_34 : decode cX11_turn 34 = .ok (.laload, 1) := by decide +kernel
theorem dX11_turn_35 : decode cX11_turn 35 = .ok (.lsub, 1) := by decide +kernel
theorem dX11_turn_36 : decode cX11_turn 36 = .ok (.lload_n 3, 1) := by decide +kernel
theorem dX11_turn_37 : decode cX11_turn 37 = .ok (.aload_n 0, 1) := by decide +kernel
theorem dX11_turn_38 : decode cX11_turn 38 = .ok (.getfield 83, 3) := by decide +kernel
theorem dX11_turn_41 : decode cX11_turn 41 = .ok (.iload_n 1, 1) := by decide +kernel
theorem dX11_turn_42 : decode cX11_turn 42 = .ok (.laload, 1) := by decide +kernel
theorem dX11_turn_43 : decode cX11_turn 43 = .ok (.lsub, 1) := by decide +kernel
theorem dX11_turn_44 : decode cX11_turn 44 = .ok (.lmul, 1) := by decide +kernel
theorem dX11_turn_45 : decode cX11_turn 45 = .ok (.lsub, 1) := by decide +kernel
theorem dX11_turn_46 : decode cX11_turn 46 = .ok (.lreturn, 1) := by decide +kernel
def f_X11_turn (F : Nat) (i0 : Int32) (i1 : Int32) (j2 : Int64) (j3 : Int64) (M : GM) : Option Int64 := grd (gIn i1 (gN 153)) (grd (gIn i0 (gN 153)) (grd (gIn i0 (gN 154)) (grd (gIn i1 (gN 154)) (grd (gIn i0 (gN 154)) (grd (gIn i0 (gN 153)) (some ((((gL M 153 i1.toNatClampNeg) - (gL M 153 i0.toNatClampNeg)) * (j3 - (gL M 154 i0.toNatClampNeg))) - (((gL M 154 i1.toNatClampNeg) - (gL M 154 i0.toNatClampNeg)) * (j2 - (gL M 153 i0.toNatClampNeg))))))))))
set_option maxHeartbeats 4000000 in
set_option maxRecDepth 100000 in
theorem w_X11_turn {x : GX} (X : GC x cX11_turn 7 RX11 0) {i0 : Int32} {i1 : Int32} {j2 : Int64} {j3 : Int64}  {F : Nat} {M : GM} {r9 : Int64} (hR : ∀ (v9 : Int64) (lv9 : List (Nat × Value)) (pc9 : Nat), r9 = v9 → decode cX11_turn pc9 = .ok (.lreturn, 1) → WG x M lv9 pc9 [.long v9]) (h : f_X11_turn F i0 i1 j2 j3 M = some r9) : WG x M [(0, .ref (gad (xz x) 122)), (1, .int i0), (2, .int i1), (3, .long j2), (5, .long j3)] 0 [] := by
  unfold f_X11_turn at h
  refine g_aload_n X (j := 0) dX11_turn_0 rfl rfl ?_
  refine gf_X11_83 X gT_c122 dX11_turn_1 ?_
  refine g_iload_n X (j := 2) dX11_turn_4 rfl rfl ?_
  obtain ⟨hg1, h⟩ := grd_e h
  refine g_lald X gT_c153 hg1 dX11_turn_5 ?_
  refine g_aload_n X (j := 0) dX11_turn_6 rfl rfl ?_
  refine gf_X11_83 X gT_c122 dX11_turn_7 ?_
  refine g_iload_n X (j := 1) dX11_turn_10 rfl rfl ?_
  obtain ⟨hg2, h⟩ := grd_e h
  refine g_lald X gT_c153 hg2 dX11_turn_11 ?_
  refine g_lsub X dX11_turn_12 ?_
  refine g_lload X (j := 4) dX11_turn_13 rfl ?_
  refine g_aload_n X (j := 0) dX11_turn_15 rfl rfl ?_
  refine gf_X11_87 X gT_c122 dX11_turn_16 ?_
  refine g_iload_n X (j := 1) dX11_turn_19 rfl rfl ?_
  obtain ⟨hg3, h⟩ := grd_e h
  refine g_lald X gT_c154 hg3 dX11_turn_20 ?_
  refine g_lsub X dX11_turn_21 ?_
  refine g_lmul X dX11_turn_22 ?_
  refine g_aload_n X (j := 0) dX11_turn_23 rfl rfl ?_
  refine gf_X11_87 X gT_c122 dX11_turn_24 ?_
  refine g_iload_n X (j := 2) dX11_turn_27 rfl rfl ?_
  obtain ⟨hg4, h⟩ := grd_e h
  refine g_lald X gT_c154 hg4 dX11_turn_28 ?_
  refine g_aload_n X (j := 0) dX11_turn_29 rfl rfl ?_
  refine gf_X11_87 X gT_c122 dX11_turn_30 ?_
  refine g_iload_n X (j := 1) dX11_turn_33 rfl rfl ?_
  obtain ⟨hg5, h⟩ := grd_e h
  refine g_lald X gT_c154 hg5 dX11_turn_34 ?_
  refine g_lsub X dX11_turn_35 ?_
  refine g_lload_n X (j := 3) dX11_turn_36 rfl rfl ?_
  refine g_aload_n X (j := 0) dX11_turn_37 rfl rfl ?_
  refine gf_X11_83 X gT_c122 dX11_turn_38 ?_
  refine g_iload_n X (j := 1) dX11_turn_41 rfl rfl ?_
  obtain ⟨hg6, h⟩ := grd_e h
  refine g_lald X gT_c153 hg6 dX11_turn_42 ?_
  refine g_lsub X dX11_turn_43 ?_
  refine g_lmul X dX11_turn_44 ?_
  refine g_lsub X dX11_turn_45 ?_
  exact hR ((((gL M 153 i1.toNatClampNeg) - (gL M 153 i0.toNatClampNeg)) * (j3 - (gL M 154 i0.toNatClampNeg))) - (((gL M 154 i1.toNatClampNeg) - (gL M 154 i0.toNatClampNeg)) * (j2 - (gL M 153 i0.toNatClampNeg)))) _ _ (Option.some.inj h).symm dX11_turn_46
theorem ct_X11_turn {l : Launch} {z : GZ} (htr : l.stackTraces = false) {i0 : Int32} {i1 : Int32} {j2 : Int64} {j3 : Int64}  {M : GM} {F : Nat} {v : Int64} (h : f_X11_turn F i0 i1 j2 j3 M = some v) : gMet l z yX11_turn cX11_turn 7 (some .long) 0 [.ref (gad z 122), .int i0, .int i1, .long j2, .long j3] M (some (.long v)) M := gMet_ofL (by decide +kernel) (Nat.le_of_ble_eq_true rfl) htr (fun x X ez el hR => by subst ez; subst el; exact w_X11_turn X  (fun v9 lv9 pc9 e9 d9 => by cases e9; exact hR lv9 pc9 d9) h)
theorem gc_X11_226 {x : GX} {cc : ByteArray} {nL d pc : Nat} {M : GM} {lv : List (Nat × Value)} {st : List Value} (X : GC x cc nL RX11 d) {i0 : Int32} {i1 : Nat} {M1 : GM} (ht : gT 122 = 11) (hM : gMet (xl x) (xz x) yX11_lay cX11_lay 3 none 2 [.ref (gad (xz x) 122), .int i0, .ref (gad (xz x) i1)] M (none) M1) (hd : 3 ≤ d) (hsum : (st.map fun v => v.category).sum ≤ 8) (dec : decode cc pc = .ok (.invokevirtual 226, 3)) (go : WG x M1 lv (pc + 3) (st)) : WG x M lv pc (.ref (gad (xz x) i1) :: .int i0 :: .ref (gad (xz x) 122) :: st) := g_callV X (n := 2) (As := [.int i0, .ref (gad (xz x) i1)]) (rest := st) hM ht (by decide) (gE_11 ht) rfl q_1377 q_1379 q_34 q_63 q_1380 (by decide +kernel) rfl hd (by decide) rfl hsum dec go
theorem gc_X11_229 {x : GX} {cc : ByteArray} {nL d pc : Nat} {M : GM} {lv : List (Nat × Value)} {st : List Value} (X : GC x cc nL RX11 d) {i0 : Int64} {M1 : GM} {r : Int32} (hM : gMet (xl x) (xz x) yX11_isOff cX11_isOff 2 (some .boolean) 0 [.long i0] M (some (.int r)) M1) (hd : 1 ≤ d) (hsum : (st.map fun v => v.category).sum ≤ 8) (dec : decode cc pc = .ok (.invokestatic 229, 3)) (go : WG x M1 lv (pc + 3) (.int r :: st)) : WG x M lv pc (.long i0 :: st) := g_callS X (n := 1) (As := [.long i0]) (rest := st) hM q_1381 q_1382 q_63 q_1383 (by decide +kernel) rfl hd (by decide) rfl hsum dec go
theorem gc_X11_233 {x : GX} {cc : ByteArray} {nL d pc : Nat} {M : GM} {lv : List (Nat × Value)} {st : List Value} (X : GC x cc nL RX11 d) {i0 : Int32} {i1 : Int32} {i2 : Int64} {i3 : Int64} {M1 : GM} {r : Int64} (ht : gT 122 = 11) (hM : gMet (xl x) (xz x) yX11_turn cX11_turn 7 (some .long) 0 [.ref (gad (xz x) 122), .int i0, .int i1, .long i2, .long i3] M (some (.long r)) M1) (hd : 1 ≤ d) (hsum : (st.map fun v => v.category).sum ≤ 8) (dec : decode cc pc = .ok (.invokevirtual 233, 3)) (go : WG x M1 lv (pc + 3) (.long r :: st)) : WG x M lv pc (.long i3 :: .long i2 :: .int i1 :: .int i0 :: .ref (gad (xz x) 122) :: st) := g_callV X (n := 4) (As := [.int i0, .int i1, .long i2, .long i3]) (rest := st) hM ht (by decide) (gE_11 ht) rfl q_1384 q_1386 q_35 q_63 q_1387 (by decide +kernel) rfl hd (by decide) rfl hsum dec go
theorem dX11_layPiece_0 : decode cX11_layPiece 0 = .ok (.iload_n 2, 1) := by decide +kernel
theorem dX11_layPiece_1 : decode cX11_layPiece 1 = .ok (.aload_n 0, 1) := by decide +kernel
theorem dX11_layPiece_2 : decode cX11_layPiece 2 = .ok (.getfield 183, 3) := by decide +kernel
theorem dX11_layPiece_5 : decode cX11_layPiece 5 = .ok (.iconst 3, 1) := by decide +kernel
theorem dX11_layPiece_6 : decode cX11_layPiece 6 = .ok (.isub, 1) := by decide +kernel
theorem dX11_layPiece_7 : decode cX11_layPiece 7 = .ok (.if_icmp .le 5, 3) := by decide +kernel
theorem dX11_layPiece_10 : decode cX11_layPiece 10 = .ok (.iconst 0, 1) := by decide +kernel
theorem dX11_layPiece_11 : decode cX11_layPiece 11 = .ok (.ireturn, 1) := by decide +kernel
theorem dX11_layPiece_12 : decode cX11_layPiece 12 = .ok (.aload_n 0, 1) := by decide +kernel
theorem dX11_layPiece_13 : decode cX11_layPiece 13 = .ok (.iconst 0, 1) := by decide +kernel
theorem dX11_layPiece_14 : decode cX11_layPiece 14 = .ok (.aload_n 0, 1) := by decide +kernel
theorem dX11_layPiece_15 : decode cX11_layPiece 15 = .ok (.getfield 77, 3) := by decide +kernel
theorem dX11_layPiece_18 : decode cX11_layPiece 18 = .ok (.iconst 0, 1) := by decide +kernel
theorem dX11_layPiece_19 : decode cX11_layPiece 19 = .ok (.aaload, 1) := by decide +kernel
theorem dX11_layPiece_20 : decode cX11_layPiece 20 = .ok (.invokevirtual 226, 3) := by decide +kernel
theorem dX11_layPiece_23 : decode cX11_layPiece 23 = .ok (.aload_n 0, 1) := by decide +kernel
theorem dX11_layPiece_24 : decode cX11_layPiece 24 = .ok (.iconst 1, 1) := by decide +kernel
theorem dX11_layPiece_25 : decode cX11_layPiece 25 = .ok (.aload_n 0, 1) := by decide +kernel
theorem dX11_layPiece_26 : decode cX11_layPiece 26 = .ok (.getfield 77, 3) := by decide +kernel
theorem dX11_layPiece_29 : decode cX11_layPiece 29 = .ok (.iload_n 2, 1) := by decide +kernel
theorem dX11_layPiece_30 : decode cX11_layPiece 30 = .ok (.iconst 1, 1) := by decide +kernel
theorem dX11_layPiece_31 : decode cX11_layPiece 31 = .ok (.iadd, 1) := by decide +kernel
theorem dX11_layPiece_32 : decode cX11_layPiece 32 = .ok (.aaload, 1) := by decide +kernel
theorem dX11_layPiece_33 : decode cX11_layPiece 33 = .ok (.invokevirtual 226, 3) := by decide +kernel
theorem dX11_layPiece_36 : decode cX11_layPiece 36 = .ok (.aload_n 0, 1) := by decide +kernel
theorem dX11_layPiece_37 : decode cX11_layPiece 37 = .ok (.iconst 2, 1) := by decide +kernel
theorem dX11_layPiece_38 : decode cX11_layPiece 38 = .ok (.aload_n 0, 1) := by decide +kernel
theorem dX11_layPiece_39 : decode cX11_layPiece 39 = .ok (.getfield 77, 3) := by decide +kernel
theorem dX11_layPiece_42 : decode cX11_layPiece 42 = .ok (.iload_n 2, 1) := by decide +kernel
theorem dX11_layPiece_43 : decode cX11_layPiece 43 = .ok (.iconst 2, 1) := by decide +kernel
theorem dX11_layPiece_44 : decode cX11_layPiece 44 = .ok (.iadd, 1) := by decide +kernel
theorem dX11_layPiece_45 : decode cX11_layPiece 45 = .ok (.aaload, 1) := by decide +kernel
theorem dX11_layPiece_46 : decode cX11_layPiece 46 = .ok (.invokevirtual 226, 3) := by decide +kernel
theorem dX11_layPiece_49 : decode cX11_layPiece 49 = .ok (.iconst 0, 1) := by decide +kernel
theorem dX11_layPiece_50 : decode cX11_layPiece 50 = .ok (.istore_n 3, 1) := by decide +kernel
theorem dX11_layPiece_51 : decode cX11_layPiece 51 = .ok (.iload_n 3, 1) := by decide +kernel
theorem dX11_layPiece_52 : decode cX11_layPiece 52 = .ok (.iconst 3, 1) := by decide +kernel
theorem dX11_layPiece_53 : decode cX11_layPiece 53 = .ok (.if_icmp .ge 35, 3) := by decide +kernel
theorem dX11_layPiece_56 : decode cX11_layPiece 56 = .ok (.aload_n 0, 1) := by decide +kernel
theorem dX11_layPiece_57 : decode cX11_layPiece 57 = .ok (.getfield 83, 3) := by decide +kernel
theorem dX11_layPiece_60 : decode cX11_layPiece 60 = .ok (.iload_n 3, 1) := by decide +kernel
theorem dX11_layPiece_61 : decode cX11_layPiece 61 = .ok (.laload, 1) := by decide +kernel
theorem dX11_layPiece_62 : decode cX11_layPiece 62 = .ok (.invokestatic 229, 3) := by decide +kernel
theorem dX11_layPiece_65 : decode cX11_layPiece 65 = .ok (.ifCond .ne 15, 3) := by decide +kernel
theorem dX11_layPiece_68 : decode cX11_layPiece 68 = .ok (.aload_n 0, 1) := by decide +kernel
theorem dX11_layPiece_69 : decode cX11_layPiece 69 = .ok (.getfield 87, 3) := by decide +kernel
theorem dX11_layPiece_72 : decode cX11_layPiece 72 = .ok (.iload_n 3, 1) := by decide +kernel
theorem dX11_layPiece_73 : decode cX11_layPiece 73 = .ok (.laload, 1) := by decide +kernel
theorem dX11_layPiece_74 : decode cX11_layPiece 74 = .ok (.invokestatic 229, 3) := by decide +kernel
theorem dX11_layPiece_77 : decode cX11_layPiece 77 = .ok (.ifCond .eq 5, 3) := by decide +kernel
theorem dX11_layPiece_80 : decode cX11_layPiece 80 = .ok (.iconst 0, 1) := by decide +kernel
theorem dX11_layPiece_81 : decode cX11_layPiece 81 = .ok (.ireturn, 1) := by decide +kernel
theorem dX11_layPiece_82 : decode cX11_layPiece 82 = .ok (.iinc 3 1, 3) := by decide +kernel
theorem dX11_layPiece_85 : decode cX11_layPiece 85 = .ok (.goto (-34), 3) := by decide +kernel
theorem dX11_layPiece_88 : decode cX11_layPiece 88 = .ok (.aload_n 0, 1) := by decide +kernel
theorem dX11_layPiece_89 : decode cX11_layPiece 89 = .ok (.aload_n 0, 1) := by decide +kernel
theorem dX11_layPiece_90 : decode cX11_layPiece 90 = .ok (.iconst 0, 1) := by decide +kernel
theorem dX11_layPiece_91 : decode cX11_layPiece 91 = .ok (.iconst 1, 1) := by decide +kernel
theorem dX11_layPiece_92 : decode cX11_layPiece 92 = .ok (.aload_n 0, 1) := by decide +kernel
theorem dX11_layPiece_93 : decode cX11_layPiece 93 = .ok (.getfield 83, 3) := by decide +kernel
theorem dX11_layPiece_96 : decode cX11_layPiece 96 = .ok (.iconst 2, 1) := by decide +kernel
theorem dX11_layPiece_97 : decode cX11_layPiece 97 = .ok (.laload, 1) := by decide +kernel
theorem dX11_layPiece_98 : decode cX11_layPiece 98 = .ok (.aload_n 0, 1) := by decide +kernel
theorem dX11_layPiece_99 : decode cX11_layPiece 99 = .ok (.getfield 87, 3) := by decide +kernel
theorem dX11_layPiece_102 : decode cX11_layPiece 102 = .ok (.iconst 2, 1) := by decide +kernel
theorem dX11_layPiece_103 : decode cX11_layPiece 103 = .ok (.laload, 1) := by decide +kernel
theorem dX11_layPiece_104 : decode cX11_layPiece 104 = .ok (.invokevirtual 233, 3) := by decide +kernel
theorem dX11_layPiece_107 : decode cX11_layPiece 107 = .ok (.putfield 237, 3) := by decide +kernel
theorem dX11_layPiece_110 : decode cX11_layPiece 110 = .ok (.aload_n 0, 1) := by decide +kernel
theorem dX11_layPiece_111 : decode cX11_layPiece 111 = .ok (.getfield 237, 3) := by decide +kernel
theorem dX11_layPiece_114 : decode cX11_layPiece 114 = .ok (.lconst 0, 1) := by decide +kernel
theorem dX11_layPiece_115 : decode cX11_layPiece 115 = .ok (.lcmp, 1) := by decide +kernel
theorem dX11_layPiece_116 : decode cX11_layPiece 116 = .ok (.ifCond .lt 18, 3) := by decide +kernel
theorem dX11_layPiece_119 : decode cX11_layPiece 119 = .ok (.aload_n 0, 1) := by decide +kernel
theorem dX11_layPiece_120 : decode cX11_layPiece 120 = .ok (.getfield 237, 3) := by decide +kernel
theorem dX11_layPiece_123 : decode cX11_layPiece 123 = .ok (.lconst 0, 1) := by decide +kernel
theorem dX11_layPiece_124 : decode cX11_layPiece 124 = .ok (.lcmp, 1) := by decide +kernel
theorem dX11_layPiece_125 : decode cX11_layPiece 125 = .ok (.ifCond .le 7, 3) := by decide +kernel
theorem dX11_layPiece_128 : decode cX11_layPiece 128 = .ok (.iconst 1, 1) := by decide +kernel
theorem dX11_layPiece_129 : decode cX11_layPiece 129 = .ok (.goto 4, 3) := by decide +kernel
theorem dX11_layPiece_132 : decode cX11_layPiece 132 = .ok (.iconst 0, 1) := by decide +kernel
theorem dX11_layPiece_133 : decode cX11_layPiece 133 = .ok (.ireturn, 1) := by decide +kernel
theorem dX11_layPiece_134 : decode cX11_layPiece 134 = .ok (.aload_n 0, 1) := by decide +kernel
theorem dX11_layPiece_135 : decode cX11_layPiece 135 = .ok (.iconst 1, 1) := by decide +kernel
theorem dX11_layPiece_136 : decode cX11_layPiece 136 = .ok (.aload_n 0, 1) := by decide +kernel
theorem dX11_layPiece_137 : decode cX11_layPiece 137 = .ok (.getfield 77, 3) := by decide +kernel
theorem dX11_layPiece_140 : decode cX11_layPiece 140 = .ok (.iload_n 2, 1) := by decide +kernel
theorem dX11_layPiece_141 : decode cX11_layPiece 141 = .ok (.iconst 2, 1) := by decide +kernel
theorem dX11_layPiece_142 : decode cX11_layPiece 142 = .ok (.iadd, 1) := by decide +kernel
theorem dX11_layPiece_143 : decode cX11_layPiece 143 = .ok (.aaload, 1) := by decide +kernel
theorem dX11_layPiece_144 : decode cX11_layPiece 144 = .ok (.invokevirtual 226, 3) := by decide +kernel
theorem dX11_layPiece_147 : decode cX11_layPiece 147 = .ok (.aload_n 0, 1) := by decide +kernel
theorem dX11_layPiece_148 : decode cX11_layPiece 148 = .ok (.iconst 2, 1) := by decide +kernel
theorem dX11_layPiece_149 : decode cX11_layPiece 149 = .ok (.aload_n 0, 1) := by decide +kernel
theorem dX11_layPiece_150 : decode cX11_layPiece 150 = .ok (.getfield 77, 3) := by decide +kernel
theorem dX11_layPiece_153 : decode cX11_layPiece 153 = .ok (.iload_n 2, 1) := by decide +kernel
theorem dX11_layPiece_154 : decode cX11_layPiece 154 = .ok (.iconst 1, 1) := by decide +kernel
theorem dX11_layPiece_155 : decode cX11_layPiece 155 = .ok (.iadd, 1) := by decide +kernel
theorem dX11_layPiece_156 : decode cX11_layPiece 156 = .ok (.aaload, 1) := by decide +kernel
theorem dX11_layPiece_157 : decode cX11_layPiece 157 = .ok (.invokevirtual 226, 3) := by decide +kernel
theorem dX11_layPiece_160 : decode cX11_layPiece 160 = .ok (.aload_n 0, 1) := by decide +kernel
theorem dX11_layPiece_161 : decode cX11_layPiece 161 = .ok (.aload_n 0, 1) := by decide +kernel
theorem dX11_layPiece_162 : decode cX11_layPiece 162 = .ok (.getfield 237, 3) := by decide +kernel
theorem dX11_layPiece_165 : decode cX11_layPiece 165 = .ok (.lneg, 1) := by decide +kernel
theorem dX11_layPiece_166 : decode cX11_layPiece 166 = .ok (.putfield 237, 3) := by decide +kernel
theorem dX11_layPiece_169 : decode cX11_layPiece 169 = .ok (.aload_n 0, 1) := by decide +kernel
theorem dX11_layPiece_170 : decode cX11_layPiece 170 = .ok (.getfield 41, 3) := by decide +kernel
theorem dX11_layPiece_173 : decode cX11_layPiece 173 = .ok (.iload_n 1, 1) := by decide +kernel
theorem dX11_layPiece_174 : decode cX11_layPiece 174 = .ok (.baload, 1) := by decide +kernel
theorem dX11_layPiece_175 : decode cX11_layPiece 175 = .ok (.ireturn, 1) := by decide +kernel
def st_X11_layPiece_51 (F : Nat) (a17 : Int32) (a18 : Int32) (rec : Int32 → GM → Option (GM ⊕ (Int32 × GM))) (a19 : Int32) (M : GM) : Option (GM ⊕ (Int32 × GM)) := if (3 : Int32) ≤ a19 then (some (Sum.inl M)) else (grd (gIn a19 (gN 153)) (if (f_X11_isOff (gL M 153 a19.toNatClampNeg)) = 0 then (grd (gIn a19 (gN 154)) (if (f_X11_isOff (gL M 154 a19.toNatClampNeg)) = 0 then (bnd (a19 + (1 : Int32)) (fun v22 => rec v22 M)) else (some (Sum.inr ((0 : Int32), M))))) else (some (Sum.inr ((0 : Int32), M)))))
def lp_X11_layPiece_51 (F : Nat) (a17 : Int32) (a18 : Int32) : Nat → Int32 → GM → Option (GM ⊕ (Int32 × GM))
  | 0 => fun _ _ => none
  | f + 1 => fun a19 M => st_X11_layPiece_51 F a17 a18 (lp_X11_layPiece_51 F a17 a18 f) a19 M
set_option maxHeartbeats 4000000 in
set_option maxRecDepth 100000 in
theorem lw_X11_layPiece_51 {x : GX} (X : GC x cX11_layPiece 4 RX11 3) {a17 : Int32} {a18 : Int32}  {F : Nat} {r9 : (GM ⊕ (Int32 × GM))} (hR : ∀ (v9 : Int32) (M9 : GM) (lv9 : List (Nat × Value)) (pc9 : Nat), r9 = Sum.inr (v9, M9) → (v9 = 0 ∨ v9 = 1) → decode cX11_layPiece pc9 = .ok (.ireturn, 1) → WG x M9 lv9 pc9 [.int v9]) (hE : ∀  (M9 : GM), r9 = Sum.inl M9 → WG x M9 [(0, .ref (gad (xz x) 122)), (1, .int a17), (2, .int a18)] 88 []) : ∀ (f : Nat) (a19 : Int32) (M : GM), lp_X11_layPiece_51 F a17 a18 f a19 M = some r9 → WG x M [(0, .ref (gad (xz x) 122)), (1, .int a17), (2, .int a18), (3, .int a19)] 51 [] := by
  intro f
  induction f with
  | zero => intro a19 M h; cases h
  | succ f ih =>
    intro a19 M h
    have hrec := ih
    have h : st_X11_layPiece_51 F a17 a18 (lp_X11_layPiece_51 F a17 a18 f) a19 M = some r9 := h
    generalize lp_X11_layPiece_51 F a17 a18 f = rec at h hrec
    unfold st_X11_layPiece_51 at h
    refine g_iload_n X (j := 3) dX11_layPiece_51 rfl rfl ?_
    refine g_iconst X (v := 3) dX11_layPiece_52 (by decide) ?_
    refine g_icmp_ge X (tgt := 88) dX11_layPiece_53 (by decide) (fun hb => ?_) (fun hb => ?_)
    · have h := ite_t hb h
      refine g_lv [0, 1, 2] rfl ?_
      exact hE M (Option.some.inj h).symm
    · have h := ite_f hb h
      refine g_aload_n X (j := 0) dX11_layPiece_56 rfl rfl ?_
      refine gf_X11_83 X gT_c122 dX11_layPiece_57 ?_
      refine g_iload_n X (j := 3) dX11_layPiece_60 rfl rfl ?_
      obtain ⟨hg20, h⟩ := grd_e h
      refine g_lald X gT_c153 hg20 dX11_layPiece_61 ?_
      refine gc_X11_229 X (ct_X11_isOff X.htr ) (by decide) (Nat.le_of_ble_eq_true rfl) dX11_layPiece_62 ?_
      refine g_if_ne X (tgt := 80) dX11_layPiece_65 (by decide) (fun hb => ?_) (fun hb => ?_)
      · have h := ite_f hb h
        refine g_iconst X (v := 0) dX11_layPiece_80 (by decide) ?_
        exact hR (0 : Int32) M _ _ (Option.some.inj h).symm (Or.inl rfl) dX11_layPiece_81
      · have h := ite_t hb h
        refine g_aload_n X (j := 0) dX11_layPiece_68 rfl rfl ?_
        refine gf_X11_87 X gT_c122 dX11_layPiece_69 ?_
        refine g_iload_n X (j := 3) dX11_layPiece_72 rfl rfl ?_
        obtain ⟨hg21, h⟩ := grd_e h
        refine g_lald X gT_c154 hg21 dX11_layPiece_73 ?_
        refine gc_X11_229 X (ct_X11_isOff X.htr ) (by decide) (Nat.le_of_ble_eq_true rfl) dX11_layPiece_74 ?_
        refine g_if_eq X (tgt := 82) dX11_layPiece_77 (by decide) (fun hb => ?_) (fun hb => ?_)
        · have h := ite_t hb h
          refine g_iinc X (j := 3) (w := a19 + (1 : Int32)) (lv' := [(0, .ref (gad (xz x) 122)), (1, .int a17), (2, .int a18)]) dX11_layPiece_82 rfl (by rw [ii_1]) (by decide) (fun _ => rfl) (fun v22 e23 => ?_)
          have h := bnd_e e23 h
          refine g_goto X (tgt := 51) dX11_layPiece_85 (by decide) ?_
          refine g_lv [1, 2, 3, 0] rfl ?_
          exact hrec v22 M h
        · have h := ite_f hb h
          refine g_iconst X (v := 0) dX11_layPiece_80 (by decide) ?_
          exact hR (0 : Int32) M _ _ (Option.some.inj h).symm (Or.inl rfl) dX11_layPiece_81
def f_X11_layPiece (F : Nat) (i0 : Int32) (i1 : Int32) (M : GM) : Option (Int32 × GM) := if i1 ≤ ((gI M 122 27) - (3 : Int32)) then (bndO (f_X11_lay F (0 : Int32) 145 M) (fun M2 => grd (gIn (i1 + (1 : Int32)) (gN 144)) (bnd (gR 144 (i1 + (1 : Int32)).toNatClampNeg) (fun o4 => bndO (f_X11_lay F (1 : Int32) o4 M2) (fun M8 => grd (gIn (i1 + (2 : Int32)) (gN 144)) (bnd (gR 144 (i1 + (2 : Int32)).toNatClampNeg) (fun o10 => bndO (f_X11_lay F (2 : Int32) o10 M8) (fun M14 => bnd (0 : Int32) (fun v15 => bndT (lp_X11_layPiece_51 F i0 i1 F v15 M14) (fun M24 => bndO (f_X11_turn F (0 : Int32) (1 : Int32) (gL M24 153 2) (gL M24 154 2) M24) (fun w28 => bnd (sL M24 122 33 w28) (fun M29 => if (lg_cmp (gL M29 122 33) (0 : Int64)) < 0 then (grd (gIn (i1 + (2 : Int32)) (gN 144)) (bnd (gR 144 (i1 + (2 : Int32)).toNatClampNeg) (fun o32 => bndO (f_X11_lay F (1 : Int32) o32 M29) (fun M36 => grd (gIn (i1 + (1 : Int32)) (gN 144)) (bnd (gR 144 (i1 + (1 : Int32)).toNatClampNeg) (fun o38 => bndO (f_X11_lay F (2 : Int32) o38 M36) (fun M42 => bnd (sL M42 122 33 (-(gL M42 122 33))) (fun M43 => grd (gIn i0 (gN 133)) (grd (gTf (gI M43 133 i0.toNatClampNeg)) (some ((gI M43 133 i0.toNatClampNeg), M43))))))))))) else (if (lg_cmp (gL M29 122 33) (0 : Int64)) ≤ 0 then (some ((0 : Int32), M29)) else (some ((1 : Int32), M29)))))) (fun r26 => some r26)))))))))) else (some ((0 : Int32), M))
set_option maxHeartbeats 4000000 in
set_option maxRecDepth 100000 in
theorem w_X11_layPiece {x : GX} (X : GC x cX11_layPiece 4 RX11 3) {i0 : Int32} {i1 : Int32}  {F : Nat} {M : GM} {r9 : (Int32 × GM)} (hR : ∀ (v9 : Int32) (M9 : GM) (lv9 : List (Nat × Value)) (pc9 : Nat), r9 = (v9, M9) → (v9 = 0 ∨ v9 = 1) → decode cX11_layPiece pc9 = .ok (.ireturn, 1) → WG x M9 lv9 pc9 [.int v9]) (h : f_X11_layPiece F i0 i1 M = some r9) : WG x M [(0, .ref (gad (xz x) 122)), (1, .int i0), (2, .int i1)] 0 [] := by
  unfold f_X11_layPiece at h
  refine g_iload_n X (j := 2) dX11_layPiece_0 rfl rfl ?_
  refine g_aload_n X (j := 0) dX11_layPiece_1 rfl rfl ?_
  refine gf_X11_183 X gT_c122 dX11_layPiece_2 ?_
  refine g_iconst X (v := 3) dX11_layPiece_5 (by decide) ?_
  refine g_isub X dX11_layPiece_6 ?_
  refine g_icmp_le X (tgt := 12) dX11_layPiece_7 (by decide) (fun hb => ?_) (fun hb => ?_)
  · have h := ite_t hb h
    refine g_aload_n X (j := 0) dX11_layPiece_12 rfl rfl ?_
    refine g_iconst X (v := 0) dX11_layPiece_13 (by decide) ?_
    refine g_aload_n X (j := 0) dX11_layPiece_14 rfl rfl ?_
    refine gf_X11_77 X gT_c122 dX11_layPiece_15 ?_
    refine g_iconst X (v := 0) dX11_layPiece_18 (by decide) ?_
    refine g_aald_28 X gT_c144 (by decide +kernel) dX11_layPiece_19 ?_
    rw [show gR 144 (Int32.toNatClampNeg 0) = 145 by decide +kernel]
    obtain ⟨M2, hc1, h⟩ := bndO_e h
    refine gc_X11_226 X gT_c122 (ct_X11_lay X.htr gT_c145 hc1) (by decide) (Nat.le_of_ble_eq_true rfl) dX11_layPiece_20 ?_
    refine g_aload_n X (j := 0) dX11_layPiece_23 rfl rfl ?_
    refine g_iconst X (v := 1) dX11_layPiece_24 (by decide) ?_
    refine g_aload_n X (j := 0) dX11_layPiece_25 rfl rfl ?_
    refine gf_X11_77 X gT_c122 dX11_layPiece_26 ?_
    refine g_iload_n X (j := 2) dX11_layPiece_29 rfl rfl ?_
    refine g_iconst X (v := 1) dX11_layPiece_30 (by decide) ?_
    refine g_iadd X dX11_layPiece_31 ?_
    obtain ⟨hg3, h⟩ := grd_e h
    refine g_aald_28 X gT_c144 hg3 dX11_layPiece_32 ?_
    refine g_topr (fun o4 e5 => ?_)
    have h := bnd_e e5 h
    have k6 : gT o4 = 20 := by rw [e5]; exact gR_28 gT_c144 (gIn_lt hg3)
    obtain ⟨M8, hc7, h⟩ := bndO_e h
    refine gc_X11_226 X gT_c122 (ct_X11_lay X.htr k6 hc7) (by decide) (Nat.le_of_ble_eq_true rfl) dX11_layPiece_33 ?_
    refine g_aload_n X (j := 0) dX11_layPiece_36 rfl rfl ?_
    refine g_iconst X (v := 2) dX11_layPiece_37 (by decide) ?_
    refine g_aload_n X (j := 0) dX11_layPiece_38 rfl rfl ?_
    refine gf_X11_77 X gT_c122 dX11_layPiece_39 ?_
    refine g_iload_n X (j := 2) dX11_layPiece_42 rfl rfl ?_
    refine g_iconst X (v := 2) dX11_layPiece_43 (by decide) ?_
    refine g_iadd X dX11_layPiece_44 ?_
    obtain ⟨hg9, h⟩ := grd_e h
    refine g_aald_28 X gT_c144 hg9 dX11_layPiece_45 ?_
    refine g_topr (fun o10 e11 => ?_)
    have h := bnd_e e11 h
    have k12 : gT o10 = 20 := by rw [e11]; exact gR_28 gT_c144 (gIn_lt hg9)
    obtain ⟨M14, hc13, h⟩ := bndO_e h
    refine gc_X11_226 X gT_c122 (ct_X11_lay X.htr k12 hc13) (by decide) (Nat.le_of_ble_eq_true rfl) dX11_layPiece_46 ?_
    refine g_iconst X (v := 0) dX11_layPiece_49 (by decide) ?_
    refine g_topi (fun v15 e16 => ?_)
    have h := bnd_e e16 h
    refine g_istore_n X (lv' := [(3, .int v15), (0, .ref (gad (xz x) 122)), (1, .int i0), (2, .int i1)]) dX11_layPiece_50 rfl (by decide) rfl ?_
    refine g_lv [1, 2, 3, 0] rfl ?_
    rcases bndT_e h with ⟨M24, hl25, h⟩ | ⟨r26, hl25, h⟩
    · refine lw_X11_layPiece_51 X  (by intros; rename_i e9 _ _; cases e9) (fun M24_  e9 => ?_) F v15 M14 hl25
      cases e9
      refine g_aload_n X (j := 0) dX11_layPiece_88 rfl rfl ?_
      refine g_aload_n X (j := 0) dX11_layPiece_89 rfl rfl ?_
      refine g_iconst X (v := 0) dX11_layPiece_90 (by decide) ?_
      refine g_iconst X (v := 1) dX11_layPiece_91 (by decide) ?_
      refine g_aload_n X (j := 0) dX11_layPiece_92 rfl rfl ?_
      refine gf_X11_83 X gT_c122 dX11_layPiece_93 ?_
      refine g_iconst X (v := 2) dX11_layPiece_96 (by decide) ?_
      refine g_lald X gT_c153 (by decide +kernel) dX11_layPiece_97 ?_
      rw [tn_2]
      refine g_aload_n X (j := 0) dX11_layPiece_98 rfl rfl ?_
      refine gf_X11_87 X gT_c122 dX11_layPiece_99 ?_
      refine g_iconst X (v := 2) dX11_layPiece_102 (by decide) ?_
      refine g_lald X gT_c154 (by decide +kernel) dX11_layPiece_103 ?_
      rw [tn_2]
      obtain ⟨w28, hc27, h⟩ := bndO_e h
      refine gc_X11_233 X gT_c122 (ct_X11_turn X.htr  hc27) (by decide) (Nat.le_of_ble_eq_true rfl) dX11_layPiece_104 ?_
      refine gp_X11_237 X gT_c122 dX11_layPiece_107 ?_
      refine g_mem (fun M29 e30 => ?_)
      have h := bnd_e e30 h
      refine g_aload_n X (j := 0) dX11_layPiece_110 rfl rfl ?_
      refine gf_X11_237 X gT_c122 dX11_layPiece_111 ?_
      refine g_lconst X (v := 0) dX11_layPiece_114 (by decide) ?_
      refine g_lcmp X dX11_layPiece_115 ?_
      refine g_if_lt X (tgt := 134) dX11_layPiece_116 (by decide) (fun hb => ?_) (fun hb => ?_)
      · have h := ite_t hb h
        refine g_aload_n X (j := 0) dX11_layPiece_134 rfl rfl ?_
        refine g_iconst X (v := 1) dX11_layPiece_135 (by decide) ?_
        refine g_aload_n X (j := 0) dX11_layPiece_136 rfl rfl ?_
        refine gf_X11_77 X gT_c122 dX11_layPiece_137 ?_
        refine g_iload_n X (j := 2) dX11_layPiece_140 rfl rfl ?_
        refine g_iconst X (v := 2) dX11_layPiece_141 (by decide) ?_
        refine g_iadd X dX11_layPiece_142 ?_
        obtain ⟨hg31, h⟩ := grd_e h
        refine g_aald_28 X gT_c144 hg31 dX11_layPiece_143 ?_
        refine g_topr (fun o32 e33 => ?_)
        have h := bnd_e e33 h
        have k34 : gT o32 = 20 := by rw [e33]; exact gR_28 gT_c144 (gIn_lt hg31)
        obtain ⟨M36, hc35, h⟩ := bndO_e h
        refine gc_X11_226 X gT_c122 (ct_X11_lay X.htr k34 hc35) (by decide) (Nat.le_of_ble_eq_true rfl) dX11_layPiece_144 ?_
        refine g_aload_n X (j := 0) dX11_layPiece_147 rfl rfl ?_
        refine g_iconst X (v := 2) dX11_layPiece_148 (by decide) ?_
        refine g_aload_n X (j := 0) dX11_layPiece_149 rfl rfl ?_
        refine gf_X11_77 X gT_c122 dX11_layPiece_150 ?_
        refine g_iload_n X (j := 2) dX11_layPiece_153 rfl rfl ?_
        refine g_iconst X (v := 1) dX11_layPiece_154 (by decide) ?_
        refine g_iadd X dX11_layPiece_155 ?_
        obtain ⟨hg37, h⟩ := grd_e h
        refine g_aald_28 X gT_c144 hg37 dX11_layPiece_156 ?_
        refine g_topr (fun o38 e39 => ?_)
        have h := bnd_e e39 h
        have k40 : gT o38 = 20 := by rw [e39]; exact gR_28 gT_c144 (gIn_lt hg37)
        obtain ⟨M42, hc41, h⟩ := bndO_e h
        refine gc_X11_226 X gT_c122 (ct_X11_lay X.htr k40 hc41) (by decide) (Nat.le_of_ble_eq_true rfl) dX11_layPiece_157 ?_
        refine g_aload_n X (j := 0) dX11_layPiece_160 rfl rfl ?_
        refine g_aload_n X (j := 0) dX11_layPiece_161 rfl rfl ?_
        refine gf_X11_237 X gT_c122 dX11_layPiece_162 ?_
        refine g_lneg X dX11_layPiece_165 ?_
        refine gp_X11_237 X gT_c122 dX11_layPiece_166 ?_
        refine g_mem (fun M43 e44 => ?_)
        have h := bnd_e e44 h
        refine g_aload_n X (j := 0) dX11_layPiece_169 rfl rfl ?_
        refine gf_X11_41 X gT_c122 dX11_layPiece_170 ?_
        refine g_iload_n X (j := 1) dX11_layPiece_173 rfl rfl ?_
        obtain ⟨hg45, h⟩ := grd_e h
        refine g_zald X gT_c133 hg45 dX11_layPiece_174 ?_
        obtain ⟨hg46, h⟩ := grd_e h
        exact hR (gI M43 133 i0.toNatClampNeg) M43 _ _ (Option.some.inj h).symm (gTf_of hg46) dX11_layPiece_175
      · have h := ite_f hb h
        refine g_aload_n X (j := 0) dX11_layPiece_119 rfl rfl ?_
        refine gf_X11_237 X gT_c122 dX11_layPiece_120 ?_
        refine g_lconst X (v := 0) dX11_layPiece_123 (by decide) ?_
        refine g_lcmp X dX11_layPiece_124 ?_
        refine g_if_le X (tgt := 132) dX11_layPiece_125 (by decide) (fun hb => ?_) (fun hb => ?_)
        · have h := ite_t hb h
          refine g_iconst X (v := 0) dX11_layPiece_132 (by decide) ?_
          exact hR (0 : Int32) M29 _ _ (Option.some.inj h).symm (Or.inl rfl) dX11_layPiece_133
        · have h := ite_f hb h
          refine g_iconst X (v := 1) dX11_layPiece_128 (by decide) ?_
          refine g_goto X (tgt := 133) dX11_layPiece_129 (by decide) ?_
          exact hR (1 : Int32) M29 _ _ (Option.some.inj h).symm (Or.inr rfl) dX11_layPiece_133
    · exact lw_X11_layPiece_51 X  (fun v9 M9 lv9 pc9 e9 z9 d9 => by cases e9; exact hR _ _ lv9 pc9 (Option.some.inj h).symm z9 d9) (by intros; rename_i e9; cases e9) F v15 M14 hl25
  · have h := ite_f hb h
    refine g_iconst X (v := 0) dX11_layPiece_10 (by decide) ?_
    exact hR (0 : Int32) M _ _ (Option.some.inj h).symm (Or.inl rfl) dX11_layPiece_11
theorem ct_X11_layPiece {l : Launch} {z : GZ} (htr : l.stackTraces = false) {i0 : Int32} {i1 : Int32}  {M : GM} {F : Nat} {v : Int32} {M1 : GM} (h : f_X11_layPiece F i0 i1 M = some (v, M1)) : gMet l z yX11_layPiece cX11_layPiece 4 (some .boolean) 3 [.ref (gad z 122), .int i0, .int i1] M (some (.int v)) M1 := gMet_ofZ (by decide +kernel) (Nat.le_of_ble_eq_true rfl) htr (fun x X ez el hR => by subst ez; subst el; exact w_X11_layPiece X  (fun v9 M9 lv9 pc9 e9 z9 d9 => by cases e9; exact hR lv9 pc9 z9 d9) h)
