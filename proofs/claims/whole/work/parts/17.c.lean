/-! 17.c -/
theorem gc_X10_469 {x : GX} {cc : ByteArray} {nL d pc : Nat} {M : GM} {lv : List (Nat × Value)} {st : List Value} (X : GC x cc nL RX10 d) {i0 : Nat} {i1 : Nat} {i2 : Int32} {i3 : Nat} {M1 : GM} {r : Int32} (ht : gT 0 = 10) (hM : gMet (xl x) (xz x) yX10_drawPiece cX10_drawPiece 12 (some .boolean) 4 [.ref (gad (xz x) 0), .ref (gad (xz x) i0), .ref (gad (xz x) i1), .int i2, .ref (gad (xz x) i3)] M (some (.int r)) M1) (hd : 5 ≤ d) (hsum : (st.map fun v => v.category).sum ≤ 8) (dec : decode cc pc = .ok (.invokevirtual 469, 3)) (go : WG x M1 lv (pc + 3) (.int r :: st)) : WG x M lv pc (.ref (gad (xz x) i3) :: .int i2 :: .ref (gad (xz x) i1) :: .ref (gad (xz x) i0) :: .ref (gad (xz x) 0) :: st) := g_callV X (n := 4) (As := [.ref (gad (xz x) i0), .ref (gad (xz x) i1), .int i2, .ref (gad (xz x) i3)]) (rest := st) hM ht (by decide) (gE_10 ht) rfl q_544 q_546 q_3 q_52 q_547 (by decide +kernel) rfl hd (by decide) rfl hsum dec go
theorem dX10_drawPane_0 : decode cX10_drawPane 0 = .ok (.aload_n 0, 1) := by decide +kernel
theorem dX10_drawPane_1 : decode cX10_drawPane 1 = .ok (.iload_n 3, 1) := by decide +kernel
theorem dX10_drawPane_2 : decode cX10_drawPane 2 = .ok (.invokevirtual 199, 3) := by decide +kernel
theorem dX10_drawPane_5 : decode cX10_drawPane 5 = .ok (.iconst 0, 1) := by decide +kernel
theorem dX10_drawPane_6 : decode cX10_drawPane 6 = .ok (.istore 4, 2) := by decide +kernel
theorem dX10_drawPane_8 : decode cX10_drawPane 8 = .ok (.aload_n 0, 1) := by decide +kernel
theorem dX10_drawPane_9 : decode cX10_drawPane 9 = .ok (.getfield 37, 3) := by decide +kernel
theorem dX10_drawPane_12 : decode cX10_drawPane 12 = .ok (.getfield 258, 3) := by decide +kernel
theorem dX10_drawPane_15 : decode cX10_drawPane 15 = .ok (.astore 5, 2) := by decide +kernel
theorem dX10_drawPane_17 : decode cX10_drawPane 17 = .ok (.aload 5, 2) := by decide +kernel
theorem dX10_drawPane_19 : decode cX10_drawPane 19 = .ok (.arraylength, 1) := by decide +kernel
theorem dX10_drawPane_20 : decode cX10_drawPane 20 = .ok (.istore 6, 2) := by decide +kernel
theorem dX10_drawPane_22 : decode cX10_drawPane 22 = .ok (.iconst 0, 1) := by decide +kernel
theorem dX10_drawPane_23 : decode cX10_drawPane 23 = .ok (.istore 7, 2) := by decide +kernel
theorem dX10_drawPane_25 : decode cX10_drawPane 25 = .ok (.iload 7, 2) := by decide +kernel
theorem dX10_drawPane_27 : decode cX10_drawPane 27 = .ok (.iload 6, 2) := by decide +kernel
theorem dX10_drawPane_29 : decode cX10_drawPane 29 = .ok (.if_icmp .ge 39, 3) := by decide +kernel
theorem dX10_drawPane_32 : decode cX10_drawPane 32 = .ok (.aload 5, 2) := by decide +kernel
theorem dX10_drawPane_34 : decode cX10_drawPane 34 = .ok (.iload 7, 2) := by decide +kernel
theorem dX10_drawPane_36 : decode cX10_drawPane 36 = .ok (.aaload, 1) := by decide +kernel
theorem dX10_drawPane_37 : decode cX10_drawPane 37 = .ok (.astore 8, 2) := by decide +kernel
theorem dX10_drawPane_39 : decode cX10_drawPane 39 = .ok (.aload 8, 2) := by decide +kernel
theorem dX10_drawPane_41 : decode cX10_drawPane 41 = .ok (.getfield 262, 3) := by decide +kernel
theorem dX10_drawPane_44 : decode cX10_drawPane 44 = .ok (.ifCond .eq 18, 3) := by decide +kernel
theorem dX10_drawPane_47 : decode cX10_drawPane 47 = .ok (.aload_n 0, 1) := by decide +kernel
theorem dX10_drawPane_48 : decode cX10_drawPane 48 = .ok (.aload_n 1, 1) := by decide +kernel
theorem dX10_drawPane_49 : decode cX10_drawPane 49 = .ok (.aload_n 2, 1) := by decide +kernel
theorem dX10_drawPane_50 : decode cX10_drawPane 50 = .ok (.iload_n 3, 1) := by decide +kernel
theorem dX10_drawPane_51 : decode cX10_drawPane 51 = .ok (.aload 8, 2) := by decide +kernel
theorem dX10_drawPane_53 : decode cX10_drawPane 53 = .ok (.invokevirtual 469, 3) := by decide +kernel
theorem dX10_drawPane_56 : decode cX10_drawPane 56 = .ok (.ifCond .eq 6, 3) := by decide +kernel
theorem dX10_drawPane_59 : decode cX10_drawPane 59 = .ok (.iconst 1, 1) := by decide +kernel
theorem dX10_drawPane_60 : decode cX10_drawPane 60 = .ok (.istore 4, 2) := by decide +kernel
theorem dX10_drawPane_62 : decode cX10_drawPane 62 = .ok (.iinc 7 1, 3) := by decide +kernel
theorem dX10_drawPane_65 : decode cX10_drawPane 65 = .ok (.goto (-40), 3) := by decide +kernel
theorem dX10_drawPane_68 : decode cX10_drawPane 68 = .ok (.iload 4, 2) := by decide +kernel
theorem dX10_drawPane_70 : decode cX10_drawPane 70 = .ok (.ireturn, 1) := by decide +kernel
def st_X10_drawPane_25 (F : Nat) (p9 : Nat) (p11 : Nat) (a13 : Int32) (a15 : Int32) (rec : Int32 → Int32 → GM → Option (Int32 × GM)) (a14 : Int32) (a16 : Int32) (M : GM) : Option (Int32 × GM) := if a15 ≤ a16 then (some (a14, M)) else (grd (gIn a16 (gN 16)) (bnd (gR 16 a16.toNatClampNeg) (fun o18 => if (gI M o18 5) = 0 then (bnd (a16 + (1 : Int32)) (fun v21 => rec a14 v21 M)) else (bndO (f_X10_drawPiece F p9 p11 a13 o18 M) (fun (v24, M25) => if v24 = 0 then (bnd (a16 + (1 : Int32)) (fun v26 => rec a14 v26 M25)) else (bnd (1 : Int32) (fun v28 => bnd (a16 + (1 : Int32)) (fun v30 => rec v28 v30 M25))))))))
def lp_X10_drawPane_25 (F : Nat) (p9 : Nat) (p11 : Nat) (a13 : Int32) (a15 : Int32) : Nat → Int32 → Int32 → GM → Option (Int32 × GM)
  | 0 => fun _ _ _ => none
  | f + 1 => fun a14 a16 M => st_X10_drawPane_25 F p9 p11 a13 a15 (lp_X10_drawPane_25 F p9 p11 a13 a15 f) a14 a16 M
set_option maxHeartbeats 4000000 in
set_option maxRecDepth 100000 in
theorem lw_X10_drawPane_25 {x : GX} (X : GC x cX10_drawPane 9 RX10 5) {p9 : Nat} {p11 : Nat} {a13 : Int32} {a15 : Int32} (k10 : gT p9 = 7) (k12 : gT p11 = 0) {F : Nat} {r9 : (Int32 × GM)} (hE : ∀ (x4_9 : Int32) (M9 : GM), r9 = (x4_9, M9) → WG x M9 [(4, .int x4_9)] 68 []) : ∀ (f : Nat) (a14 : Int32) (a16 : Int32) (M : GM), lp_X10_drawPane_25 F p9 p11 a13 a15 f a14 a16 M = some r9 → WG x M [(0, .ref (gad (xz x) 0)), (1, .ref (gad (xz x) p9)), (2, .ref (gad (xz x) p11)), (3, .int a13), (4, .int a14), (5, .ref (gad (xz x) 16)), (6, .int a15), (7, .int a16)] 25 [] := by
  intro f
  induction f with
  | zero => intro a14 a16 M h; cases h
  | succ f ih =>
    intro a14 a16 M h
    have hrec := ih
    have h : st_X10_drawPane_25 F p9 p11 a13 a15 (lp_X10_drawPane_25 F p9 p11 a13 a15 f) a14 a16 M = some r9 := h
    generalize lp_X10_drawPane_25 F p9 p11 a13 a15 f = rec at h hrec
    unfold st_X10_drawPane_25 at h
    refine g_iload X (j := 7) dX10_drawPane_25 rfl ?_
    refine g_iload X (j := 6) dX10_drawPane_27 rfl ?_
    refine g_icmp_ge X (tgt := 68) dX10_drawPane_29 (by decide) (fun hb => ?_) (fun hb => ?_)
    · have h := ite_t hb h
      refine g_lv [4] rfl ?_
      exact hE a14 M (Option.some.inj h).symm
    · have h := ite_f hb h
      refine g_aload X (j := 5) dX10_drawPane_32 rfl ?_
      refine g_iload X (j := 7) dX10_drawPane_34 rfl ?_
      obtain ⟨hg17, h⟩ := grd_e h
      refine g_aald_27 X gT_c16 hg17 dX10_drawPane_36 ?_
      refine g_topr (fun o18 e19 => ?_)
      have h := bnd_e e19 h
      have k20 : gT o18 = 6 := by rw [e19]; exact gR_27 gT_c16 (gIn_lt hg17)
      refine g_astore X (lv' := [(8, .ref (gad (xz x) o18)), (0, .ref (gad (xz x) 0)), (1, .ref (gad (xz x) p9)), (2, .ref (gad (xz x) p11)), (3, .int a13), (4, .int a14), (5, .ref (gad (xz x) 16)), (6, .int a15), (7, .int a16)]) dX10_drawPane_37 (by decide) rfl ?_
      refine g_aload X (j := 0) dX10_drawPane_39 rfl ?_
      refine gf_X10_262 X k20 dX10_drawPane_41 ?_
      refine g_if_eq X (tgt := 62) dX10_drawPane_44 (by decide) (fun hb => ?_) (fun hb => ?_)
      · have h := ite_t hb h
        refine g_iinc X (j := 8) (w := a16 + (1 : Int32)) (lv' := [(8, .ref (gad (xz x) o18)), (0, .ref (gad (xz x) 0)), (1, .ref (gad (xz x) p9)), (2, .ref (gad (xz x) p11)), (3, .int a13), (4, .int a14), (5, .ref (gad (xz x) 16)), (6, .int a15)]) dX10_drawPane_62 rfl (by rw [ii_1]) (by decide) (fun _ => rfl) (fun v21 e22 => ?_)
        have h := bnd_e e22 h
        refine g_goto X (tgt := 25) dX10_drawPane_65 (by decide) ?_
        refine g_lv [2, 3, 4, 5, 6, 7, 8, 0] rfl ?_
        exact hrec a14 v21 M h
      · have h := ite_f hb h
        refine g_aload_n X (j := 1) dX10_drawPane_47 rfl rfl ?_
        refine g_aload_n X (j := 2) dX10_drawPane_48 rfl rfl ?_
        refine g_aload_n X (j := 3) dX10_drawPane_49 rfl rfl ?_
        refine g_iload_n X (j := 4) dX10_drawPane_50 rfl rfl ?_
        refine g_aload X (j := 0) dX10_drawPane_51 rfl ?_
        obtain ⟨⟨v24, M25⟩, hc23, h⟩ := bndO_e h
        refine gc_X10_469 X gT_c0 (ct_X10_drawPiece X.htr k10 k12 k20 hc23) (by decide) (Nat.le_of_ble_eq_true rfl) dX10_drawPane_53 ?_
        refine g_if_eq X (tgt := 62) dX10_drawPane_56 (by decide) (fun hb => ?_) (fun hb => ?_)
        · have h := ite_t hb h
          refine g_iinc X (j := 8) (w := a16 + (1 : Int32)) (lv' := [(8, .ref (gad (xz x) o18)), (0, .ref (gad (xz x) 0)), (1, .ref (gad (xz x) p9)), (2, .ref (gad (xz x) p11)), (3, .int a13), (4, .int a14), (5, .ref (gad (xz x) 16)), (6, .int a15)]) dX10_drawPane_62 rfl (by rw [ii_1]) (by decide) (fun _ => rfl) (fun v26 e27 => ?_)
          have h := bnd_e e27 h
          refine g_goto X (tgt := 25) dX10_drawPane_65 (by decide) ?_
          refine g_lv [2, 3, 4, 5, 6, 7, 8, 0] rfl ?_
          exact hrec a14 v26 M25 h
        · have h := ite_f hb h
          refine g_iconst X (v := 1) dX10_drawPane_59 (by decide) ?_
          refine g_topi (fun v28 e29 => ?_)
          have h := bnd_e e29 h
          refine g_istore X (lv' := [(4, .int v28), (8, .ref (gad (xz x) o18)), (0, .ref (gad (xz x) 0)), (1, .ref (gad (xz x) p9)), (2, .ref (gad (xz x) p11)), (3, .int a13), (5, .ref (gad (xz x) 16)), (6, .int a15), (7, .int a16)]) dX10_drawPane_60 (by decide) rfl ?_
          refine g_iinc X (j := 8) (w := a16 + (1 : Int32)) (lv' := [(4, .int v28), (8, .ref (gad (xz x) o18)), (0, .ref (gad (xz x) 0)), (1, .ref (gad (xz x) p9)), (2, .ref (gad (xz x) p11)), (3, .int a13), (5, .ref (gad (xz x) 16)), (6, .int a15)]) dX10_drawPane_62 rfl (by rw [ii_1]) (by decide) (fun _ => rfl) (fun v30 e31 => ?_)
          have h := bnd_e e31 h
          refine g_goto X (tgt := 25) dX10_drawPane_65 (by decide) ?_
          refine g_lv [3, 4, 5, 6, 1, 7, 8, 0] rfl ?_
          exact hrec v28 v30 M25 h
def f_X10_drawPane (F : Nat) (p0 : Nat) (p1 : Nat) (i2 : Int32) (M : GM) : Option (Int32 × GM) := bndO (f_X10_formShape F i2 M) (fun M2 => bnd (0 : Int32) (fun v3 => bnd (2 : Int32) (fun v5 => bnd (0 : Int32) (fun v7 => bndO (lp_X10_drawPane_25 F p0 p1 i2 v5 F v3 v7 M2) (fun (v32, M33) => grd (gTf v32) (some (v32, M33)))))))
set_option maxHeartbeats 4000000 in
set_option maxRecDepth 100000 in
theorem w_X10_drawPane {x : GX} (X : GC x cX10_drawPane 9 RX10 5) {p0 : Nat} {p1 : Nat} {i2 : Int32} (h1 : gT p0 = 7) (h2 : gT p1 = 0) {F : Nat} {M : GM} {r9 : (Int32 × GM)} (hR : ∀ (v9 : Int32) (M9 : GM) (lv9 : List (Nat × Value)) (pc9 : Nat), r9 = (v9, M9) → (v9 = 0 ∨ v9 = 1) → decode cX10_drawPane pc9 = .ok (.ireturn, 1) → WG x M9 lv9 pc9 [.int v9]) (h : f_X10_drawPane F p0 p1 i2 M = some r9) : WG x M [(0, .ref (gad (xz x) 0)), (1, .ref (gad (xz x) p0)), (2, .ref (gad (xz x) p1)), (3, .int i2)] 0 [] := by
  unfold f_X10_drawPane at h
  refine g_aload_n X (j := 0) dX10_drawPane_0 rfl rfl ?_
  refine g_iload_n X (j := 3) dX10_drawPane_1 rfl rfl ?_
  obtain ⟨M2, hc1, h⟩ := bndO_e h
  refine gc_X10_199 X gT_c0 (ct_X10_formShape X.htr  hc1) (by decide) (Nat.le_of_ble_eq_true rfl) dX10_drawPane_2 ?_
  refine g_iconst X (v := 0) dX10_drawPane_5 (by decide) ?_
  refine g_topi (fun v3 e4 => ?_)
  have h := bnd_e e4 h
  refine g_istore X (lv' := [(4, .int v3), (0, .ref (gad (xz x) 0)), (1, .ref (gad (xz x) p0)), (2, .ref (gad (xz x) p1)), (3, .int i2)]) dX10_drawPane_6 (by decide) rfl ?_
  refine g_aload_n X (j := 1) dX10_drawPane_8 rfl rfl ?_
  refine gf_X10_37 X gT_c0 dX10_drawPane_9 ?_
  refine gf_X10_258 X gT_c6 dX10_drawPane_12 ?_
  refine g_astore X (lv' := [(5, .ref (gad (xz x) 16)), (4, .int v3), (0, .ref (gad (xz x) 0)), (1, .ref (gad (xz x) p0)), (2, .ref (gad (xz x) p1)), (3, .int i2)]) dX10_drawPane_15 (by decide) rfl ?_
  refine g_aload X (j := 0) dX10_drawPane_17 rfl ?_
  refine g_alen_27 X gT_c16 dX10_drawPane_19 ?_
  rw [show Int32.ofNat (gN 16) = 2 by decide +kernel]
  refine g_topi (fun v5 e6 => ?_)
  have h := bnd_e e6 h
  refine g_istore X (lv' := [(6, .int v5), (5, .ref (gad (xz x) 16)), (4, .int v3), (0, .ref (gad (xz x) 0)), (1, .ref (gad (xz x) p0)), (2, .ref (gad (xz x) p1)), (3, .int i2)]) dX10_drawPane_20 (by decide) rfl ?_
  refine g_iconst X (v := 0) dX10_drawPane_22 (by decide) ?_
  refine g_topi (fun v7 e8 => ?_)
  have h := bnd_e e8 h
  refine g_istore X (lv' := [(7, .int v7), (6, .int v5), (5, .ref (gad (xz x) 16)), (4, .int v3), (0, .ref (gad (xz x) 0)), (1, .ref (gad (xz x) p0)), (2, .ref (gad (xz x) p1)), (3, .int i2)]) dX10_drawPane_23 (by decide) rfl ?_
  refine g_lv [4, 5, 6, 7, 3, 2, 1, 0] rfl ?_
  obtain ⟨⟨v32, M33⟩, hl34, h⟩ := bndO_e h
  refine lw_X10_drawPane_25 X h1 h2 (fun v32_ M33_ e9 => ?_) F v3 v7 M2 hl34
  cases e9
  refine g_iload X (j := 0) dX10_drawPane_68 rfl ?_
  obtain ⟨hg35, h⟩ := grd_e h
  exact hR v32 M33 _ _ (Option.some.inj h).symm (gTf_of hg35) dX10_drawPane_70
theorem ct_X10_drawPane {l : Launch} {z : GZ} (htr : l.stackTraces = false) {p0 : Nat} {p1 : Nat} {i2 : Int32} (h1 : gT p0 = 7) (h2 : gT p1 = 0) {M : GM} {F : Nat} {v : Int32} {M1 : GM} (h : f_X10_drawPane F p0 p1 i2 M = some (v, M1)) : gMet l z yX10_drawPane cX10_drawPane 9 (some .boolean) 5 [.ref (gad z 0), .ref (gad z p0), .ref (gad z p1), .int i2] M (some (.int v)) M1 := gMet_ofZ (by decide +kernel) (Nat.le_of_ble_eq_true rfl) htr (fun x X ez el hR => by subst ez; subst el; exact w_X10_drawPane X h1 h2 (fun v9 M9 lv9 pc9 e9 z9 d9 => by cases e9; exact hR lv9 pc9 z9 d9) h)
theorem gc_X10_282 {x : GX} {cc : ByteArray} {nL d pc : Nat} {M : GM} {lv : List (Nat × Value)} {st : List Value} (X : GC x cc nL RX10 d) {i0 : Nat} {i1 : Int32} {M1 : GM} {g : Nat} (ht : gT g = 7) (hM : gMet (xl x) (xz x) yX7_blank cX7_blank 6 none 0 [.ref (gad (xz x) g), .ref (gad (xz x) i0), .int i1] M (none) M1) (hd : 1 ≤ d) (hsum : (st.map fun v => v.category).sum ≤ 8) (dec : decode cc pc = .ok (.invokevirtual 282, 3)) (go : WG x M1 lv (pc + 3) (st)) : WG x M lv pc (.int i1 :: .ref (gad (xz x) i0) :: .ref (gad (xz x) g) :: st) := g_callV X (n := 2) (As := [.ref (gad (xz x) i0), .int i1]) (rest := st) hM ht (by decide) (gE_7 ht) rfl q_439 q_440 q_441 q_58 q_442 (by decide +kernel) rfl hd (by decide) rfl hsum dec go
theorem gc_X10_334 {x : GX} {cc : ByteArray} {nL d pc : Nat} {M : GM} {lv : List (Nat × Value)} {st : List Value} (X : GC x cc nL RX10 d) {i0 : Nat} {i1 : Nat} {i2 : Int32} {M1 : GM} {r : Int32} (ht : gT 0 = 10) (hM : gMet (xl x) (xz x) yX10_drawPane cX10_drawPane 9 (some .boolean) 5 [.ref (gad (xz x) 0), .ref (gad (xz x) i0), .ref (gad (xz x) i1), .int i2] M (some (.int r)) M1) (hd : 6 ≤ d) (hsum : (st.map fun v => v.category).sum ≤ 8) (dec : decode cc pc = .ok (.invokevirtual 334, 3)) (go : WG x M1 lv (pc + 3) (.int r :: st)) : WG x M lv pc (.int i2 :: .ref (gad (xz x) i1) :: .ref (gad (xz x) i0) :: .ref (gad (xz x) 0) :: st) := g_callV X (n := 3) (As := [.ref (gad (xz x) i0), .ref (gad (xz x) i1), .int i2]) (rest := st) hM ht (by decide) (gE_10 ht) rfl q_447 q_449 q_1 q_52 q_450 (by decide +kernel) rfl hd (by decide) rfl hsum dec go
theorem dX10_draw_0 : decode cX10_draw 0 = .ok (.aload_n 1, 1) := by decide +kernel
theorem dX10_draw_1 : decode cX10_draw 1 = .ok (.aload_n 2, 1) := by decide +kernel
theorem dX10_draw_2 : decode cX10_draw 2 = .ok (.aload_n 0, 1) := by decide +kernel
theorem dX10_draw_3 : decode cX10_draw 3 = .ok (.getfield 192, 3) := by decide +kernel
theorem dX10_draw_6 : decode cX10_draw 6 = .ok (.invokevirtual 282, 3) := by decide +kernel
theorem dX10_draw_9 : decode cX10_draw 9 = .ok (.iconst 0, 1) := by decide +kernel
theorem dX10_draw_10 : decode cX10_draw 10 = .ok (.istore 4, 2) := by decide +kernel
theorem dX10_draw_12 : decode cX10_draw 12 = .ok (.iload 4, 2) := by decide +kernel
theorem dX10_draw_14 : decode cX10_draw 14 = .ok (.aload_n 0, 1) := by decide +kernel
theorem dX10_draw_15 : decode cX10_draw 15 = .ok (.getfield 121, 3) := by decide +kernel
theorem dX10_draw_18 : decode cX10_draw 18 = .ok (.if_icmp .ge 37, 3) := by decide +kernel
theorem dX10_draw_21 : decode cX10_draw 21 = .ok (.aload_n 0, 1) := by decide +kernel
theorem dX10_draw_22 : decode cX10_draw 22 = .ok (.getfield 17, 3) := by decide +kernel
theorem dX10_draw_25 : decode cX10_draw 25 = .ok (.iload 4, 2) := by decide +kernel
theorem dX10_draw_27 : decode cX10_draw 27 = .ok (.aaload, 1) := by decide +kernel
theorem dX10_draw_28 : decode cX10_draw 28 = .ok (.getfield 147, 3) := by decide +kernel
theorem dX10_draw_31 : decode cX10_draw 31 = .ok (.ifCond .eq 18, 3) := by decide +kernel
theorem dX10_draw_34 : decode cX10_draw 34 = .ok (.iload 4, 2) := by decide +kernel
theorem dX10_draw_36 : decode cX10_draw 36 = .ok (.iload_n 3, 1) := by decide +kernel
theorem dX10_draw_37 : decode cX10_draw 37 = .ok (.if_icmp .eq 12, 3) := by decide +kernel
theorem dX10_draw_40 : decode cX10_draw 40 = .ok (.aload_n 0, 1) := by decide +kernel
theorem dX10_draw_41 : decode cX10_draw 41 = .ok (.aload_n 1, 1) := by decide +kernel
theorem dX10_draw_42 : decode cX10_draw 42 = .ok (.aload_n 2, 1) := by decide +kernel
theorem dX10_draw_43 : decode cX10_draw 43 = .ok (.iload 4, 2) := by decide +kernel
theorem dX10_draw_45 : decode cX10_draw 45 = .ok (.invokevirtual 334, 3) := by decide +kernel
theorem dX10_draw_48 : decode cX10_draw 48 = .ok (.pop, 1) := by decide +kernel
theorem dX10_draw_49 : decode cX10_draw 49 = .ok (.iinc 4 1, 3) := by decide +kernel
theorem dX10_draw_52 : decode cX10_draw 52 = .ok (.goto (-40), 3) := by decide +kernel
theorem dX10_draw_55 : decode cX10_draw 55 = .ok (.return_, 1) := by decide +kernel
def st_X10_draw_12 (F : Nat) (p5 : Nat) (p7 : Nat) (a9 : Int32) (rec : Int32 → GM → Option GM) (a10 : Int32) (M : GM) : Option GM := if (gI M 0 13) ≤ a10 then (some M) else (grd (gIn a10 (gN 2)) (bnd (gR 2 a10.toNatClampNeg) (fun o12 => if (gI M o12 6) = 0 then (bnd (a10 + (1 : Int32)) (fun v15 => rec v15 M)) else (if a10 = a9 then (bnd (a10 + (1 : Int32)) (fun v17 => rec v17 M)) else (bndO (f_X10_drawPane F p5 p7 a10 M) (fun (v20, M21) => bnd (a10 + (1 : Int32)) (fun v22 => rec v22 M21)))))))
def lp_X10_draw_12 (F : Nat) (p5 : Nat) (p7 : Nat) (a9 : Int32) : Nat → Int32 → GM → Option GM
  | 0 => fun _ _ => none
  | f + 1 => fun a10 M => st_X10_draw_12 F p5 p7 a9 (lp_X10_draw_12 F p5 p7 a9 f) a10 M
set_option maxHeartbeats 4000000 in
set_option maxRecDepth 100000 in
theorem lw_X10_draw_12 {x : GX} (X : GC x cX10_draw 5 RX10 6) {p5 : Nat} {p7 : Nat} {a9 : Int32} (k6 : gT p5 = 7) (k8 : gT p7 = 0) {F : Nat} {r9 : GM} (hE : ∀  (M9 : GM), r9 = M9 → WG x M9 [] 55 []) : ∀ (f : Nat) (a10 : Int32) (M : GM), lp_X10_draw_12 F p5 p7 a9 f a10 M = some r9 → WG x M [(0, .ref (gad (xz x) 0)), (1, .ref (gad (xz x) p5)), (2, .ref (gad (xz x) p7)), (3, .int a9), (4, .int a10)] 12 [] := by
  intro f
  induction f with
  | zero => intro a10 M h; cases h
  | succ f ih =>
    intro a10 M h
    have hrec := ih
    have h : st_X10_draw_12 F p5 p7 a9 (lp_X10_draw_12 F p5 p7 a9 f) a10 M = some r9 := h
    generalize lp_X10_draw_12 F p5 p7 a9 f = rec at h hrec
    unfold st_X10_draw_12 at h
    refine g_iload X (j := 4) dX10_draw_12 rfl ?_
    refine g_aload_n X (j := 0) dX10_draw_14 rfl rfl ?_
    refine gf_X10_121 X gT_c0 dX10_draw_15 ?_
    refine g_icmp_ge X (tgt := 55) dX10_draw_18 (by decide) (fun hb => ?_) (fun hb => ?_)
    · have h := ite_t hb h
      refine g_lv [] rfl ?_
      exact hE M (Option.some.inj h).symm
    · have h := ite_f hb h
      refine g_aload_n X (j := 0) dX10_draw_21 rfl rfl ?_
      refine gf_X10_17 X gT_c0 dX10_draw_22 ?_
      refine g_iload X (j := 4) dX10_draw_25 rfl ?_
      obtain ⟨hg11, h⟩ := grd_e h
      refine g_aald_24 X gT_c2 hg11 dX10_draw_27 ?_
      refine g_topr (fun o12 e13 => ?_)
      have h := bnd_e e13 h
      have k14 : gT o12 = 4 := by rw [e13]; exact gR_24 gT_c2 (gIn_lt hg11)
      refine gf_X10_147 X k14 dX10_draw_28 ?_
      refine g_if_eq X (tgt := 49) dX10_draw_31 (by decide) (fun hb => ?_) (fun hb => ?_)
      · have h := ite_t hb h
        refine g_iinc X (j := 4) (w := a10 + (1 : Int32)) (lv' := [(0, .ref (gad (xz x) 0)), (1, .ref (gad (xz x) p5)), (2, .ref (gad (xz x) p7)), (3, .int a9)]) dX10_draw_49 rfl (by rw [ii_1]) (by decide) (fun _ => rfl) (fun v15 e16 => ?_)
        have h := bnd_e e16 h
        refine g_goto X (tgt := 12) dX10_draw_52 (by decide) ?_
        refine g_lv [1, 2, 3, 4, 0] rfl ?_
        exact hrec v15 M h
      · have h := ite_f hb h
        refine g_iload X (j := 4) dX10_draw_34 rfl ?_
        refine g_iload_n X (j := 3) dX10_draw_36 rfl rfl ?_
        refine g_icmp_eq X (tgt := 49) dX10_draw_37 (by decide) (fun hb => ?_) (fun hb => ?_)
        · have h := ite_t hb h
          refine g_iinc X (j := 4) (w := a10 + (1 : Int32)) (lv' := [(0, .ref (gad (xz x) 0)), (1, .ref (gad (xz x) p5)), (2, .ref (gad (xz x) p7)), (3, .int a9)]) dX10_draw_49 rfl (by rw [ii_1]) (by decide) (fun _ => rfl) (fun v17 e18 => ?_)
          have h := bnd_e e18 h
          refine g_goto X (tgt := 12) dX10_draw_52 (by decide) ?_
          refine g_lv [1, 2, 3, 4, 0] rfl ?_
          exact hrec v17 M h
        · have h := ite_f hb h
          refine g_aload_n X (j := 0) dX10_draw_40 rfl rfl ?_
          refine g_aload_n X (j := 1) dX10_draw_41 rfl rfl ?_
          refine g_aload_n X (j := 2) dX10_draw_42 rfl rfl ?_
          refine g_iload X (j := 4) dX10_draw_43 rfl ?_
          obtain ⟨⟨v20, M21⟩, hc19, h⟩ := bndO_e h
          refine gc_X10_334 X gT_c0 (ct_X10_drawPane X.htr k6 k8 hc19) (by decide) (Nat.le_of_ble_eq_true rfl) dX10_draw_45 ?_
          refine g_pop X dX10_draw_48 rfl ?_
          refine g_iinc X (j := 4) (w := a10 + (1 : Int32)) (lv' := [(0, .ref (gad (xz x) 0)), (1, .ref (gad (xz x) p5)), (2, .ref (gad (xz x) p7)), (3, .int a9)]) dX10_draw_49 rfl (by rw [ii_1]) (by decide) (fun _ => rfl) (fun v22 e23 => ?_)
          have h := bnd_e e23 h
          refine g_goto X (tgt := 12) dX10_draw_52 (by decide) ?_
          refine g_lv [1, 2, 3, 4, 0] rfl ?_
          exact hrec v22 M21 h
def f_X10_draw (F : Nat) (p0 : Nat) (p1 : Nat) (i2 : Int32) (M : GM) : Option GM := bndO (f_X7_blank F p0 p1 (gI M 0 14) M) (fun M2 => bnd (0 : Int32) (fun v3 => bndO (lp_X10_draw_12 F p0 p1 i2 F v3 M2) (fun M24 => some M24)))
set_option maxHeartbeats 4000000 in
set_option maxRecDepth 100000 in
theorem w_X10_draw {x : GX} (X : GC x cX10_draw 5 RX10 6) {p0 : Nat} {p1 : Nat} {i2 : Int32} (h1 : gT p0 = 7) (h2 : gT p1 = 0) {F : Nat} {M : GM} {r9 : GM} (hR : ∀ (M9 : GM) (lv9 : List (Nat × Value)) (pc9 : Nat), r9 = M9 → decode cX10_draw pc9 = .ok (.return_, 1) → WG x M9 lv9 pc9 []) (h : f_X10_draw F p0 p1 i2 M = some r9) : WG x M [(0, .ref (gad (xz x) 0)), (1, .ref (gad (xz x) p0)), (2, .ref (gad (xz x) p1)), (3, .int i2)] 0 [] := by
  unfold f_X10_draw at h
  refine g_aload_n X (j := 1) dX10_draw_0 rfl rfl ?_
  refine g_aload_n X (j := 2) dX10_draw_1 rfl rfl ?_
  refine g_aload_n X (j := 0) dX10_draw_2 rfl rfl ?_
  refine gf_X10_192 X gT_c0 dX10_draw_3 ?_
  obtain ⟨M2, hc1, h⟩ := bndO_e h
  refine gc_X10_282 X h1 (ct_X7_blank X.htr h1 h2 hc1) (by decide) (Nat.le_of_ble_eq_true rfl) dX10_draw_6 ?_
  refine g_iconst X (v := 0) dX10_draw_9 (by decide) ?_
  refine g_topi (fun v3 e4 => ?_)
  have h := bnd_e e4 h
  refine g_istore X (lv' := [(4, .int v3), (0, .ref (gad (xz x) 0)), (1, .ref (gad (xz x) p0)), (2, .ref (gad (xz x) p1)), (3, .int i2)]) dX10_draw_10 (by decide) rfl ?_
  refine g_lv [1, 2, 3, 4, 0] rfl ?_
  obtain ⟨M24, hl25, h⟩ := bndO_e h
  refine lw_X10_draw_12 X h1 h2 (fun M24_ e9 => ?_) F v3 M2 hl25
  cases e9
  exact hR M24 _ _ (Option.some.inj h).symm dX10_draw_55
theorem ct_X10_draw {l : Launch} {z : GZ} (htr : l.stackTraces = false) {p0 : Nat} {p1 : Nat} {i2 : Int32} (h1 : gT p0 = 7) (h2 : gT p1 = 0) {M : GM} {F : Nat} {M1 : GM} (h : f_X10_draw F p0 p1 i2 M = some M1) : gMet l z yX10_draw cX10_draw 5 none 6 [.ref (gad z 0), .ref (gad z p0), .ref (gad z p1), .int i2] M (none) M1 := gMet_ofV (by decide +kernel) (Nat.le_of_ble_eq_true rfl) htr (fun x X ez el hR => by subst ez; subst el; exact w_X10_draw X h1 h2 (fun M9 lv9 pc9 e9 d9 => by cases e9; exact hR lv9 pc9 d9) h)
theorem gc_X10_324 {x : GX} {cc : ByteArray} {nL d pc : Nat} {M : GM} {lv : List (Nat × Value)} {st : List Value} (X : GC x cc nL RX10 d) {i0 : Int32} {i1 : Int32} {i2 : Int32} {i3 : Int32} {M1 : GM} {g : Nat} (ht : gT g = 0) (hM : gMet (xl x) (xz x) yX0_span cX0_span 5 none 1 [.ref (gad (xz x) g), .int i0, .int i1, .int i2, .int i3] M (none) M1) (hd : 2 ≤ d) (hsum : (st.map fun v => v.category).sum ≤ 8) (dec : decode cc pc = .ok (.invokevirtual 324, 3)) (go : WG x M1 lv (pc + 3) (st)) : WG x M lv pc (.int i3 :: .int i2 :: .int i1 :: .int i0 :: .ref (gad (xz x) g) :: st) := g_callV X (n := 4) (As := [.int i0, .int i1, .int i2, .int i3]) (rest := st) hM ht (by decide) (gE_0 ht) rfl q_605 q_539 q_540 q_57 q_541 (by decide +kernel) rfl hd (by decide) rfl hsum dec go
theorem dX10_spanTile_0 : decode cX10_spanTile 0 = .ok (.iload_n 1, 1) := by decide +kernel
theorem dX10_spanTile_1 : decode cX10_spanTile 1 = .ok (.iconst 5, 1) := by decide +kernel
theorem dX10_spanTile_2 : decode cX10_spanTile 2 = .ok (.irem, 1) := by decide +kernel
theorem dX10_spanTile_3 : decode cX10_spanTile 3 = .ok (.bipush 8, 2) := by decide +kernel
theorem dX10_spanTile_5 : decode cX10_spanTile 5 = .ok (.imul, 1) := by decide +kernel
theorem dX10_spanTile_6 : decode cX10_spanTile 6 = .ok (.istore_n 2, 1) := by decide +kernel
theorem dX10_spanTile_7 : decode cX10_spanTile 7 = .ok (.iload_n 1, 1) := by decide +kernel
theorem dX10_spanTile_8 : decode cX10_spanTile 8 = .ok (.iconst 5, 1) := by decide +kernel
theorem dX10_spanTile_9 : decode cX10_spanTile 9 = .ok (.idiv, 1) := by decide +kernel
theorem dX10_spanTile_10 : decode cX10_spanTile 10 = .ok (.bipush 8, 2) := by decide +kernel
theorem dX10_spanTile_12 : decode cX10_spanTile 12 = .ok (.imul, 1) := by decide +kernel
theorem dX10_spanTile_13 : decode cX10_spanTile 13 = .ok (.istore_n 3, 1) := by decide +kernel
theorem dX10_spanTile_14 : decode cX10_spanTile 14 = .ok (.aload_n 0, 1) := by decide +kernel
theorem dX10_spanTile_15 : decode cX10_spanTile 15 = .ok (.getfield 72, 3) := by decide +kernel
theorem dX10_spanTile_18 : decode cX10_spanTile 18 = .ok (.iload_n 2, 1) := by decide +kernel
theorem dX10_spanTile_19 : decode cX10_spanTile 19 = .ok (.iload_n 3, 1) := by decide +kernel
theorem dX10_spanTile_20 : decode cX10_spanTile 20 = .ok (.iload_n 2, 1) := by decide +kernel
theorem dX10_spanTile_21 : decode cX10_spanTile 21 = .ok (.bipush 8, 2) := by decide +kernel
theorem dX10_spanTile_23 : decode cX10_spanTile 23 = .ok (.iadd, 1) := by decide +kernel
theorem dX10_spanTile_24 : decode cX10_spanTile 24 = .ok (.iconst 1, 1) := by decide +kernel
theorem dX10_spanTile_25 : decode cX10_spanTile 25 = .ok (.isub, 1) := by decide +kernel
theorem dX10_spanTile_26 : decode cX10_spanTile 26 = .ok (.iload_n 3, 1) := by decide +kernel
theorem dX10_spanTile_27 : decode cX10_spanTile 27 = .ok (.bipush 8, 2) := by decide +kernel
theorem dX10_spanTile_29 : decode cX10_spanTile 29 = .ok (.iadd, 1) := by decide +kernel
theorem dX10_spanTile_30 : decode cX10_spanTile 30 = .ok (.iconst 1, 1) := by decide +kernel
theorem dX10_spanTile_31 : decode cX10_spanTile 31 = .ok (.isub, 1) := by decide +kernel
theorem dX10_spanTile_32 : decode cX10_spanTile 32 = .ok (.invokevirtual 324, 3) := by decide +kernel
theorem dX10_spanTile_35 : decode cX10_spanTile 35 = .ok (.return_, 1) := by decide +kernel
def f_X10_spanTile (i0 : Int32) (M : GM) : GM := bnd ((i0 - i0 / (5 : Int32) * (5 : Int32)) * (8 : Int32)) (fun v1 => bnd ((i0 / (5 : Int32)) * (8 : Int32)) (fun v3 => bnd (f_X0_span 43 v1 v3 ((v1 + (8 : Int32)) - (1 : Int32)) ((v3 + (8 : Int32)) - (1 : Int32)) M) (fun M5 => M5)))
set_option maxHeartbeats 4000000 in
set_option maxRecDepth 100000 in
theorem w_X10_spanTile {x : GX} (X : GC x cX10_spanTile 4 RX10 2) {i0 : Int32}  {M : GM} {r9 : GM} (hR : ∀ (M9 : GM) (lv9 : List (Nat × Value)) (pc9 : Nat), r9 = M9 → decode cX10_spanTile pc9 = .ok (.return_, 1) → WG x M9 lv9 pc9 []) (h : f_X10_spanTile i0 M = r9) : WG x M [(0, .ref (gad (xz x) 0)), (1, .int i0)] 0 [] := by
  unfold f_X10_spanTile at h
  refine g_iload_n X (j := 1) dX10_spanTile_0 rfl rfl ?_
  refine g_iconst X (v := 5) dX10_spanTile_1 (by decide) ?_
  refine g_irem X dX10_spanTile_2 (by decide) ?_
  refine g_bipush X (v := 8) dX10_spanTile_3 (by decide) ?_
  refine g_imul X dX10_spanTile_5 ?_
  refine g_topi (fun v1 e2 => ?_)
  have h := bnd_e e2 h
  refine g_istore_n X (lv' := [(2, .int v1), (0, .ref (gad (xz x) 0)), (1, .int i0)]) dX10_spanTile_6 rfl (by decide) rfl ?_
  refine g_iload_n X (j := 2) dX10_spanTile_7 rfl rfl ?_
  refine g_iconst X (v := 5) dX10_spanTile_8 (by decide) ?_
  refine g_idiv X dX10_spanTile_9 (by decide) ?_
  refine g_bipush X (v := 8) dX10_spanTile_10 (by decide) ?_
  refine g_imul X dX10_spanTile_12 ?_
  refine g_topi (fun v3 e4 => ?_)
  have h := bnd_e e4 h
  refine g_istore_n X (lv' := [(3, .int v3), (2, .int v1), (0, .ref (gad (xz x) 0)), (1, .int i0)]) dX10_spanTile_13 rfl (by decide) rfl ?_
  refine g_aload_n X (j := 2) dX10_spanTile_14 rfl rfl ?_
  refine gf_X10_72 X gT_c0 dX10_spanTile_15 ?_
  refine g_iload_n X (j := 1) dX10_spanTile_18 rfl rfl ?_
  refine g_iload_n X (j := 0) dX10_spanTile_19 rfl rfl ?_
  refine g_iload_n X (j := 1) dX10_spanTile_20 rfl rfl ?_
  refine g_bipush X (v := 8) dX10_spanTile_21 (by decide) ?_
  refine g_iadd X dX10_spanTile_23 ?_
  refine g_iconst X (v := 1) dX10_spanTile_24 (by decide) ?_
  refine g_isub X dX10_spanTile_25 ?_
  refine g_iload_n X (j := 0) dX10_spanTile_26 rfl rfl ?_
  refine g_bipush X (v := 8) dX10_spanTile_27 (by decide) ?_
  refine g_iadd X dX10_spanTile_29 ?_
  refine g_iconst X (v := 1) dX10_spanTile_30 (by decide) ?_
  refine g_isub X dX10_spanTile_31 ?_
  refine gc_X10_324 X gT_c43 (ct_X0_span X.htr gT_c43) (by decide) (Nat.le_of_ble_eq_true rfl) dX10_spanTile_32 ?_
  refine g_mem (fun M5 e6 => ?_)
  have h := bnd_e e6 h
  exact hR M5 _ _ h.symm dX10_spanTile_35
theorem ct_X10_spanTile {l : Launch} {z : GZ} (htr : l.stackTraces = false) {i0 : Int32}  {M : GM} : gMet l z yX10_spanTile cX10_spanTile 4 none 2 [.ref (gad z 0), .int i0] M (none) (f_X10_spanTile i0 M) := gMet_ofV (by decide +kernel) (Nat.le_of_ble_eq_true rfl) htr (fun x X ez el hR => by subst ez; subst el; exact w_X10_spanTile X  (fun M9 lv9 pc9 e9 d9 => by cases e9; exact hR lv9 pc9 d9) rfl)
theorem gc_X10_299 {x : GX} {cc : ByteArray} {nL d pc : Nat} {M : GM} {lv : List (Nat × Value)} {st : List Value} (X : GC x cc nL RX10 d) {i0 : Int32} {M1 : GM} (ht : gT 0 = 10) (hM : gMet (xl x) (xz x) yX10_spanTile cX10_spanTile 4 none 2 [.ref (gad (xz x) 0), .int i0] M (none) M1) (hd : 3 ≤ d) (hsum : (st.map fun v => v.category).sum ≤ 8) (dec : decode cc pc = .ok (.invokevirtual 299, 3)) (go : WG x M1 lv (pc + 3) (st)) : WG x M lv pc (.int i0 :: .ref (gad (xz x) 0) :: st) := g_callV X (n := 1) (As := [.int i0]) (rest := st) hM ht (by decide) (gE_10 ht) rfl q_601 q_603 q_8 q_52 q_604 (by decide +kernel) rfl hd (by decide) rfl hsum dec go
theorem gc_X10_302 {x : GX} {cc : ByteArray} {nL d pc : Nat} {M : GM} {lv : List (Nat × Value)} {st : List Value} (X : GC x cc nL RX10 d) {i0 : Nat} {i1 : Nat} {M1 : GM} {r : Int32} {g : Nat} (ht : gT g = 7) (hM : gMet (xl x) (xz x) yX7_differsFrom cX7_differsFrom 6 (some .boolean) 0 [.ref (gad (xz x) g), .ref (gad (xz x) i0), .ref (gad (xz x) i1)] M (some (.int r)) M1) (hd : 1 ≤ d) (hsum : (st.map fun v => v.category).sum ≤ 8) (dec : decode cc pc = .ok (.invokevirtual 302, 3)) (go : WG x M1 lv (pc + 3) (.int r :: st)) : WG x M lv pc (.ref (gad (xz x) i1) :: .ref (gad (xz x) i0) :: .ref (gad (xz x) g) :: st) := g_callV X (n := 2) (As := [.ref (gad (xz x) i0), .ref (gad (xz x) i1)]) (rest := st) hM ht (by decide) (gE_7 ht) rfl q_606 q_607 q_608 q_58 q_609 (by decide +kernel) rfl hd (by decide) rfl hsum dec go
theorem dX10_countStaleTiles_0 : decode cX10_countStaleTiles 0 = .ok (.iconst 0, 1) := by decide +kernel
theorem dX10_countStaleTiles_1 : decode cX10_countStaleTiles 1 = .ok (.istore_n 1, 1) := by decide +kernel
theorem dX10_countStaleTiles_2 : decode cX10_countStaleTiles 2 = .ok (.iconst 0, 1) := by decide +kernel
theorem dX10_countStaleTiles_3 : decode cX10_countStaleTiles 3 = .ok (.istore_n 2, 1) := by decide +kernel
theorem dX10_countStaleTiles_4 : decode cX10_countStaleTiles 4 = .ok (.iload_n 2, 1) := by decide +kernel
theorem dX10_countStaleTiles_5 : decode cX10_countStaleTiles 5 = .ok (.bipush 15, 2) := by decide +kernel
theorem dX10_countStaleTiles_7 : decode cX10_countStaleTiles 7 = .ok (.if_icmp .ge 35, 3) := by decide +kernel
theorem dX10_countStaleTiles_10 : decode cX10_countStaleTiles 10 = .ok (.aload_n 0, 1) := by decide +kernel
theorem dX10_countStaleTiles_11 : decode cX10_countStaleTiles 11 = .ok (.iload_n 2, 1) := by decide +kernel
theorem dX10_countStaleTiles_12 : decode cX10_countStaleTiles 12 = .ok (.invokevirtual 299, 3) := by decide +kernel
theorem dX10_countStaleTiles_15 : decode cX10_countStaleTiles 15 = .ok (.aload_n 0, 1) := by decide +kernel
theorem dX10_countStaleTiles_16 : decode cX10_countStaleTiles 16 = .ok (.getfield 48, 3) := by decide +kernel
theorem dX10_countStaleTiles_19 : decode cX10_countStaleTiles 19 = .ok (.aload_n 0, 1) := by decide +kernel
theorem dX10_countStaleTiles_20 : decode cX10_countStaleTiles 20 = .ok (.getfield 44, 3) := by decide +kernel
theorem dX10_countStaleTiles_23 : decode cX10_countStaleTiles 23 = .ok (.aload_n 0, 1) := by decide +kernel
theorem dX10_countStaleTiles_24 : decode cX10_countStaleTiles 24 = .ok (.getfield 72, 3) := by decide +kernel
theorem dX10_countStaleTiles_27 : decode cX10_countStaleTiles 27 = .ok (.invokevirtual 302, 3) := by decide +kernel
theorem dX10_countStaleTiles_30 : decode cX10_countStaleTiles 30 = .ok (.ifCond .eq 6, 3) := by decide +kernel
theorem dX10_countStaleTiles_33 : decode cX10_countStaleTiles 33 = .ok (.iinc 1 1, 3) := by decide +kernel
theorem dX10_countStaleTiles_36 : decode cX10_countStaleTiles 36 = .ok (.iinc 2 1, 3) := by decide +kernel
theorem dX10_countStaleTiles_39 : decode cX10_countStaleTiles 39 = .ok (.goto (-35), 3) := by decide +kernel
theorem dX10_countStaleTiles_42 : decode cX10_countStaleTiles 42 = .ok (.iload_n 1, 1) := by decide +kernel
theorem dX10_countStaleTiles_43 : decode cX10_countStaleTiles 43 = .ok (.ireturn, 1) := by decide +kernel
def st_X10_countStaleTiles_4 (F : Nat)  (rec : Int32 → Int32 → GM → Option (Int32 × GM)) (a5 : Int32) (a6 : Int32) (M : GM) : Option (Int32 × GM) := if (15 : Int32) ≤ a6 then (some (a5, M)) else (bnd (f_X10_spanTile a6 M) (fun M7 => bndO (f_X7_differsFrom F 31 27 43 M7) (fun v10 => if v10 = 0 then (bnd (a6 + (1 : Int32)) (fun v11 => rec a5 v11 M7)) else (bnd (a5 + (1 : Int32)) (fun v13 => bnd (a6 + (1 : Int32)) (fun v15 => rec v13 v15 M7))))))
def lp_X10_countStaleTiles_4 (F : Nat)  : Nat → Int32 → Int32 → GM → Option (Int32 × GM)
  | 0 => fun _ _ _ => none
  | f + 1 => fun a5 a6 M => st_X10_countStaleTiles_4 F  (lp_X10_countStaleTiles_4 F  f) a5 a6 M
set_option maxHeartbeats 4000000 in
set_option maxRecDepth 100000 in
theorem lw_X10_countStaleTiles_4 {x : GX} (X : GC x cX10_countStaleTiles 3 RX10 3)   {F : Nat} {r9 : (Int32 × GM)} (hE : ∀ (x1_9 : Int32) (M9 : GM), r9 = (x1_9, M9) → WG x M9 [(1, .int x1_9)] 42 []) : ∀ (f : Nat) (a5 : Int32) (a6 : Int32) (M : GM), lp_X10_countStaleTiles_4 F  f a5 a6 M = some r9 → WG x M [(0, .ref (gad (xz x) 0)), (1, .int a5), (2, .int a6)] 4 [] := by
  intro f
  induction f with
  | zero => intro a5 a6 M h; cases h
  | succ f ih =>
    intro a5 a6 M h
    have hrec := ih
    have h : st_X10_countStaleTiles_4 F  (lp_X10_countStaleTiles_4 F  f) a5 a6 M = some r9 := h
    generalize lp_X10_countStaleTiles_4 F  f = rec at h hrec
    unfold st_X10_countStaleTiles_4 at h
    refine g_iload_n X (j := 2) dX10_countStaleTiles_4 rfl rfl ?_
    refine g_bipush X (v := 15) dX10_countStaleTiles_5 (by decide) ?_
    refine g_icmp_ge X (tgt := 42) dX10_countStaleTiles_7 (by decide) (fun hb => ?_) (fun hb => ?_)
    · have h := ite_t hb h
      refine g_lv [1] rfl ?_
      exact hE a5 M (Option.some.inj h).symm
    · have h := ite_f hb h
      refine g_aload_n X (j := 0) dX10_countStaleTiles_10 rfl rfl ?_
      refine g_iload_n X (j := 2) dX10_countStaleTiles_11 rfl rfl ?_
      refine gc_X10_299 X gT_c0 (ct_X10_spanTile X.htr ) (by decide) (Nat.le_of_ble_eq_true rfl) dX10_countStaleTiles_12 ?_
      refine g_mem (fun M7 e8 => ?_)
      have h := bnd_e e8 h
      refine g_aload_n X (j := 0) dX10_countStaleTiles_15 rfl rfl ?_
      refine gf_X10_48 X gT_c0 dX10_countStaleTiles_16 ?_
      refine g_aload_n X (j := 0) dX10_countStaleTiles_19 rfl rfl ?_
      refine gf_X10_44 X gT_c0 dX10_countStaleTiles_20 ?_
      refine g_aload_n X (j := 0) dX10_countStaleTiles_23 rfl rfl ?_
      refine gf_X10_72 X gT_c0 dX10_countStaleTiles_24 ?_
      obtain ⟨v10, hc9, h⟩ := bndO_e h
      refine gc_X10_302 X gT_c31 (ct_X7_differsFrom X.htr gT_c31 gT_c27 gT_c43 hc9) (by decide) (Nat.le_of_ble_eq_true rfl) dX10_countStaleTiles_27 ?_
      refine g_if_eq X (tgt := 36) dX10_countStaleTiles_30 (by decide) (fun hb => ?_) (fun hb => ?_)
      · have h := ite_t hb h
        refine g_iinc X (j := 2) (w := a6 + (1 : Int32)) (lv' := [(0, .ref (gad (xz x) 0)), (1, .int a5)]) dX10_countStaleTiles_36 rfl (by rw [ii_1]) (by decide) (fun _ => rfl) (fun v11 e12 => ?_)
        have h := bnd_e e12 h
        refine g_goto X (tgt := 4) dX10_countStaleTiles_39 (by decide) ?_
        refine g_lv [1, 2, 0] rfl ?_
        exact hrec a5 v11 M7 h
      · have h := ite_f hb h
        refine g_iinc X (j := 1) (w := a5 + (1 : Int32)) (lv' := [(0, .ref (gad (xz x) 0)), (2, .int a6)]) dX10_countStaleTiles_33 rfl (by rw [ii_1]) (by decide) (fun _ => rfl) (fun v13 e14 => ?_)
        have h := bnd_e e14 h
        refine g_iinc X (j := 2) (w := a6 + (1 : Int32)) (lv' := [(1, .int v13), (0, .ref (gad (xz x) 0))]) dX10_countStaleTiles_36 rfl (by rw [ii_1]) (by decide) (fun _ => rfl) (fun v15 e16 => ?_)
        have h := bnd_e e16 h
        refine g_goto X (tgt := 4) dX10_countStaleTiles_39 (by decide) ?_
        refine g_lv [2, 1, 0] rfl ?_
        exact hrec v13 v15 M7 h
def f_X10_countStaleTiles (F : Nat) (M : GM) : Option (Int32 × GM) := bnd (0 : Int32) (fun v1 => bnd (0 : Int32) (fun v3 => bndO (lp_X10_countStaleTiles_4 F  F v1 v3 M) (fun (v17, M18) => some (v17, M18))))
set_option maxHeartbeats 4000000 in
set_option maxRecDepth 100000 in
theorem w_X10_countStaleTiles {x : GX} (X : GC x cX10_countStaleTiles 3 RX10 3)   {F : Nat} {M : GM} {r9 : (Int32 × GM)} (hR : ∀ (v9 : Int32) (M9 : GM) (lv9 : List (Nat × Value)) (pc9 : Nat), r9 = (v9, M9) → decode cX10_countStaleTiles pc9 = .ok (.ireturn, 1) → WG x M9 lv9 pc9 [.int v9]) (h : f_X10_countStaleTiles F M = some r9) : WG x M [(0, .ref (gad (xz x) 0))] 0 [] := by
  unfold f_X10_countStaleTiles at h
  refine g_iconst X (v := 0) dX10_countStaleTiles_0 (by decide) ?_
  refine g_topi (fun v1 e2 => ?_)
  have h := bnd_e e2 h
  refine g_istore_n X (lv' := [(1, .int v1), (0, .ref (gad (xz x) 0))]) dX10_countStaleTiles_1 rfl (by decide) rfl ?_
  refine g_iconst X (v := 0) dX10_countStaleTiles_2 (by decide) ?_
  refine g_topi (fun v3 e4 => ?_)
  have h := bnd_e e4 h
  refine g_istore_n X (lv' := [(2, .int v3), (1, .int v1), (0, .ref (gad (xz x) 0))]) dX10_countStaleTiles_3 rfl (by decide) rfl ?_
  refine g_lv [2, 1, 0] rfl ?_
  obtain ⟨⟨v17, M18⟩, hl19, h⟩ := bndO_e h
  refine lw_X10_countStaleTiles_4 X  (fun v17_ M18_ e9 => ?_) F v1 v3 M hl19
  cases e9
  refine g_iload_n X (j := 0) dX10_countStaleTiles_42 rfl rfl ?_
  exact hR v17 M18 _ _ (Option.some.inj h).symm dX10_countStaleTiles_43
theorem ct_X10_countStaleTiles {l : Launch} {z : GZ} (htr : l.stackTraces = false)   {M : GM} {F : Nat} {v : Int32} {M1 : GM} (h : f_X10_countStaleTiles F M = some (v, M1)) : gMet l z yX10_countStaleTiles cX10_countStaleTiles 3 (some .int) 3 [.ref (gad z 0)] M (some (.int v)) M1 := gMet_ofI (by decide +kernel) (Nat.le_of_ble_eq_true rfl) htr rfl (fun x X ez el hR => by subst ez; subst el; exact w_X10_countStaleTiles X  (fun v9 M9 lv9 pc9 e9 d9 => by cases e9; exact hR lv9 pc9 d9) h)
theorem gc_X10_286 {x : GX} {cc : ByteArray} {nL d pc : Nat} {M : GM} {lv : List (Nat × Value)} {st : List Value} (X : GC x cc nL RX10 d) {i0 : Nat} {i1 : Nat} {i2 : Int32} {M1 : GM} (ht : gT 0 = 10) (hM : gMet (xl x) (xz x) yX10_draw cX10_draw 5 none 6 [.ref (gad (xz x) 0), .ref (gad (xz x) i0), .ref (gad (xz x) i1), .int i2] M (none) M1) (hd : 7 ≤ d) (hsum : (st.map fun v => v.category).sum ≤ 8) (dec : decode cc pc = .ok (.invokevirtual 286, 3)) (go : WG x M1 lv (pc + 3) (st)) : WG x M lv pc (.int i2 :: .ref (gad (xz x) i1) :: .ref (gad (xz x) i0) :: .ref (gad (xz x) 0) :: st) := g_callV X (n := 3) (As := [.ref (gad (xz x) i0), .ref (gad (xz x) i1), .int i2]) (rest := st) hM ht (by decide) (gE_10 ht) rfl q_443 q_445 q_0 q_52 q_446 (by decide +kernel) rfl hd (by decide) rfl hsum dec go
theorem gc_X10_290 {x : GX} {cc : ByteArray} {nL d pc : Nat} {M : GM} {lv : List (Nat × Value)} {st : List Value} (X : GC x cc nL RX10 d)  {M1 : GM} {r : Int32} (ht : gT 0 = 10) (hM : gMet (xl x) (xz x) yX10_countStaleTiles cX10_countStaleTiles 3 (some .int) 3 [.ref (gad (xz x) 0)] M (some (.int r)) M1) (hd : 4 ≤ d) (hsum : (st.map fun v => v.category).sum ≤ 8) (dec : decode cc pc = .ok (.invokevirtual 290, 3)) (go : WG x M1 lv (pc + 3) (.int r :: st)) : WG x M lv pc (.ref (gad (xz x) 0) :: st) := g_callV X (n := 0) (As := []) (rest := st) hM ht (by decide) (gE_10 ht) rfl q_597 q_599 q_7 q_52 q_600 (by decide +kernel) rfl hd (by decide) rfl hsum dec go
theorem dX10_clear_0 : decode cX10_clear 0 = .ok (.aload_n 0, 1) := by decide +kernel
theorem dX10_clear_1 : decode cX10_clear 1 = .ok (.getfield 44, 3) := by decide +kernel
theorem dX10_clear_4 : decode cX10_clear 4 = .ok (.aload_n 0, 1) := by decide +kernel
theorem dX10_clear_5 : decode cX10_clear 5 = .ok (.getfield 68, 3) := by decide +kernel
theorem dX10_clear_8 : decode cX10_clear 8 = .ok (.aload_n 0, 1) := by decide +kernel
theorem dX10_clear_9 : decode cX10_clear 9 = .ok (.getfield 192, 3) := by decide +kernel
theorem dX10_clear_12 : decode cX10_clear 12 = .ok (.invokevirtual 282, 3) := by decide +kernel
theorem dX10_clear_15 : decode cX10_clear 15 = .ok (.aload_n 0, 1) := by decide +kernel
theorem dX10_clear_16 : decode cX10_clear 16 = .ok (.aload_n 0, 1) := by decide +kernel
theorem dX10_clear_17 : decode cX10_clear 17 = .ok (.getfield 48, 3) := by decide +kernel
theorem dX10_clear_20 : decode cX10_clear 20 = .ok (.aload_n 0, 1) := by decide +kernel
theorem dX10_clear_21 : decode cX10_clear 21 = .ok (.getfield 68, 3) := by decide +kernel
theorem dX10_clear_24 : decode cX10_clear 24 = .ok (.iconst (-1), 1) := by decide +kernel
theorem dX10_clear_25 : decode cX10_clear 25 = .ok (.invokevirtual 286, 3) := by decide +kernel
theorem dX10_clear_28 : decode cX10_clear 28 = .ok (.aload_n 0, 1) := by decide +kernel
theorem dX10_clear_29 : decode cX10_clear 29 = .ok (.invokevirtual 290, 3) := by decide +kernel
theorem dX10_clear_32 : decode cX10_clear 32 = .ok (.ireturn, 1) := by decide +kernel
def f_X10_clear (F : Nat) (M : GM) : Option (Int32 × GM) := bndO (f_X7_blank F 27 42 (gI M 0 14) M) (fun M2 => bndO (f_X10_draw F 31 42 ((-1) : Int32) M2) (fun M4 => bndO (f_X10_countStaleTiles F M4) (fun (v6, M7) => some (v6, M7))))
set_option maxHeartbeats 4000000 in
set_option maxRecDepth 100000 in
theorem w_X10_clear {x : GX} (X : GC x cX10_clear 1 RX10 7)   {F : Nat} {M : GM} {r9 : (Int32 × GM)} (hR : ∀ (v9 : Int32) (M9 : GM) (lv9 : List (Nat × Value)) (pc9 : Nat), r9 = (v9, M9) → decode cX10_clear pc9 = .ok (.ireturn, 1) → WG x M9 lv9 pc9 [.int v9]) (h : f_X10_clear F M = some r9) : WG x M [(0, .ref (gad (xz x) 0))] 0 [] := by
  unfold f_X10_clear at h
  refine g_aload_n X (j := 0) dX10_clear_0 rfl rfl ?_
  refine gf_X10_44 X gT_c0 dX10_clear_1 ?_
  refine g_aload_n X (j := 0) dX10_clear_4 rfl rfl ?_
  refine gf_X10_68 X gT_c0 dX10_clear_5 ?_
  refine g_aload_n X (j := 0) dX10_clear_8 rfl rfl ?_
  refine gf_X10_192 X gT_c0 dX10_clear_9 ?_
  obtain ⟨M2, hc1, h⟩ := bndO_e h
  refine gc_X10_282 X gT_c27 (ct_X7_blank X.htr gT_c27 gT_c42 hc1) (by decide) (Nat.le_of_ble_eq_true rfl) dX10_clear_12 ?_
  refine g_aload_n X (j := 0) dX10_clear_15 rfl rfl ?_
  refine g_aload_n X (j := 0) dX10_clear_16 rfl rfl ?_
  refine gf_X10_48 X gT_c0 dX10_clear_17 ?_
  refine g_aload_n X (j := 0) dX10_clear_20 rfl rfl ?_
  refine gf_X10_68 X gT_c0 dX10_clear_21 ?_
  refine g_iconst X (v := (-1)) dX10_clear_24 (by decide) ?_
  obtain ⟨M4, hc3, h⟩ := bndO_e h
  refine gc_X10_286 X gT_c0 (ct_X10_draw X.htr gT_c31 gT_c42 hc3) (by decide) (Nat.le_of_ble_eq_true rfl) dX10_clear_25 ?_
  refine g_aload_n X (j := 0) dX10_clear_28 rfl rfl ?_
  obtain ⟨⟨v6, M7⟩, hc5, h⟩ := bndO_e h
  refine gc_X10_290 X gT_c0 (ct_X10_countStaleTiles X.htr  hc5) (by decide) (Nat.le_of_ble_eq_true rfl) dX10_clear_29 ?_
  exact hR v6 M7 _ _ (Option.some.inj h).symm dX10_clear_32
theorem ct_X10_clear {l : Launch} {z : GZ} (htr : l.stackTraces = false)   {M : GM} {F : Nat} {v : Int32} {M1 : GM} (h : f_X10_clear F M = some (v, M1)) : gMet l z yX10_clear cX10_clear 1 (some .int) 7 [.ref (gad z 0)] M (some (.int v)) M1 := gMet_ofI (by decide +kernel) (Nat.le_of_ble_eq_true rfl) htr rfl (fun x X ez el hR => by subst ez; subst el; exact w_X10_clear X  (fun v9 M9 lv9 pc9 e9 d9 => by cases e9; exact hR lv9 pc9 d9) h)
theorem gc_X10_293 {x : GX} {cc : ByteArray} {nL d pc : Nat} {M : GM} {lv : List (Nat × Value)} {st : List Value} (X : GC x cc nL RX10 d) {i0 : Nat} {M1 : GM} {g : Nat} (ht : gT g = 7) (hM : gMet (xl x) (xz x) yX7_copy cX7_copy 2 none 1 [.ref (gad (xz x) g), .ref (gad (xz x) i0)] M (none) M1) (hd : 2 ≤ d) (hsum : (st.map fun v => v.category).sum ≤ 8) (dec : decode cc pc = .ok (.invokevirtual 293, 3)) (go : WG x M1 lv (pc + 3) (st)) : WG x M lv pc (.ref (gad (xz x) i0) :: .ref (gad (xz x) g) :: st) := g_callV X (n := 1) (As := [.ref (gad (xz x) i0)]) (rest := st) hM ht (by decide) (gE_7 ht) rfl q_614 q_615 q_616 q_58 q_617 (by decide +kernel) rfl hd (by decide) rfl hsum dec go
theorem dX10_paint_0 : decode cX10_paint 0 = .ok (.aload_n 0, 1) := by decide +kernel
theorem dX10_paint_1 : decode cX10_paint 1 = .ok (.aload_n 0, 1) := by decide +kernel
theorem dX10_paint_2 : decode cX10_paint 2 = .ok (.getfield 48, 3) := by decide +kernel
theorem dX10_paint_5 : decode cX10_paint 5 = .ok (.aload_n 0, 1) := by decide +kernel
theorem dX10_paint_6 : decode cX10_paint 6 = .ok (.getfield 68, 3) := by decide +kernel
theorem dX10_paint_9 : decode cX10_paint 9 = .ok (.iconst (-1), 1) := by decide +kernel
theorem dX10_paint_10 : decode cX10_paint 10 = .ok (.invokevirtual 286, 3) := by decide +kernel
theorem dX10_paint_13 : decode cX10_paint 13 = .ok (.aload_n 0, 1) := by decide +kernel
theorem dX10_paint_14 : decode cX10_paint 14 = .ok (.invokevirtual 290, 3) := by decide +kernel
theorem dX10_paint_17 : decode cX10_paint 17 = .ok (.istore_n 1, 1) := by decide +kernel
theorem dX10_paint_18 : decode cX10_paint 18 = .ok (.aload_n 0, 1) := by decide +kernel
theorem dX10_paint_19 : decode cX10_paint 19 = .ok (.getfield 44, 3) := by decide +kernel
theorem dX10_paint_22 : decode cX10_paint 22 = .ok (.aload_n 0, 1) := by decide +kernel
theorem dX10_paint_23 : decode cX10_paint 23 = .ok (.getfield 48, 3) := by decide +kernel
theorem dX10_paint_26 : decode cX10_paint 26 = .ok (.invokevirtual 293, 3) := by decide +kernel
theorem dX10_paint_29 : decode cX10_paint 29 = .ok (.iload_n 1, 1) := by decide +kernel
theorem dX10_paint_30 : decode cX10_paint 30 = .ok (.ireturn, 1) := by decide +kernel
def f_X10_paint (F : Nat) (M : GM) : Option (Int32 × GM) := bndO (f_X10_draw F 31 42 ((-1) : Int32) M) (fun M2 => bndO (f_X10_countStaleTiles F M2) (fun (v4, M5) => bnd v4 (fun v6 => bndO (f_X7_copy F 27 31 M5) (fun M9 => some (v6, M9)))))
set_option maxHeartbeats 4000000 in
set_option maxRecDepth 100000 in
theorem w_X10_paint {x : GX} (X : GC x cX10_paint 2 RX10 7)   {F : Nat} {M : GM} {r9 : (Int32 × GM)} (hR : ∀ (v9 : Int32) (M9 : GM) (lv9 : List (Nat × Value)) (pc9 : Nat), r9 = (v9, M9) → decode cX10_paint pc9 = .ok (.ireturn, 1) → WG x M9 lv9 pc9 [.int v9]) (h : f_X10_paint F M = some r9) : WG x M [(0, .ref (gad (xz x) 0))] 0 [] := by
  unfold f_X10_paint at h
  refine g_aload_n X (j := 0) dX10_paint_0 rfl rfl ?_
  refine g_aload_n X (j := 0) dX10_paint_1 rfl rfl ?_
  refine gf_X10_48 X gT_c0 dX10_paint_2 ?_
  refine g_aload_n X (j := 0) dX10_paint_5 rfl rfl ?_
  refine gf_X10_68 X gT_c0 dX10_paint_6 ?_
  refine g_iconst X (v := (-1)) dX10_paint_9 (by decide) ?_
  obtain ⟨M2, hc1, h⟩ := bndO_e h
  refine gc_X10_286 X gT_c0 (ct_X10_draw X.htr gT_c31 gT_c42 hc1) (by decide) (Nat.le_of_ble_eq_true rfl) dX10_paint_10 ?_
  refine g_aload_n X (j := 0) dX10_paint_13 rfl rfl ?_
  obtain ⟨⟨v4, M5⟩, hc3, h⟩ := bndO_e h
  refine gc_X10_290 X gT_c0 (ct_X10_countStaleTiles X.htr  hc3) (by decide) (Nat.le_of_ble_eq_true rfl) dX10_paint_14 ?_
  refine g_topi (fun v6 e7 => ?_)
  have h := bnd_e e7 h
  refine g_istore_n X (lv' := [(1, .int v6), (0, .ref (gad (xz x) 0))]) dX10_paint_17 rfl (by decide) rfl ?_
  refine g_aload_n X (j := 1) dX10_paint_18 rfl rfl ?_
  refine gf_X10_44 X gT_c0 dX10_paint_19 ?_
  refine g_aload_n X (j := 1) dX10_paint_22 rfl rfl ?_
  refine gf_X10_48 X gT_c0 dX10_paint_23 ?_
  obtain ⟨M9, hc8, h⟩ := bndO_e h
  refine gc_X10_293 X gT_c27 (ct_X7_copy X.htr gT_c27 gT_c31 hc8) (by decide) (Nat.le_of_ble_eq_true rfl) dX10_paint_26 ?_
  refine g_iload_n X (j := 0) dX10_paint_29 rfl rfl ?_
  exact hR v6 M9 _ _ (Option.some.inj h).symm dX10_paint_30
theorem ct_X10_paint {l : Launch} {z : GZ} (htr : l.stackTraces = false)   {M : GM} {F : Nat} {v : Int32} {M1 : GM} (h : f_X10_paint F M = some (v, M1)) : gMet l z yX10_paint cX10_paint 2 (some .int) 7 [.ref (gad z 0)] M (some (.int v)) M1 := gMet_ofI (by decide +kernel) (Nat.le_of_ble_eq_true rfl) htr rfl (fun x X ez el hR => by subst ez; subst el; exact w_X10_paint X  (fun v9 M9 lv9 pc9 e9 d9 => by cases e9; exact hR lv9 pc9 d9) h)
theorem dX10_stale_0 : decode cX10_stale 0 = .ok (.aload_n 0, 1) := by decide +kernel
theorem dX10_stale_1 : decode cX10_stale 1 = .ok (.aload_n 0, 1) := by decide +kernel
theorem dX10_stale_2 : decode cX10_stale 2 = .ok (.getfield 48, 3) := by decide +kernel
theorem dX10_stale_5 : decode cX10_stale 5 = .ok (.aload_n 0, 1) := by decide +kernel
theorem dX10_stale_6 : decode cX10_stale 6 = .ok (.getfield 68, 3) := by decide +kernel
theorem dX10_stale_9 : decode cX10_stale 9 = .ok (.iconst (-1), 1) := by decide +kernel
theorem dX10_stale_10 : decode cX10_stale 10 = .ok (.invokevirtual 286, 3) := by decide +kernel
theorem dX10_stale_13 : decode cX10_stale 13 = .ok (.aload_n 0, 1) := by decide +kernel
theorem dX10_stale_14 : decode cX10_stale 14 = .ok (.invokevirtual 290, 3) := by decide +kernel
theorem dX10_stale_17 : decode cX10_stale 17 = .ok (.ireturn, 1) := by decide +kernel
def f_X10_stale (F : Nat) (M : GM) : Option (Int32 × GM) := bndO (f_X10_draw F 31 42 ((-1) : Int32) M) (fun M2 => bndO (f_X10_countStaleTiles F M2) (fun (v4, M5) => some (v4, M5)))
set_option maxHeartbeats 4000000 in
set_option maxRecDepth 100000 in
theorem w_X10_stale {x : GX} (X : GC x cX10_stale 1 RX10 7)   {F : Nat} {M : GM} {r9 : (Int32 × GM)} (hR : ∀ (v9 : Int32) (M9 : GM) (lv9 : List (Nat × Value)) (pc9 : Nat), r9 = (v9, M9) → decode cX10_stale pc9 = .ok (.ireturn, 1) → WG x M9 lv9 pc9 [.int v9]) (h : f_X10_stale F M = some r9) : WG x M [(0, .ref (gad (xz x) 0))] 0 [] := by
  unfold f_X10_stale at h
  refine g_aload_n X (j := 0) dX10_stale_0 rfl rfl ?_
  refine g_aload_n X (j := 0) dX10_stale_1 rfl rfl ?_
  refine gf_X10_48 X gT_c0 dX10_stale_2 ?_
  refine g_aload_n X (j := 0) dX10_stale_5 rfl rfl ?_
  refine gf_X10_68 X gT_c0 dX10_stale_6 ?_
  refine g_iconst X (v := (-1)) dX10_stale_9 (by decide) ?_
  obtain ⟨M2, hc1, h⟩ := bndO_e h
  refine gc_X10_286 X gT_c0 (ct_X10_draw X.htr gT_c31 gT_c42 hc1) (by decide) (Nat.le_of_ble_eq_true rfl) dX10_stale_10 ?_
  refine g_aload_n X (j := 0) dX10_stale_13 rfl rfl ?_
  obtain ⟨⟨v4, M5⟩, hc3, h⟩ := bndO_e h
  refine gc_X10_290 X gT_c0 (ct_X10_countStaleTiles X.htr  hc3) (by decide) (Nat.le_of_ble_eq_true rfl) dX10_stale_14 ?_
  exact hR v4 M5 _ _ (Option.some.inj h).symm dX10_stale_17
theorem ct_X10_stale {l : Launch} {z : GZ} (htr : l.stackTraces = false)   {M : GM} {F : Nat} {v : Int32} {M1 : GM} (h : f_X10_stale F M = some (v, M1)) : gMet l z yX10_stale cX10_stale 1 (some .int) 7 [.ref (gad z 0)] M (some (.int v)) M1 := gMet_ofI (by decide +kernel) (Nat.le_of_ble_eq_true rfl) htr rfl (fun x X ez el hR => by subst ez; subst el; exact w_X10_stale X  (fun v9 M9 lv9 pc9 e9 d9 => by cases e9; exact hR lv9 pc9 d9) h)
theorem dX10_isStale_0 : decode cX10_isStale 0 = .ok (.iload_n 1, 1) := by decide +kernel
theorem dX10_isStale_1 : decode cX10_isStale 1 = .ok (.iconst 0, 1) := by decide +kernel
theorem dX10_isStale_2 : decode cX10_isStale 2 = .ok (.bipush 14, 2) := by decide +kernel
theorem dX10_isStale_4 : decode cX10_isStale 4 = .ok (.invokestatic 86, 3) := by decide +kernel
theorem dX10_isStale_7 : decode cX10_isStale 7 = .ok (.ifCond .ne 14, 3) := by decide +kernel
theorem dX10_isStale_10 : decode cX10_isStale 10 = .ok (.new 156, 3) := by decide +kernel
theorem dX10_isStale_13 : decode cX10_isStale 13 = .ok (.dup, 1) := by decide +kernel
theorem dX10_isStale_14 : decode cX10_isStale 14 = .ok (.ldc_w 297, 3) := by decide +kernel
theorem dX10_isStale_17 : decode cX10_isStale 17 = .ok (.invokespecial 160, 3) := by decide +kernel
theorem dX10_isStale_20 : decode cX10_isStale 20 = .ok (.athrow, 1) := by decide +kernel
theorem dX10_isStale_21 : decode cX10_isStale 21 = .ok (.aload_n 0, 1) := by decide +kernel
theorem dX10_isStale_22 : decode cX10_isStale 22 = .ok (.iload_n 1, 1) := by decide +kernel
theorem dX10_isStale_23 : decode cX10_isStale 23 = .ok (.invokevirtual 299, 3) := by decide +kernel
theorem dX10_isStale_26 : decode cX10_isStale 26 = .ok (.aload_n 0, 1) := by decide +kernel
theorem dX10_isStale_27 : decode cX10_isStale 27 = .ok (.aload_n 0, 1) := by decide +kernel
theorem dX10_isStale_28 : decode cX10_isStale 28 = .ok (.getfield 48, 3) := by decide +kernel
theorem dX10_isStale_31 : decode cX10_isStale 31 = .ok (.aload_n 0, 1) := by decide +kernel
theorem dX10_isStale_32 : decode cX10_isStale 32 = .ok (.getfield 72, 3) := by decide +kernel
theorem dX10_isStale_35 : decode cX10_isStale 35 = .ok (.iconst (-1), 1) := by decide +kernel
theorem dX10_isStale_36 : decode cX10_isStale 36 = .ok (.invokevirtual 286, 3) := by decide +kernel
theorem dX10_isStale_39 : decode cX10_isStale 39 = .ok (.aload_n 0, 1) := by decide +kernel
theorem dX10_isStale_40 : decode cX10_isStale 40 = .ok (.getfield 48, 3) := by decide +kernel
theorem dX10_isStale_43 : decode cX10_isStale 43 = .ok (.aload_n 0, 1) := by decide +kernel
theorem dX10_isStale_44 : decode cX10_isStale 44 = .ok (.getfield 44, 3) := by decide +kernel
theorem dX10_isStale_47 : decode cX10_isStale 47 = .ok (.aload_n 0, 1) := by decide +kernel
theorem dX10_isStale_48 : decode cX10_isStale 48 = .ok (.getfield 72, 3) := by decide +kernel
theorem dX10_isStale_51 : decode cX10_isStale 51 = .ok (.invokevirtual 302, 3) := by decide +kernel
theorem dX10_isStale_54 : decode cX10_isStale 54 = .ok (.ireturn, 1) := by decide +kernel
def f_X10_isStale (F : Nat) (i0 : Int32) (M : GM) : Option ((Nat × GM) ⊕ (Int32 × GM)) := if (f_X10_isWithin i0 (0 : Int32) (14 : Int32)) = 0 then (some (Sum.inl (3, M))) else (bnd (f_X10_spanTile i0 M) (fun M1 => bndO (f_X10_draw F 31 43 ((-1) : Int32) M1) (fun M4 => bndO (f_X7_differsFrom F 31 27 43 M4) (fun v6 => grd (gTf v6) (some (Sum.inr (v6, M4)))))))
set_option maxHeartbeats 4000000 in
set_option maxRecDepth 100000 in
theorem w_X10_isStale {x : GX} (X : GC x cX10_isStale 2 RX10 7) {i0 : Int32}  {F : Nat} {M : GM} {r9 : ((Nat × GM) ⊕ (Int32 × GM))} (hR : ∀ (v9 : Int32) (M9 : GM) (lv9 : List (Nat × Value)) (pc9 : Nat), r9 = Sum.inr (v9, M9) → (v9 = 0 ∨ v9 = 1) → decode cX10_isStale pc9 = .ok (.ireturn, 1) → WG x M9 lv9 pc9 [.int v9]) (hX : ∀ (n9 : Nat) (M9 : GM), r9 = Sum.inl (n9, M9) → GThr x n9 M9) (h : f_X10_isStale F i0 M = some r9) : WG x M [(0, .ref (gad (xz x) 0)), (1, .int i0)] 0 [] := by
  unfold f_X10_isStale at h
  refine g_iload_n X (j := 1) dX10_isStale_0 rfl rfl ?_
  refine g_iconst X (v := 0) dX10_isStale_1 (by decide) ?_
  refine g_bipush X (v := 14) dX10_isStale_2 (by decide) ?_
  refine gc_X10_86 X (ct_X10_isWithin X.htr ) (by decide) (Nat.le_of_ble_eq_true rfl) dX10_isStale_4 ?_
  refine g_if_ne X (tgt := 21) dX10_isStale_7 (by decide) (fun hb => ?_) (fun hb => ?_)
  · have h := ite_f hb h
    refine g_aload_n X (j := 0) dX10_isStale_21 rfl rfl ?_
    refine g_iload_n X (j := 1) dX10_isStale_22 rfl rfl ?_
    refine gc_X10_299 X gT_c0 (ct_X10_spanTile X.htr ) (by decide) (Nat.le_of_ble_eq_true rfl) dX10_isStale_23 ?_
    refine g_mem (fun M1 e2 => ?_)
    have h := bnd_e e2 h
    refine g_aload_n X (j := 0) dX10_isStale_26 rfl rfl ?_
    refine g_aload_n X (j := 0) dX10_isStale_27 rfl rfl ?_
    refine gf_X10_48 X gT_c0 dX10_isStale_28 ?_
    refine g_aload_n X (j := 0) dX10_isStale_31 rfl rfl ?_
    refine gf_X10_72 X gT_c0 dX10_isStale_32 ?_
    refine g_iconst X (v := (-1)) dX10_isStale_35 (by decide) ?_
    obtain ⟨M4, hc3, h⟩ := bndO_e h
    refine gc_X10_286 X gT_c0 (ct_X10_draw X.htr gT_c31 gT_c43 hc3) (by decide) (Nat.le_of_ble_eq_true rfl) dX10_isStale_36 ?_
    refine g_aload_n X (j := 0) dX10_isStale_39 rfl rfl ?_
    refine gf_X10_48 X gT_c0 dX10_isStale_40 ?_
    refine g_aload_n X (j := 0) dX10_isStale_43 rfl rfl ?_
    refine gf_X10_44 X gT_c0 dX10_isStale_44 ?_
    refine g_aload_n X (j := 0) dX10_isStale_47 rfl rfl ?_
    refine gf_X10_72 X gT_c0 dX10_isStale_48 ?_
    obtain ⟨v6, hc5, h⟩ := bndO_e h
    refine gc_X10_302 X gT_c31 (ct_X7_differsFrom X.htr gT_c31 gT_c27 gT_c43 hc5) (by decide) (Nat.le_of_ble_eq_true rfl) dX10_isStale_51 ?_
    obtain ⟨hg7, h⟩ := grd_e h
    exact hR v6 M4 _ _ (Option.some.inj h).symm (gTf_of hg7) dX10_isStale_54
  · have h := ite_t hb h
    exact gthr_3 X (by decide) (List.mem_of_getElem? (i := 21) rfl) (Nat.le_of_ble_eq_true rfl) dX10_isStale_10 dX10_isStale_13 (Or.inr ⟨dX10_isStale_14, dX10_isStale_17, dX10_isStale_20⟩) (hX 3 M (Option.some.inj h).symm)
theorem ct_X10_isStale {l : Launch} {z : GZ} (htr : l.stackTraces = false) {i0 : Int32}  {M : GM} {F : Nat} {v : Int32} {M1 : GM} (h : f_X10_isStale F i0 M = some (Sum.inr (v, M1))) : gMet l z yX10_isStale cX10_isStale 2 (some .boolean) 7 [.ref (gad z 0), .int i0] M (some (.int v)) M1 := gMet_ofZ (by decide +kernel) (Nat.le_of_ble_eq_true rfl) htr (fun x X ez el hR => by subst ez; subst el; exact w_X10_isStale X  (fun v9 M9 lv9 pc9 e9 z9 d9 => by cases e9; exact hR lv9 pc9 z9 d9) (by intros; rename_i e9; cases e9) h)
theorem cx_X10_isStale {l : Launch} {z : GZ} (htr : l.stackTraces = false) {i0 : Int32}  {M : GM} {F n : Nat} {M1 : GM} (h : f_X10_isStale F i0 M = some (Sum.inl (n, M1))) : gMetX l z yX10_isStale cX10_isStale 2 (some .boolean) 7 [.ref (gad z 0), .int i0] M n M1 := gMetX_of (by decide +kernel) (Nat.le_of_ble_eq_true rfl) htr (fun x X ez el hT => by subst ez; subst el; exact w_X10_isStale X  (by intros; rename_i e9 _ _; cases e9) (fun n9 M9 e9 => by cases e9; exact hT) h)
theorem dX10_colourAt_0 : decode cX10_colourAt 0 = .ok (.iload_n 1, 1) := by decide +kernel
theorem dX10_colourAt_1 : decode cX10_colourAt 1 = .ok (.iload_n 2, 1) := by decide +kernel
theorem dX10_colourAt_2 : decode cX10_colourAt 2 = .ok (.invokestatic 271, 3) := by decide +kernel
theorem dX10_colourAt_5 : decode cX10_colourAt 5 = .ok (.aload_n 0, 1) := by decide +kernel
theorem dX10_colourAt_6 : decode cX10_colourAt 6 = .ok (.getfield 44, 3) := by decide +kernel
theorem dX10_colourAt_9 : decode cX10_colourAt 9 = .ok (.getfield 306, 3) := by decide +kernel
theorem dX10_colourAt_12 : decode cX10_colourAt 12 = .ok (.iload_n 2, 1) := by decide +kernel
theorem dX10_colourAt_13 : decode cX10_colourAt 13 = .ok (.bipush 40, 2) := by decide +kernel
theorem dX10_colourAt_15 : decode cX10_colourAt 15 = .ok (.imul, 1) := by decide +kernel
theorem dX10_colourAt_16 : decode cX10_colourAt 16 = .ok (.iload_n 1, 1) := by decide +kernel
theorem dX10_colourAt_17 : decode cX10_colourAt 17 = .ok (.iadd, 1) := by decide +kernel
theorem dX10_colourAt_18 : decode cX10_colourAt 18 = .ok (.iaload, 1) := by decide +kernel
theorem dX10_colourAt_19 : decode cX10_colourAt 19 = .ok (.ireturn, 1) := by decide +kernel
def f_X10_colourAt (F : Nat) (i0 : Int32) (i1 : Int32) (M : GM) : Option (Nat ⊕ Int32) := bndT (f_X10_requirePoint F i0 i1 M) (fun n2 => some (Sum.inl n2)) (fun _ => grd (gIn ((i1 * (40 : Int32)) + i0) (gN 28)) (some (Sum.inr (gI M 28 (((i1 * (40 : Int32)) + i0).toNatClampNeg)))))
set_option maxHeartbeats 4000000 in
set_option maxRecDepth 100000 in
theorem w_X10_colourAt {x : GX} (X : GC x cX10_colourAt 3 RX10 7) {i0 : Int32} {i1 : Int32}  {F : Nat} {M : GM} {r9 : (Nat ⊕ Int32)} (hR : ∀ (v9 : Int32) (lv9 : List (Nat × Value)) (pc9 : Nat), r9 = Sum.inr v9 → decode cX10_colourAt pc9 = .ok (.ireturn, 1) → WG x M lv9 pc9 [.int v9]) (hX : ∀ (n9 : Nat), r9 = Sum.inl n9 → GThr x n9 M) (h : f_X10_colourAt F i0 i1 M = some r9) : WG x M [(0, .ref (gad (xz x) 0)), (1, .int i0), (2, .int i1)] 0 [] := by
  unfold f_X10_colourAt at h
  refine g_iload_n X (j := 1) dX10_colourAt_0 rfl rfl ?_
  refine g_iload_n X (j := 2) dX10_colourAt_1 rfl rfl ?_
  rcases bndT_e h with ⟨n2, hc1, h⟩ | ⟨⟨⟩, hc1, h⟩
  · exact gx_X10_271 X (cx_X10_requirePoint X.htr  hc1) (by decide) (Nat.le_of_ble_eq_true rfl) dX10_colourAt_2 (hX n2 (Option.some.inj h).symm)
  refine gc_X10_271 X (ct_X10_requirePoint X.htr  hc1) (by decide) (Nat.le_of_ble_eq_true rfl) dX10_colourAt_2 ?_
  refine g_aload_n X (j := 0) dX10_colourAt_5 rfl rfl ?_
  refine gf_X10_44 X gT_c0 dX10_colourAt_6 ?_
  refine gf_X10_306 X gT_c27 dX10_colourAt_9 ?_
  refine g_iload_n X (j := 2) dX10_colourAt_12 rfl rfl ?_
  refine g_bipush X (v := 40) dX10_colourAt_13 (by decide) ?_
  refine g_imul X dX10_colourAt_15 ?_
  refine g_iload_n X (j := 1) dX10_colourAt_16 rfl rfl ?_
  refine g_iadd X dX10_colourAt_17 ?_
  obtain ⟨hg3, h⟩ := grd_e h
  refine g_iald X gT_c28 hg3 dX10_colourAt_18 ?_
  exact hR (gI M 28 (((i1 * (40 : Int32)) + i0).toNatClampNeg)) _ _ (Option.some.inj h).symm dX10_colourAt_19
theorem ct_X10_colourAt {l : Launch} {z : GZ} (htr : l.stackTraces = false) {i0 : Int32} {i1 : Int32}  {M : GM} {F : Nat} {v : Int32} (h : f_X10_colourAt F i0 i1 M = some (Sum.inr v)) : gMet l z yX10_colourAt cX10_colourAt 3 (some .int) 7 [.ref (gad z 0), .int i0, .int i1] M (some (.int v)) M := gMet_ofI (by decide +kernel) (Nat.le_of_ble_eq_true rfl) htr rfl (fun x X ez el hR => by subst ez; subst el; exact w_X10_colourAt X  (fun v9 lv9 pc9 e9 d9 => by cases e9; exact hR lv9 pc9 d9) (by intros; rename_i e9; cases e9) h)
theorem cx_X10_colourAt {l : Launch} {z : GZ} (htr : l.stackTraces = false) {i0 : Int32} {i1 : Int32}  {M : GM} {F n : Nat} (h : f_X10_colourAt F i0 i1 M = some (Sum.inl n)) : gMetX l z yX10_colourAt cX10_colourAt 3 (some .int) 7 [.ref (gad z 0), .int i0, .int i1] M n M := gMetX_of (by decide +kernel) (Nat.le_of_ble_eq_true rfl) htr (fun x X ez el hT => by subst ez; subst el; exact w_X10_colourAt X  (by intros; rename_i e9 _; cases e9) (fun n9 e9 => by cases e9; exact hT) h)
theorem dX10_depthAt_0 : decode cX10_depthAt 0 = .ok (.iload_n 1, 1) := by decide +kernel
theorem dX10_depthAt_1 : decode cX10_depthAt 1 = .ok (.iload_n 2, 1) := by decide +kernel
theorem dX10_depthAt_2 : decode cX10_depthAt 2 = .ok (.invokestatic 271, 3) := by decide +kernel
theorem dX10_depthAt_5 : decode cX10_depthAt 5 = .ok (.aload_n 0, 1) := by decide +kernel
theorem dX10_depthAt_6 : decode cX10_depthAt 6 = .ok (.getfield 44, 3) := by decide +kernel
theorem dX10_depthAt_9 : decode cX10_depthAt 9 = .ok (.getfield 309, 3) := by decide +kernel
theorem dX10_depthAt_12 : decode cX10_depthAt 12 = .ok (.iload_n 2, 1) := by decide +kernel
theorem dX10_depthAt_13 : decode cX10_depthAt 13 = .ok (.bipush 40, 2) := by decide +kernel
theorem dX10_depthAt_15 : decode cX10_depthAt 15 = .ok (.imul, 1) := by decide +kernel
theorem dX10_depthAt_16 : decode cX10_depthAt 16 = .ok (.iload_n 1, 1) := by decide +kernel
theorem dX10_depthAt_17 : decode cX10_depthAt 17 = .ok (.iadd, 1) := by decide +kernel
theorem dX10_depthAt_18 : decode cX10_depthAt 18 = .ok (.iaload, 1) := by decide +kernel
theorem dX10_depthAt_19 : decode cX10_depthAt 19 = .ok (.ireturn, 1) := by decide +kernel
def f_X10_depthAt (F : Nat) (i0 : Int32) (i1 : Int32) (M : GM) : Option (Nat ⊕ Int32) := bndT (f_X10_requirePoint F i0 i1 M) (fun n2 => some (Sum.inl n2)) (fun _ => grd (gIn ((i1 * (40 : Int32)) + i0) (gN 29)) (some (Sum.inr (gI M 29 (((i1 * (40 : Int32)) + i0).toNatClampNeg)))))
set_option maxHeartbeats 4000000 in
set_option maxRecDepth 100000 in
theorem w_X10_depthAt {x : GX} (X : GC x cX10_depthAt 3 RX10 7) {i0 : Int32} {i1 : Int32}  {F : Nat} {M : GM} {r9 : (Nat ⊕ Int32)} (hR : ∀ (v9 : Int32) (lv9 : List (Nat × Value)) (pc9 : Nat), r9 = Sum.inr v9 → decode cX10_depthAt pc9 = .ok (.ireturn, 1) → WG x M lv9 pc9 [.int v9]) (hX : ∀ (n9 : Nat), r9 = Sum.inl n9 → GThr x n9 M) (h : f_X10_depthAt F i0 i1 M = some r9) : WG x M [(0, .ref (gad (xz x) 0)), (1, .int i0), (2, .int i1)] 0 [] := by
  unfold f_X10_depthAt at h
  refine g_iload_n X (j := 1) dX10_depthAt_0 rfl rfl ?_
  refine g_iload_n X (j := 2) dX10_depthAt_1 rfl rfl ?_
  rcases bndT_e h with ⟨n2, hc1, h⟩ | ⟨⟨⟩, hc1, h⟩
  · exact gx_X10_271 X (cx_X10_requirePoint X.htr  hc1) (by decide) (Nat.le_of_ble_eq_true rfl) dX10_depthAt_2 (hX n2 (Option.some.inj h).symm)
  refine gc_X10_271 X (ct_X10_requirePoint X.htr  hc1) (by decide) (Nat.le_of_ble_eq_true rfl) dX10_depthAt_2 ?_
  refine g_aload_n X (j := 0) dX10_depthAt_5 rfl rfl ?_
  refine gf_X10_44 X gT_c0 dX10_depthAt_6 ?_
  refine gf_X10_309 X gT_c27 dX10_depthAt_9 ?_
  refine g_iload_n X (j := 2) dX10_depthAt_12 rfl rfl ?_
  refine g_bipush X (v := 40) dX10_depthAt_13 (by decide) ?_
  refine g_imul X dX10_depthAt_15 ?_
  refine g_iload_n X (j := 1) dX10_depthAt_16 rfl rfl ?_
  refine g_iadd X dX10_depthAt_17 ?_
  obtain ⟨hg3, h⟩ := grd_e h
  refine g_iald X gT_c29 hg3 dX10_depthAt_18 ?_
  exact hR (gI M 29 (((i1 * (40 : Int32)) + i0).toNatClampNeg)) _ _ (Option.some.inj h).symm dX10_depthAt_19
theorem ct_X10_depthAt {l : Launch} {z : GZ} (htr : l.stackTraces = false) {i0 : Int32} {i1 : Int32}  {M : GM} {F : Nat} {v : Int32} (h : f_X10_depthAt F i0 i1 M = some (Sum.inr v)) : gMet l z yX10_depthAt cX10_depthAt 3 (some .int) 7 [.ref (gad z 0), .int i0, .int i1] M (some (.int v)) M := gMet_ofI (by decide +kernel) (Nat.le_of_ble_eq_true rfl) htr rfl (fun x X ez el hR => by subst ez; subst el; exact w_X10_depthAt X  (fun v9 lv9 pc9 e9 d9 => by cases e9; exact hR lv9 pc9 d9) (by intros; rename_i e9; cases e9) h)
theorem cx_X10_depthAt {l : Launch} {z : GZ} (htr : l.stackTraces = false) {i0 : Int32} {i1 : Int32}  {M : GM} {F n : Nat} (h : f_X10_depthAt F i0 i1 M = some (Sum.inl n)) : gMetX l z yX10_depthAt cX10_depthAt 3 (some .int) 7 [.ref (gad z 0), .int i0, .int i1] M n M := gMetX_of (by decide +kernel) (Nat.le_of_ble_eq_true rfl) htr (fun x X ez el hT => by subst ez; subst el; exact w_X10_depthAt X  (by intros; rename_i e9 _; cases e9) (fun n9 e9 => by cases e9; exact hT) h)
theorem dX10_paneAt_0 : decode cX10_paneAt 0 = .ok (.iload_n 1, 1) := by decide +kernel
theorem dX10_paneAt_1 : decode cX10_paneAt 1 = .ok (.iload_n 2, 1) := by decide +kernel
theorem dX10_paneAt_2 : decode cX10_paneAt 2 = .ok (.invokestatic 271, 3) := by decide +kernel
theorem dX10_paneAt_5 : decode cX10_paneAt 5 = .ok (.aload_n 0, 1) := by decide +kernel
theorem dX10_paneAt_6 : decode cX10_paneAt 6 = .ok (.getfield 44, 3) := by decide +kernel
theorem dX10_paneAt_9 : decode cX10_paneAt 9 = .ok (.getfield 312, 3) := by decide +kernel
theorem dX10_paneAt_12 : decode cX10_paneAt 12 = .ok (.iload_n 2, 1) := by decide +kernel
theorem dX10_paneAt_13 : decode cX10_paneAt 13 = .ok (.bipush 40, 2) := by decide +kernel
theorem dX10_paneAt_15 : decode cX10_paneAt 15 = .ok (.imul, 1) := by decide +kernel
theorem dX10_paneAt_16 : decode cX10_paneAt 16 = .ok (.iload_n 1, 1) := by decide +kernel
theorem dX10_paneAt_17 : decode cX10_paneAt 17 = .ok (.iadd, 1) := by decide +kernel
theorem dX10_paneAt_18 : decode cX10_paneAt 18 = .ok (.iaload, 1) := by decide +kernel
theorem dX10_paneAt_19 : decode cX10_paneAt 19 = .ok (.ireturn, 1) := by decide +kernel
def f_X10_paneAt (F : Nat) (i0 : Int32) (i1 : Int32) (M : GM) : Option (Nat ⊕ Int32) := bndT (f_X10_requirePoint F i0 i1 M) (fun n2 => some (Sum.inl n2)) (fun _ => grd (gIn ((i1 * (40 : Int32)) + i0) (gN 30)) (some (Sum.inr (gI M 30 (((i1 * (40 : Int32)) + i0).toNatClampNeg)))))
set_option maxHeartbeats 4000000 in
set_option maxRecDepth 100000 in
theorem w_X10_paneAt {x : GX} (X : GC x cX10_paneAt 3 RX10 7) {i0 : Int32} {i1 : Int32}  {F : Nat} {M : GM} {r9 : (Nat ⊕ Int32)} (hR : ∀ (v9 : Int32) (lv9 : List (Nat × Value)) (pc9 : Nat), r9 = Sum.inr v9 → decode cX10_paneAt pc9 = .ok (.ireturn, 1) → WG x M lv9 pc9 [.int v9]) (hX : ∀ (n9 : Nat), r9 = Sum.inl n9 → GThr x n9 M) (h : f_X10_paneAt F i0 i1 M = some r9) : WG x M [(0, .ref (gad (xz x) 0)), (1, .int i0), (2, .int i1)] 0 [] := by
  unfold f_X10_paneAt at h
  refine g_iload_n X (j := 1) dX10_paneAt_0 rfl rfl ?_
  refine g_iload_n X (j := 2) dX10_paneAt_1 rfl rfl ?_
  rcases bndT_e h with ⟨n2, hc1, h⟩ | ⟨⟨⟩, hc1, h⟩
  · exact gx_X10_271 X (cx_X10_requirePoint X.htr  hc1) (by decide) (Nat.le_of_ble_eq_true rfl) dX10_paneAt_2 (hX n2 (Option.some.inj h).symm)
  refine gc_X10_271 X (ct_X10_requirePoint X.htr  hc1) (by decide) (Nat.le_of_ble_eq_true rfl) dX10_paneAt_2 ?_
  refine g_aload_n X (j := 0) dX10_paneAt_5 rfl rfl ?_
  refine gf_X10_44 X gT_c0 dX10_paneAt_6 ?_
  refine gf_X10_312 X gT_c27 dX10_paneAt_9 ?_
  refine g_iload_n X (j := 2) dX10_paneAt_12 rfl rfl ?_
  refine g_bipush X (v := 40) dX10_paneAt_13 (by decide) ?_
  refine g_imul X dX10_paneAt_15 ?_
  refine g_iload_n X (j := 1) dX10_paneAt_16 rfl rfl ?_
  refine g_iadd X dX10_paneAt_17 ?_
  obtain ⟨hg3, h⟩ := grd_e h
  refine g_iald X gT_c30 hg3 dX10_paneAt_18 ?_
  exact hR (gI M 30 (((i1 * (40 : Int32)) + i0).toNatClampNeg)) _ _ (Option.some.inj h).symm dX10_paneAt_19
theorem ct_X10_paneAt {l : Launch} {z : GZ} (htr : l.stackTraces = false) {i0 : Int32} {i1 : Int32}  {M : GM} {F : Nat} {v : Int32} (h : f_X10_paneAt F i0 i1 M = some (Sum.inr v)) : gMet l z yX10_paneAt cX10_paneAt 3 (some .int) 7 [.ref (gad z 0), .int i0, .int i1] M (some (.int v)) M := gMet_ofI (by decide +kernel) (Nat.le_of_ble_eq_true rfl) htr rfl (fun x X ez el hR => by subst ez; subst el; exact w_X10_paneAt X  (fun v9 lv9 pc9 e9 d9 => by cases e9; exact hR lv9 pc9 d9) (by intros; rename_i e9; cases e9) h)
theorem cx_X10_paneAt {l : Launch} {z : GZ} (htr : l.stackTraces = false) {i0 : Int32} {i1 : Int32}  {M : GM} {F n : Nat} (h : f_X10_paneAt F i0 i1 M = some (Sum.inl n)) : gMetX l z yX10_paneAt cX10_paneAt 3 (some .int) 7 [.ref (gad z 0), .int i0, .int i1] M n M := gMetX_of (by decide +kernel) (Nat.le_of_ble_eq_true rfl) htr (fun x X ez el hT => by subst ez; subst el; exact w_X10_paneAt X  (by intros; rename_i e9 _; cases e9) (fun n9 e9 => by cases e9; exact hT) h)
theorem dX10_pointsWith_0 : decode cX10_pointsWith 0 = .ok (.aload_n 0, 1) := by decide +kernel
theorem dX10_pointsWith_1 : decode cX10_pointsWith 1 = .ok (.iload_n 1, 1) := by decide +kernel
theorem dX10_pointsWith_2 : decode cX10_pointsWith 2 = .ok (.invokevirtual 150, 3) := by decide +kernel
theorem dX10_pointsWith_5 : decode cX10_pointsWith 5 = .ok (.iconst 0, 1) := by decide +kernel
theorem dX10_pointsWith_6 : decode cX10_pointsWith 6 = .ok (.istore_n 2, 1) := by decide +kernel
theorem dX10_pointsWith_7 : decode cX10_pointsWith 7 = .ok (.aload_n 0, 1) := by decide +kernel
theorem dX10_pointsWith_8 : decode cX10_pointsWith 8 = .ok (.getfield 44, 3) := by decide +kernel
theorem dX10_pointsWith_11 : decode cX10_pointsWith 11 = .ok (.getfield 312, 3) := by decide +kernel
theorem dX10_pointsWith_14 : decode cX10_pointsWith 14 = .ok (.astore_n 3, 1) := by decide +kernel
theorem dX10_pointsWith_15 : decode cX10_pointsWith 15 = .ok (.aload_n 3, 1) := by decide +kernel
theorem dX10_pointsWith_16 : decode cX10_pointsWith 16 = .ok (.arraylength, 1) := by decide +kernel
theorem dX10_pointsWith_17 : decode cX10_pointsWith 17 = .ok (.istore 4, 2) := by decide +kernel
theorem dX10_pointsWith_19 : decode cX10_pointsWith 19 = .ok (.iconst 0, 1) := by decide +kernel
theorem dX10_pointsWith_20 : decode cX10_pointsWith 20 = .ok (.istore 5, 2) := by decide +kernel
theorem dX10_pointsWith_22 : decode cX10_pointsWith 22 = .ok (.iload 5, 2) := by decide +kernel
theorem dX10_pointsWith_24 : decode cX10_pointsWith 24 = .ok (.iload 4, 2) := by decide +kernel
theorem dX10_pointsWith_26 : decode cX10_pointsWith 26 = .ok (.if_icmp .ge 24, 3) := by decide +kernel
theorem dX10_pointsWith_29 : decode cX10_pointsWith 29 = .ok (.aload_n 3, 1) := by decide +kernel
theorem dX10_pointsWith_30 : decode cX10_pointsWith 30 = .ok (.iload 5, 2) := by decide +kernel
theorem dX10_pointsWith_32 : decode cX10_pointsWith 32 = .ok (.iaload, 1) := by decide +kernel
theorem dX10_pointsWith_33 : decode cX10_pointsWith 33 = .ok (.istore 6, 2) := by decide +kernel
theorem dX10_pointsWith_35 : decode cX10_pointsWith 35 = .ok (.iload 6, 2) := by decide +kernel
theorem dX10_pointsWith_37 : decode cX10_pointsWith 37 = .ok (.iload_n 1, 1) := by decide +kernel
theorem dX10_pointsWith_38 : decode cX10_pointsWith 38 = .ok (.if_icmp .ne 6, 3) := by decide +kernel
theorem dX10_pointsWith_41 : decode cX10_pointsWith 41 = .ok (.iinc 2 1, 3) := by decide +kernel
theorem dX10_pointsWith_44 : decode cX10_pointsWith 44 = .ok (.iinc 5 1, 3) := by decide +kernel
theorem dX10_pointsWith_47 : decode cX10_pointsWith 47 = .ok (.goto (-25), 3) := by decide +kernel
theorem dX10_pointsWith_50 : decode cX10_pointsWith 50 = .ok (.iload_n 2, 1) := by decide +kernel
theorem dX10_pointsWith_51 : decode cX10_pointsWith 51 = .ok (.ireturn, 1) := by decide +kernel
def st_X10_pointsWith_22 (F : Nat) (a9 : Int32) (a11 : Int32) (rec : Int32 → Int32 → Option Int32) (a10 : Int32) (a12 : Int32) (M : GM) : Option Int32 := if a11 ≤ a12 then (some a10) else (grd (gIn a12 (gN 30)) (bnd (gI M 30 a12.toNatClampNeg) (fun v14 => if v14 = a9 then (bnd (a10 + (1 : Int32)) (fun v18 => bnd (a12 + (1 : Int32)) (fun v20 => rec v18 v20))) else (bnd (a12 + (1 : Int32)) (fun v16 => rec a10 v16)))))
def lp_X10_pointsWith_22 (F : Nat) (a9 : Int32) (a11 : Int32) (M : GM) : Nat → Int32 → Int32 → Option Int32
  | 0 => fun _ _ => none
  | f + 1 => fun a10 a12 => st_X10_pointsWith_22 F a9 a11 (lp_X10_pointsWith_22 F a9 a11 M f) a10 a12 M
set_option maxHeartbeats 4000000 in
set_option maxRecDepth 100000 in
theorem lw_X10_pointsWith_22 {x : GX} (X : GC x cX10_pointsWith 7 RX10 7) {a9 : Int32} {a11 : Int32}  {F : Nat} {M : GM} {r9 : Int32} (hE : ∀ (x2_9 : Int32), r9 = x2_9 → WG x M [(2, .int x2_9)] 50 []) : ∀ (f : Nat) (a10 : Int32) (a12 : Int32), lp_X10_pointsWith_22 F a9 a11 M f a10 a12 = some r9 → WG x M [(1, .int a9), (2, .int a10), (3, .ref (gad (xz x) 30)), (4, .int a11), (5, .int a12)] 22 [] := by
  intro f
  induction f with
  | zero => intro a10 a12 h; cases h
  | succ f ih =>
    intro a10 a12 h
    have hrec := ih
    have h : st_X10_pointsWith_22 F a9 a11 (lp_X10_pointsWith_22 F a9 a11 M f) a10 a12 M = some r9 := h
    generalize lp_X10_pointsWith_22 F a9 a11 M f = rec at h hrec
    unfold st_X10_pointsWith_22 at h
    refine g_iload X (j := 4) dX10_pointsWith_22 rfl ?_
    refine g_iload X (j := 3) dX10_pointsWith_24 rfl ?_
    refine g_icmp_ge X (tgt := 50) dX10_pointsWith_26 (by decide) (fun hb => ?_) (fun hb => ?_)
    · have h := ite_t hb h
      refine g_lv [1] rfl ?_
      exact hE a10 (Option.some.inj h).symm
    · have h := ite_f hb h
      refine g_aload_n X (j := 2) dX10_pointsWith_29 rfl rfl ?_
      refine g_iload X (j := 4) dX10_pointsWith_30 rfl ?_
      obtain ⟨hg13, h⟩ := grd_e h
      refine g_iald X gT_c30 hg13 dX10_pointsWith_32 ?_
      refine g_topi (fun v14 e15 => ?_)
      have h := bnd_e e15 h
      refine g_istore X (lv' := [(6, .int v14), (1, .int a9), (2, .int a10), (3, .ref (gad (xz x) 30)), (4, .int a11), (5, .int a12)]) dX10_pointsWith_33 (by decide) rfl ?_
      refine g_iload X (j := 0) dX10_pointsWith_35 rfl ?_
      refine g_iload_n X (j := 1) dX10_pointsWith_37 rfl rfl ?_
      refine g_icmp_ne X (tgt := 44) dX10_pointsWith_38 (by decide) (fun hb => ?_) (fun hb => ?_)
      · have h := ite_f hb h
        refine g_iinc X (j := 5) (w := a12 + (1 : Int32)) (lv' := [(6, .int v14), (1, .int a9), (2, .int a10), (3, .ref (gad (xz x) 30)), (4, .int a11)]) dX10_pointsWith_44 rfl (by rw [ii_1]) (by decide) (fun _ => rfl) (fun v16 e17 => ?_)
        have h := bnd_e e17 h
        refine g_goto X (tgt := 22) dX10_pointsWith_47 (by decide) ?_
        refine g_lv [2, 3, 4, 5, 0] rfl ?_
        exact hrec a10 v16 h
      · have h := ite_t hb h
        refine g_iinc X (j := 2) (w := a10 + (1 : Int32)) (lv' := [(6, .int v14), (1, .int a9), (3, .ref (gad (xz x) 30)), (4, .int a11), (5, .int a12)]) dX10_pointsWith_41 rfl (by rw [ii_1]) (by decide) (fun _ => rfl) (fun v18 e19 => ?_)
        have h := bnd_e e19 h
        refine g_iinc X (j := 5) (w := a12 + (1 : Int32)) (lv' := [(2, .int v18), (6, .int v14), (1, .int a9), (3, .ref (gad (xz x) 30)), (4, .int a11)]) dX10_pointsWith_44 rfl (by rw [ii_1]) (by decide) (fun _ => rfl) (fun v20 e21 => ?_)
        have h := bnd_e e21 h
        refine g_goto X (tgt := 22) dX10_pointsWith_47 (by decide) ?_
        refine g_lv [3, 1, 4, 5, 0] rfl ?_
        exact hrec v18 v20 h
def f_X10_pointsWith (F : Nat) (i0 : Int32) (M : GM) : Option (Nat ⊕ Int32) := bndT (f_X10_requirePane F i0 M) (fun n2 => some (Sum.inl n2)) (fun _ => bnd (0 : Int32) (fun v3 => bnd (960 : Int32) (fun v5 => bnd (0 : Int32) (fun v7 => bndO (lp_X10_pointsWith_22 F i0 v5 M F v3 v7) (fun v22 => some (Sum.inr v22))))))
set_option maxHeartbeats 4000000 in
set_option maxRecDepth 100000 in
theorem w_X10_pointsWith {x : GX} (X : GC x cX10_pointsWith 7 RX10 7) {i0 : Int32}  {F : Nat} {M : GM} {r9 : (Nat ⊕ Int32)} (hR : ∀ (v9 : Int32) (lv9 : List (Nat × Value)) (pc9 : Nat), r9 = Sum.inr v9 → decode cX10_pointsWith pc9 = .ok (.ireturn, 1) → WG x M lv9 pc9 [.int v9]) (hX : ∀ (n9 : Nat), r9 = Sum.inl n9 → GThr x n9 M) (h : f_X10_pointsWith F i0 M = some r9) : WG x M [(0, .ref (gad (xz x) 0)), (1, .int i0)] 0 [] := by
  unfold f_X10_pointsWith at h
  refine g_aload_n X (j := 0) dX10_pointsWith_0 rfl rfl ?_
  refine g_iload_n X (j := 1) dX10_pointsWith_1 rfl rfl ?_
  rcases bndT_e h with ⟨n2, hc1, h⟩ | ⟨⟨⟩, hc1, h⟩
  · exact gx_X10_150 X gT_c0 (cx_X10_requirePane X.htr  hc1) (by decide) (Nat.le_of_ble_eq_true rfl) dX10_pointsWith_2 (hX n2 (Option.some.inj h).symm)
  refine gc_X10_150 X gT_c0 (ct_X10_requirePane X.htr  hc1) (by decide) (Nat.le_of_ble_eq_true rfl) dX10_pointsWith_2 ?_
  refine g_iconst X (v := 0) dX10_pointsWith_5 (by decide) ?_
  refine g_topi (fun v3 e4 => ?_)
  have h := bnd_e e4 h
  refine g_istore_n X (lv' := [(2, .int v3), (0, .ref (gad (xz x) 0)), (1, .int i0)]) dX10_pointsWith_6 rfl (by decide) rfl ?_
  refine g_aload_n X (j := 1) dX10_pointsWith_7 rfl rfl ?_
  refine gf_X10_44 X gT_c0 dX10_pointsWith_8 ?_
  refine gf_X10_312 X gT_c27 dX10_pointsWith_11 ?_
  refine g_astore_n X (lv' := [(3, .ref (gad (xz x) 30)), (2, .int v3), (0, .ref (gad (xz x) 0)), (1, .int i0)]) dX10_pointsWith_14 rfl (by decide) rfl ?_
  refine g_aload_n X (j := 0) dX10_pointsWith_15 rfl rfl ?_
  refine g_alen_20 X gT_c30 dX10_pointsWith_16 ?_
  rw [show Int32.ofNat (gN 30) = 960 by decide +kernel]
  refine g_topi (fun v5 e6 => ?_)
  have h := bnd_e e6 h
  refine g_istore X (lv' := [(4, .int v5), (3, .ref (gad (xz x) 30)), (2, .int v3), (0, .ref (gad (xz x) 0)), (1, .int i0)]) dX10_pointsWith_17 (by decide) rfl ?_
  refine g_iconst X (v := 0) dX10_pointsWith_19 (by decide) ?_
  refine g_topi (fun v7 e8 => ?_)
  have h := bnd_e e8 h
  refine g_istore X (lv' := [(5, .int v7), (4, .int v5), (3, .ref (gad (xz x) 30)), (2, .int v3), (0, .ref (gad (xz x) 0)), (1, .int i0)]) dX10_pointsWith_20 (by decide) rfl ?_
  refine g_lv [5, 3, 2, 1, 0] rfl ?_
  obtain ⟨v22, hl23, h⟩ := bndO_e h
  refine lw_X10_pointsWith_22 X  (fun v22_ e9 => ?_) F v3 v7 hl23
  cases e9
  refine g_iload_n X (j := 0) dX10_pointsWith_50 rfl rfl ?_
  exact hR v22 _ _ (Option.some.inj h).symm dX10_pointsWith_51
theorem ct_X10_pointsWith {l : Launch} {z : GZ} (htr : l.stackTraces = false) {i0 : Int32}  {M : GM} {F : Nat} {v : Int32} (h : f_X10_pointsWith F i0 M = some (Sum.inr v)) : gMet l z yX10_pointsWith cX10_pointsWith 7 (some .int) 7 [.ref (gad z 0), .int i0] M (some (.int v)) M := gMet_ofI (by decide +kernel) (Nat.le_of_ble_eq_true rfl) htr rfl (fun x X ez el hR => by subst ez; subst el; exact w_X10_pointsWith X  (fun v9 lv9 pc9 e9 d9 => by cases e9; exact hR lv9 pc9 d9) (by intros; rename_i e9; cases e9) h)
theorem cx_X10_pointsWith {l : Launch} {z : GZ} (htr : l.stackTraces = false) {i0 : Int32}  {M : GM} {F n : Nat} (h : f_X10_pointsWith F i0 M = some (Sum.inl n)) : gMetX l z yX10_pointsWith cX10_pointsWith 7 (some .int) 7 [.ref (gad z 0), .int i0] M n M := gMetX_of (by decide +kernel) (Nat.le_of_ble_eq_true rfl) htr (fun x X ez el hT => by subst ez; subst el; exact w_X10_pointsWith X  (by intros; rename_i e9 _; cases e9) (fun n9 e9 => by cases e9; exact hT) h)
theorem gc_X10_315 {x : GX} {cc : ByteArray} {nL d pc : Nat} {M : GM} {lv : List (Nat × Value)} {st : List Value} (X : GC x cc nL RX10 d)  {M1 : GM} (ht : gT 39 = 2) (hM : gMet (xl x) (xz x) yX2_empty cX2_empty 1 none 1 [.ref (gad (xz x) 39)] M (none) M1) (hd : 2 ≤ d) (hsum : (st.map fun v => v.category).sum ≤ 8) (dec : decode cc pc = .ok (.invokevirtual 315, 3)) (go : WG x M1 lv (pc + 3) (st)) : WG x M lv pc (.ref (gad (xz x) 39) :: st) := g_callV X (n := 0) (As := []) (rest := st) hM ht (by decide) (gE_2 ht) rfl q_629 q_630 q_631 q_59 q_632 (by decide +kernel) rfl hd (by decide) rfl hsum dec go
theorem gc_X10_318 {x : GX} {cc : ByteArray} {nL d pc : Nat} {M : GM} {lv : List (Nat × Value)} {st : List Value} (X : GC x cc nL RX10 d) {i0 : Int32} {M1 : GM} (ht : gT 39 = 2) (hM : gMet (xl x) (xz x) yX2_include cX2_include 6 none 0 [.ref (gad (xz x) 39), .int i0] M (none) M1) (hd : 1 ≤ d) (hsum : (st.map fun v => v.category).sum ≤ 8) (dec : decode cc pc = .ok (.invokevirtual 318, 3)) (go : WG x M1 lv (pc + 3) (st)) : WG x M lv pc (.int i0 :: .ref (gad (xz x) 39) :: st) := g_callV X (n := 1) (As := [.int i0]) (rest := st) hM ht (by decide) (gE_2 ht) rfl q_636 q_637 q_638 q_59 q_639 (by decide +kernel) rfl hd (by decide) rfl hsum dec go
theorem dX10_colours_0 : decode cX10_colours 0 = .ok (.aload_n 0, 1) := by decide +kernel
theorem dX10_colours_1 : decode cX10_colours 1 = .ok (.getfield 57, 3) := by decide +kernel
theorem dX10_colours_4 : decode cX10_colours 4 = .ok (.invokevirtual 315, 3) := by decide +kernel
theorem dX10_colours_7 : decode cX10_colours 7 = .ok (.aload_n 0, 1) := by decide +kernel
theorem dX10_colours_8 : decode cX10_colours 8 = .ok (.getfield 44, 3) := by decide +kernel
theorem dX10_colours_11 : decode cX10_colours 11 = .ok (.getfield 306, 3) := by decide +kernel
theorem dX10_colours_14 : decode cX10_colours 14 = .ok (.astore_n 1, 1) := by decide +kernel
theorem dX10_colours_15 : decode cX10_colours 15 = .ok (.aload_n 1, 1) := by decide +kernel
theorem dX10_colours_16 : decode cX10_colours 16 = .ok (.arraylength, 1) := by decide +kernel
theorem dX10_colours_17 : decode cX10_colours 17 = .ok (.istore_n 2, 1) := by decide +kernel
theorem dX10_colours_18 : decode cX10_colours 18 = .ok (.iconst 0, 1) := by decide +kernel
theorem dX10_colours_19 : decode cX10_colours 19 = .ok (.istore_n 3, 1) := by decide +kernel
theorem dX10_colours_20 : decode cX10_colours 20 = .ok (.iload_n 3, 1) := by decide +kernel
theorem dX10_colours_21 : decode cX10_colours 21 = .ok (.iload_n 2, 1) := by decide +kernel
theorem dX10_colours_22 : decode cX10_colours 22 = .ok (.if_icmp .ge 23, 3) := by decide +kernel
theorem dX10_colours_25 : decode cX10_colours 25 = .ok (.aload_n 1, 1) := by decide +kernel
theorem dX10_colours_26 : decode cX10_colours 26 = .ok (.iload_n 3, 1) := by decide +kernel
theorem dX10_colours_27 : decode cX10_colours 27 = .ok (.iaload, 1) := by decide +kernel
theorem dX10_colours_28 : decode cX10_colours 28 = .ok (.istore 4, 2) := by decide +kernel
theorem dX10_colours_30 : decode cX10_colours 30 = .ok (.aload_n 0, 1) := by decide +kernel
theorem dX10_colours_31 : decode cX10_colours 31 = .ok (.getfield 57, 3) := by decide +kernel
theorem dX10_colours_34 : decode cX10_colours 34 = .ok (.iload 4, 2) := by decide +kernel
theorem dX10_colours_36 : decode cX10_colours 36 = .ok (.invokevirtual 318, 3) := by decide +kernel
theorem dX10_colours_39 : decode cX10_colours 39 = .ok (.iinc 3 1, 3) := by decide +kernel
theorem dX10_colours_42 : decode cX10_colours 42 = .ok (.goto (-22), 3) := by decide +kernel
theorem dX10_colours_45 : decode cX10_colours 45 = .ok (.aload_n 0, 1) := by decide +kernel
theorem dX10_colours_46 : decode cX10_colours 46 = .ok (.getfield 57, 3) := by decide +kernel
theorem dX10_colours_49 : decode cX10_colours 49 = .ok (.getfield 321, 3) := by decide +kernel
theorem dX10_colours_52 : decode cX10_colours 52 = .ok (.ireturn, 1) := by decide +kernel
def st_X10_colours_20 (F : Nat) (a7 : Int32) (rec : Int32 → GM → Option GM) (a8 : Int32) (M : GM) : Option GM := if a7 ≤ a8 then (some M) else (grd (gIn a8 (gN 28)) (bnd (gI M 28 a8.toNatClampNeg) (fun v10 => bndO (f_X2_include F v10 M) (fun M13 => bnd (a8 + (1 : Int32)) (fun v14 => rec v14 M13)))))
def lp_X10_colours_20 (F : Nat) (a7 : Int32) : Nat → Int32 → GM → Option GM
  | 0 => fun _ _ => none
  | f + 1 => fun a8 M => st_X10_colours_20 F a7 (lp_X10_colours_20 F a7 f) a8 M
set_option maxHeartbeats 4000000 in
set_option maxRecDepth 100000 in
theorem lw_X10_colours_20 {x : GX} (X : GC x cX10_colours 5 RX10 2) {a7 : Int32}  {F : Nat} {r9 : GM} (hE : ∀  (M9 : GM), r9 = M9 → WG x M9 [(0, .ref (gad (xz x) 0))] 45 []) : ∀ (f : Nat) (a8 : Int32) (M : GM), lp_X10_colours_20 F a7 f a8 M = some r9 → WG x M [(0, .ref (gad (xz x) 0)), (1, .ref (gad (xz x) 28)), (2, .int a7), (3, .int a8)] 20 [] := by
  intro f
  induction f with
  | zero => intro a8 M h; cases h
  | succ f ih =>
    intro a8 M h
    have hrec := ih
    have h : st_X10_colours_20 F a7 (lp_X10_colours_20 F a7 f) a8 M = some r9 := h
    generalize lp_X10_colours_20 F a7 f = rec at h hrec
    unfold st_X10_colours_20 at h
    refine g_iload_n X (j := 3) dX10_colours_20 rfl rfl ?_
    refine g_iload_n X (j := 2) dX10_colours_21 rfl rfl ?_
    refine g_icmp_ge X (tgt := 45) dX10_colours_22 (by decide) (fun hb => ?_) (fun hb => ?_)
    · have h := ite_t hb h
      refine g_lv [0] rfl ?_
      exact hE M (Option.some.inj h).symm
    · have h := ite_f hb h
      refine g_aload_n X (j := 1) dX10_colours_25 rfl rfl ?_
      refine g_iload_n X (j := 3) dX10_colours_26 rfl rfl ?_
      obtain ⟨hg9, h⟩ := grd_e h
      refine g_iald X gT_c28 hg9 dX10_colours_27 ?_
      refine g_topi (fun v10 e11 => ?_)
      have h := bnd_e e11 h
      refine g_istore X (lv' := [(4, .int v10), (0, .ref (gad (xz x) 0)), (1, .ref (gad (xz x) 28)), (2, .int a7), (3, .int a8)]) dX10_colours_28 (by decide) rfl ?_
      refine g_aload_n X (j := 1) dX10_colours_30 rfl rfl ?_
      refine gf_X10_57 X gT_c0 dX10_colours_31 ?_
      refine g_iload X (j := 0) dX10_colours_34 rfl ?_
      obtain ⟨M13, hc12, h⟩ := bndO_e h
      refine gc_X10_318 X gT_c39 (ct_X2_include X.htr  hc12) (by decide) (Nat.le_of_ble_eq_true rfl) dX10_colours_36 ?_
      refine g_iinc X (j := 4) (w := a8 + (1 : Int32)) (lv' := [(4, .int v10), (0, .ref (gad (xz x) 0)), (1, .ref (gad (xz x) 28)), (2, .int a7)]) dX10_colours_39 rfl (by rw [ii_1]) (by decide) (fun _ => rfl) (fun v14 e15 => ?_)
      have h := bnd_e e15 h
      refine g_goto X (tgt := 20) dX10_colours_42 (by decide) ?_
      refine g_lv [2, 3, 4, 0] rfl ?_
      exact hrec v14 M13 h
def f_X10_colours (F : Nat) (M : GM) : Option (Int32 × GM) := bndO (f_X2_empty F M) (fun M2 => bnd (960 : Int32) (fun v3 => bnd (0 : Int32) (fun v5 => bndO (lp_X10_colours_20 F v3 F v5 M2) (fun M16 => some ((gI M16 39 1), M16)))))
set_option maxHeartbeats 4000000 in
set_option maxRecDepth 100000 in
theorem w_X10_colours {x : GX} (X : GC x cX10_colours 5 RX10 2)   {F : Nat} {M : GM} {r9 : (Int32 × GM)} (hR : ∀ (v9 : Int32) (M9 : GM) (lv9 : List (Nat × Value)) (pc9 : Nat), r9 = (v9, M9) → decode cX10_colours pc9 = .ok (.ireturn, 1) → WG x M9 lv9 pc9 [.int v9]) (h : f_X10_colours F M = some r9) : WG x M [(0, .ref (gad (xz x) 0))] 0 [] := by
  unfold f_X10_colours at h
  refine g_aload_n X (j := 0) dX10_colours_0 rfl rfl ?_
  refine gf_X10_57 X gT_c0 dX10_colours_1 ?_
  obtain ⟨M2, hc1, h⟩ := bndO_e h
  refine gc_X10_315 X gT_c39 (ct_X2_empty X.htr  hc1) (by decide) (Nat.le_of_ble_eq_true rfl) dX10_colours_4 ?_
  refine g_aload_n X (j := 0) dX10_colours_7 rfl rfl ?_
  refine gf_X10_44 X gT_c0 dX10_colours_8 ?_
  refine gf_X10_306 X gT_c27 dX10_colours_11 ?_
  refine g_astore_n X (lv' := [(1, .ref (gad (xz x) 28)), (0, .ref (gad (xz x) 0))]) dX10_colours_14 rfl (by decide) rfl ?_
  refine g_aload_n X (j := 0) dX10_colours_15 rfl rfl ?_
  refine g_alen_20 X gT_c28 dX10_colours_16 ?_
  rw [show Int32.ofNat (gN 28) = 960 by decide +kernel]
  refine g_topi (fun v3 e4 => ?_)
  have h := bnd_e e4 h
  refine g_istore_n X (lv' := [(2, .int v3), (1, .ref (gad (xz x) 28)), (0, .ref (gad (xz x) 0))]) dX10_colours_17 rfl (by decide) rfl ?_
  refine g_iconst X (v := 0) dX10_colours_18 (by decide) ?_
  refine g_topi (fun v5 e6 => ?_)
  have h := bnd_e e6 h
  refine g_istore_n X (lv' := [(3, .int v5), (2, .int v3), (1, .ref (gad (xz x) 28)), (0, .ref (gad (xz x) 0))]) dX10_colours_19 rfl (by decide) rfl ?_
  refine g_lv [3, 2, 1, 0] rfl ?_
  obtain ⟨M16, hl17, h⟩ := bndO_e h
  refine lw_X10_colours_20 X  (fun M16_ e9 => ?_) F v5 M2 hl17
  cases e9
  refine g_aload_n X (j := 0) dX10_colours_45 rfl rfl ?_
  refine gf_X10_57 X gT_c0 dX10_colours_46 ?_
  refine gf_X10_321 X gT_c39 dX10_colours_49 ?_
  exact hR (gI M16 39 1) M16 _ _ (Option.some.inj h).symm dX10_colours_52
theorem ct_X10_colours {l : Launch} {z : GZ} (htr : l.stackTraces = false)   {M : GM} {F : Nat} {v : Int32} {M1 : GM} (h : f_X10_colours F M = some (v, M1)) : gMet l z yX10_colours cX10_colours 5 (some .int) 2 [.ref (gad z 0)] M (some (.int v)) M1 := gMet_ofI (by decide +kernel) (Nat.le_of_ble_eq_true rfl) htr rfl (fun x X ez el hR => by subst ez; subst el; exact w_X10_colours X  (fun v9 M9 lv9 pc9 e9 d9 => by cases e9; exact hR lv9 pc9 d9) h)
theorem dX10_colourNow_0 : decode cX10_colourNow 0 = .ok (.iload_n 1, 1) := by decide +kernel
theorem dX10_colourNow_1 : decode cX10_colourNow 1 = .ok (.iload_n 2, 1) := by decide +kernel
theorem dX10_colourNow_2 : decode cX10_colourNow 2 = .ok (.invokestatic 271, 3) := by decide +kernel
theorem dX10_colourNow_5 : decode cX10_colourNow 5 = .ok (.aload_n 0, 1) := by decide +kernel
theorem dX10_colourNow_6 : decode cX10_colourNow 6 = .ok (.getfield 72, 3) := by decide +kernel
theorem dX10_colourNow_9 : decode cX10_colourNow 9 = .ok (.iload_n 1, 1) := by decide +kernel
theorem dX10_colourNow_10 : decode cX10_colourNow 10 = .ok (.iload_n 2, 1) := by decide +kernel
theorem dX10_colourNow_11 : decode cX10_colourNow 11 = .ok (.iload_n 1, 1) := by decide +kernel
theorem dX10_colourNow_12 : decode cX10_colourNow 12 = .ok (.iload_n 2, 1) := by decide +kernel
theorem dX10_colourNow_13 : decode cX10_colourNow 13 = .ok (.invokevirtual 324, 3) := by decide +kernel
theorem dX10_colourNow_16 : decode cX10_colourNow 16 = .ok (.aload_n 0, 1) := by decide +kernel
theorem dX10_colourNow_17 : decode cX10_colourNow 17 = .ok (.aload_n 0, 1) := by decide +kernel
theorem dX10_colourNow_18 : decode cX10_colourNow 18 = .ok (.getfield 48, 3) := by decide +kernel
theorem dX10_colourNow_21 : decode cX10_colourNow 21 = .ok (.aload_n 0, 1) := by decide +kernel
theorem dX10_colourNow_22 : decode cX10_colourNow 22 = .ok (.getfield 72, 3) := by decide +kernel
theorem dX10_colourNow_25 : decode cX10_colourNow 25 = .ok (.iconst (-1), 1) := by decide +kernel
theorem dX10_colourNow_26 : decode cX10_colourNow 26 = .ok (.invokevirtual 286, 3) := by decide +kernel
theorem dX10_colourNow_29 : decode cX10_colourNow 29 = .ok (.aload_n 0, 1) := by decide +kernel
theorem dX10_colourNow_30 : decode cX10_colourNow 30 = .ok (.getfield 48, 3) := by decide +kernel
theorem dX10_colourNow_33 : decode cX10_colourNow 33 = .ok (.getfield 306, 3) := by decide +kernel
theorem dX10_colourNow_36 : decode cX10_colourNow 36 = .ok (.iload_n 2, 1) := by decide +kernel
theorem dX10_colourNow_37 : decode cX10_colourNow 37 = .ok (.bipush 40, 2) := by decide +kernel
theorem dX10_colourNow_39 : decode cX10_colourNow 39 = .ok (.imul, 1) := by decide +kernel
theorem dX10_colourNow_40 : decode cX10_colourNow 40 = .ok (.iload_n 1, 1) := by decide +kernel
theorem dX10_colourNow_41 : decode cX10_colourNow 41 = .ok (.iadd, 1) := by decide +kernel
theorem dX10_colourNow_42 : decode cX10_colourNow 42 = .ok (.iaload, 1) := by decide +kernel
theorem dX10_colourNow_43 : decode cX10_colourNow 43 = .ok (.ireturn, 1) := by decide +kernel
def f_X10_colourNow (F : Nat) (i0 : Int32) (i1 : Int32) (M : GM) : Option ((Nat × GM) ⊕ (Int32 × GM)) := bndT (f_X10_requirePoint F i0 i1 M) (fun n2 => some (Sum.inl (n2, M))) (fun _ => bnd (f_X0_span 43 i0 i1 i0 i1 M) (fun M3 => bndO (f_X10_draw F 31 43 ((-1) : Int32) M3) (fun M6 => grd (gIn ((i1 * (40 : Int32)) + i0) (gN 32)) (some (Sum.inr ((gI M6 32 (((i1 * (40 : Int32)) + i0).toNatClampNeg)), M6))))))
set_option maxHeartbeats 4000000 in
set_option maxRecDepth 100000 in
theorem w_X10_colourNow {x : GX} (X : GC x cX10_colourNow 3 RX10 7) {i0 : Int32} {i1 : Int32}  {F : Nat} {M : GM} {r9 : ((Nat × GM) ⊕ (Int32 × GM))} (hR : ∀ (v9 : Int32) (M9 : GM) (lv9 : List (Nat × Value)) (pc9 : Nat), r9 = Sum.inr (v9, M9) → decode cX10_colourNow pc9 = .ok (.ireturn, 1) → WG x M9 lv9 pc9 [.int v9]) (hX : ∀ (n9 : Nat) (M9 : GM), r9 = Sum.inl (n9, M9) → GThr x n9 M9) (h : f_X10_colourNow F i0 i1 M = some r9) : WG x M [(0, .ref (gad (xz x) 0)), (1, .int i0), (2, .int i1)] 0 [] := by
  unfold f_X10_colourNow at h
  refine g_iload_n X (j := 1) dX10_colourNow_0 rfl rfl ?_
  refine g_iload_n X (j := 2) dX10_colourNow_1 rfl rfl ?_
  rcases bndT_e h with ⟨n2, hc1, h⟩ | ⟨⟨⟩, hc1, h⟩
  · exact gx_X10_271 X (cx_X10_requirePoint X.htr  hc1) (by decide) (Nat.le_of_ble_eq_true rfl) dX10_colourNow_2 (hX n2 M (Option.some.inj h).symm)
  refine gc_X10_271 X (ct_X10_requirePoint X.htr  hc1) (by decide) (Nat.le_of_ble_eq_true rfl) dX10_colourNow_2 ?_
  refine g_aload_n X (j := 0) dX10_colourNow_5 rfl rfl ?_
  refine gf_X10_72 X gT_c0 dX10_colourNow_6 ?_
  refine g_iload_n X (j := 1) dX10_colourNow_9 rfl rfl ?_
  refine g_iload_n X (j := 2) dX10_colourNow_10 rfl rfl ?_
  refine g_iload_n X (j := 1) dX10_colourNow_11 rfl rfl ?_
  refine g_iload_n X (j := 2) dX10_colourNow_12 rfl rfl ?_
  refine gc_X10_324 X gT_c43 (ct_X0_span X.htr gT_c43) (by decide) (Nat.le_of_ble_eq_true rfl) dX10_colourNow_13 ?_
  refine g_mem (fun M3 e4 => ?_)
  have h := bnd_e e4 h
  refine g_aload_n X (j := 0) dX10_colourNow_16 rfl rfl ?_
  refine g_aload_n X (j := 0) dX10_colourNow_17 rfl rfl ?_
  refine gf_X10_48 X gT_c0 dX10_colourNow_18 ?_
  refine g_aload_n X (j := 0) dX10_colourNow_21 rfl rfl ?_
  refine gf_X10_72 X gT_c0 dX10_colourNow_22 ?_
  refine g_iconst X (v := (-1)) dX10_colourNow_25 (by decide) ?_
  obtain ⟨M6, hc5, h⟩ := bndO_e h
  refine gc_X10_286 X gT_c0 (ct_X10_draw X.htr gT_c31 gT_c43 hc5) (by decide) (Nat.le_of_ble_eq_true rfl) dX10_colourNow_26 ?_
  refine g_aload_n X (j := 0) dX10_colourNow_29 rfl rfl ?_
  refine gf_X10_48 X gT_c0 dX10_colourNow_30 ?_
  refine gf_X10_306 X gT_c31 dX10_colourNow_33 ?_
  refine g_iload_n X (j := 2) dX10_colourNow_36 rfl rfl ?_
  refine g_bipush X (v := 40) dX10_colourNow_37 (by decide) ?_
  refine g_imul X dX10_colourNow_39 ?_
  refine g_iload_n X (j := 1) dX10_colourNow_40 rfl rfl ?_
  refine g_iadd X dX10_colourNow_41 ?_
  obtain ⟨hg7, h⟩ := grd_e h
  refine g_iald X gT_c32 hg7 dX10_colourNow_42 ?_
  exact hR (gI M6 32 (((i1 * (40 : Int32)) + i0).toNatClampNeg)) M6 _ _ (Option.some.inj h).symm dX10_colourNow_43
theorem ct_X10_colourNow {l : Launch} {z : GZ} (htr : l.stackTraces = false) {i0 : Int32} {i1 : Int32}  {M : GM} {F : Nat} {v : Int32} {M1 : GM} (h : f_X10_colourNow F i0 i1 M = some (Sum.inr (v, M1))) : gMet l z yX10_colourNow cX10_colourNow 3 (some .int) 7 [.ref (gad z 0), .int i0, .int i1] M (some (.int v)) M1 := gMet_ofI (by decide +kernel) (Nat.le_of_ble_eq_true rfl) htr rfl (fun x X ez el hR => by subst ez; subst el; exact w_X10_colourNow X  (fun v9 M9 lv9 pc9 e9 d9 => by cases e9; exact hR lv9 pc9 d9) (by intros; rename_i e9; cases e9) h)
theorem cx_X10_colourNow {l : Launch} {z : GZ} (htr : l.stackTraces = false) {i0 : Int32} {i1 : Int32}  {M : GM} {F n : Nat} {M1 : GM} (h : f_X10_colourNow F i0 i1 M = some (Sum.inl (n, M1))) : gMetX l z yX10_colourNow cX10_colourNow 3 (some .int) 7 [.ref (gad z 0), .int i0, .int i1] M n M1 := gMetX_of (by decide +kernel) (Nat.le_of_ble_eq_true rfl) htr (fun x X ez el hT => by subst ez; subst el; exact w_X10_colourNow X  (by intros; rename_i e9 _; cases e9) (fun n9 M9 e9 => by cases e9; exact hT) h)
theorem dX10_seenOf_0 : decode cX10_seenOf 0 = .ok (.aload_n 0, 1) := by decide +kernel
theorem dX10_seenOf_1 : decode cX10_seenOf 1 = .ok (.iload_n 1, 1) := by decide +kernel
theorem dX10_seenOf_2 : decode cX10_seenOf 2 = .ok (.invokevirtual 150, 3) := by decide +kernel
theorem dX10_seenOf_5 : decode cX10_seenOf 5 = .ok (.aload_n 0, 1) := by decide +kernel
theorem dX10_seenOf_6 : decode cX10_seenOf 6 = .ok (.getfield 17, 3) := by decide +kernel
theorem dX10_seenOf_9 : decode cX10_seenOf 9 = .ok (.iload_n 1, 1) := by decide +kernel
theorem dX10_seenOf_10 : decode cX10_seenOf 10 = .ok (.aaload, 1) := by decide +kernel
theorem dX10_seenOf_11 : decode cX10_seenOf 11 = .ok (.getfield 147, 3) := by decide +kernel
theorem dX10_seenOf_14 : decode cX10_seenOf 14 = .ok (.ifCond .ne 5, 3) := by decide +kernel
theorem dX10_seenOf_17 : decode cX10_seenOf 17 = .ok (.iconst 0, 1) := by decide +kernel
theorem dX10_seenOf_18 : decode cX10_seenOf 18 = .ok (.ireturn, 1) := by decide +kernel
theorem dX10_seenOf_19 : decode cX10_seenOf 19 = .ok (.aload_n 0, 1) := by decide +kernel
theorem dX10_seenOf_20 : decode cX10_seenOf 20 = .ok (.aload_n 0, 1) := by decide +kernel
theorem dX10_seenOf_21 : decode cX10_seenOf 21 = .ok (.getfield 48, 3) := by decide +kernel
theorem dX10_seenOf_24 : decode cX10_seenOf 24 = .ok (.aload_n 0, 1) := by decide +kernel
theorem dX10_seenOf_25 : decode cX10_seenOf 25 = .ok (.getfield 68, 3) := by decide +kernel
theorem dX10_seenOf_28 : decode cX10_seenOf 28 = .ok (.iconst (-1), 1) := by decide +kernel
theorem dX10_seenOf_29 : decode cX10_seenOf 29 = .ok (.invokevirtual 286, 3) := by decide +kernel
theorem dX10_seenOf_32 : decode cX10_seenOf 32 = .ok (.aload_n 0, 1) := by decide +kernel
theorem dX10_seenOf_33 : decode cX10_seenOf 33 = .ok (.aload_n 0, 1) := by decide +kernel
theorem dX10_seenOf_34 : decode cX10_seenOf 34 = .ok (.getfield 51, 3) := by decide +kernel
theorem dX10_seenOf_37 : decode cX10_seenOf 37 = .ok (.aload_n 0, 1) := by decide +kernel
theorem dX10_seenOf_38 : decode cX10_seenOf 38 = .ok (.getfield 68, 3) := by decide +kernel
theorem dX10_seenOf_41 : decode cX10_seenOf 41 = .ok (.iload_n 1, 1) := by decide +kernel
theorem dX10_seenOf_42 : decode cX10_seenOf 42 = .ok (.invokevirtual 286, 3) := by decide +kernel
theorem dX10_seenOf_45 : decode cX10_seenOf 45 = .ok (.iconst 0, 1) := by decide +kernel
theorem dX10_seenOf_46 : decode cX10_seenOf 46 = .ok (.istore_n 2, 1) := by decide +kernel
theorem dX10_seenOf_47 : decode cX10_seenOf 47 = .ok (.iconst 0, 1) := by decide +kernel
theorem dX10_seenOf_48 : decode cX10_seenOf 48 = .ok (.istore_n 3, 1) := by decide +kernel
theorem dX10_seenOf_49 : decode cX10_seenOf 49 = .ok (.iload_n 3, 1) := by decide +kernel
theorem dX10_seenOf_50 : decode cX10_seenOf 50 = .ok (.sipush 960, 3) := by decide +kernel
theorem dX10_seenOf_53 : decode cX10_seenOf 53 = .ok (.if_icmp .ge 33, 3) := by decide +kernel
theorem dX10_seenOf_56 : decode cX10_seenOf 56 = .ok (.aload_n 0, 1) := by decide +kernel
theorem dX10_seenOf_57 : decode cX10_seenOf 57 = .ok (.getfield 48, 3) := by decide +kernel
theorem dX10_seenOf_60 : decode cX10_seenOf 60 = .ok (.getfield 306, 3) := by decide +kernel
theorem dX10_seenOf_63 : decode cX10_seenOf 63 = .ok (.iload_n 3, 1) := by decide +kernel
theorem dX10_seenOf_64 : decode cX10_seenOf 64 = .ok (.iaload, 1) := by decide +kernel
theorem dX10_seenOf_65 : decode cX10_seenOf 65 = .ok (.aload_n 0, 1) := by decide +kernel
theorem dX10_seenOf_66 : decode cX10_seenOf 66 = .ok (.getfield 51, 3) := by decide +kernel
theorem dX10_seenOf_69 : decode cX10_seenOf 69 = .ok (.getfield 306, 3) := by decide +kernel
theorem dX10_seenOf_72 : decode cX10_seenOf 72 = .ok (.iload_n 3, 1) := by decide +kernel
theorem dX10_seenOf_73 : decode cX10_seenOf 73 = .ok (.iaload, 1) := by decide +kernel
theorem dX10_seenOf_74 : decode cX10_seenOf 74 = .ok (.if_icmp .eq 6, 3) := by decide +kernel
theorem dX10_seenOf_77 : decode cX10_seenOf 77 = .ok (.iinc 2 1, 3) := by decide +kernel
theorem dX10_seenOf_80 : decode cX10_seenOf 80 = .ok (.iinc 3 1, 3) := by decide +kernel
theorem dX10_seenOf_83 : decode cX10_seenOf 83 = .ok (.goto (-34), 3) := by decide +kernel
theorem dX10_seenOf_86 : decode cX10_seenOf 86 = .ok (.iload_n 2, 1) := by decide +kernel
theorem dX10_seenOf_87 : decode cX10_seenOf 87 = .ok (.ireturn, 1) := by decide +kernel
def st_X10_seenOf_49 (F : Nat)  (rec : Int32 → Int32 → GM → Option (Int32 × GM)) (a15 : Int32) (a16 : Int32) (M : GM) : Option (Int32 × GM) := if (960 : Int32) ≤ a16 then (some (a15, M)) else (grd (gIn a16 (gN 32)) (grd (gIn a16 (gN 36)) (if (gI M 32 a16.toNatClampNeg) = (gI M 36 a16.toNatClampNeg) then (bnd (a16 + (1 : Int32)) (fun v19 => rec a15 v19 M)) else (bnd (a15 + (1 : Int32)) (fun v21 => bnd (a16 + (1 : Int32)) (fun v23 => rec v21 v23 M))))))
def lp_X10_seenOf_49 (F : Nat)  : Nat → Int32 → Int32 → GM → Option (Int32 × GM)
  | 0 => fun _ _ _ => none
  | f + 1 => fun a15 a16 M => st_X10_seenOf_49 F  (lp_X10_seenOf_49 F  f) a15 a16 M
set_option maxHeartbeats 4000000 in
set_option maxRecDepth 100000 in
theorem lw_X10_seenOf_49 {x : GX} (X : GC x cX10_seenOf 4 RX10 7)   {F : Nat} {r9 : (Int32 × GM)} (hE : ∀ (x2_9 : Int32) (M9 : GM), r9 = (x2_9, M9) → WG x M9 [(2, .int x2_9)] 86 []) : ∀ (f : Nat) (a15 : Int32) (a16 : Int32) (M : GM), lp_X10_seenOf_49 F  f a15 a16 M = some r9 → WG x M [(0, .ref (gad (xz x) 0)), (2, .int a15), (3, .int a16)] 49 [] := by
  intro f
  induction f with
  | zero => intro a15 a16 M h; cases h
  | succ f ih =>
    intro a15 a16 M h
    have hrec := ih
    have h : st_X10_seenOf_49 F  (lp_X10_seenOf_49 F  f) a15 a16 M = some r9 := h
    generalize lp_X10_seenOf_49 F  f = rec at h hrec
    unfold st_X10_seenOf_49 at h
    refine g_iload_n X (j := 2) dX10_seenOf_49 rfl rfl ?_
    refine g_sipush X (v := 960) dX10_seenOf_50 (by decide) ?_
    refine g_icmp_ge X (tgt := 86) dX10_seenOf_53 (by decide) (fun hb => ?_) (fun hb => ?_)
    · have h := ite_t hb h
      refine g_lv [1] rfl ?_
      exact hE a15 M (Option.some.inj h).symm
    · have h := ite_f hb h
      refine g_aload_n X (j := 0) dX10_seenOf_56 rfl rfl ?_
      refine gf_X10_48 X gT_c0 dX10_seenOf_57 ?_
      refine gf_X10_306 X gT_c31 dX10_seenOf_60 ?_
      refine g_iload_n X (j := 2) dX10_seenOf_63 rfl rfl ?_
      obtain ⟨hg17, h⟩ := grd_e h
      refine g_iald X gT_c32 hg17 dX10_seenOf_64 ?_
      refine g_aload_n X (j := 0) dX10_seenOf_65 rfl rfl ?_
      refine gf_X10_51 X gT_c0 dX10_seenOf_66 ?_
      refine gf_X10_306 X gT_c35 dX10_seenOf_69 ?_
      refine g_iload_n X (j := 2) dX10_seenOf_72 rfl rfl ?_
      obtain ⟨hg18, h⟩ := grd_e h
      refine g_iald X gT_c36 hg18 dX10_seenOf_73 ?_
      refine g_icmp_eq X (tgt := 80) dX10_seenOf_74 (by decide) (fun hb => ?_) (fun hb => ?_)
      · have h := ite_t hb h
        refine g_iinc X (j := 2) (w := a16 + (1 : Int32)) (lv' := [(0, .ref (gad (xz x) 0)), (2, .int a15)]) dX10_seenOf_80 rfl (by rw [ii_1]) (by decide) (fun _ => rfl) (fun v19 e20 => ?_)
        have h := bnd_e e20 h
        refine g_goto X (tgt := 49) dX10_seenOf_83 (by decide) ?_
        refine g_lv [1, 2, 0] rfl ?_
        exact hrec a15 v19 M h
      · have h := ite_f hb h
        refine g_iinc X (j := 1) (w := a15 + (1 : Int32)) (lv' := [(0, .ref (gad (xz x) 0)), (3, .int a16)]) dX10_seenOf_77 rfl (by rw [ii_1]) (by decide) (fun _ => rfl) (fun v21 e22 => ?_)
        have h := bnd_e e22 h
        refine g_iinc X (j := 2) (w := a16 + (1 : Int32)) (lv' := [(2, .int v21), (0, .ref (gad (xz x) 0))]) dX10_seenOf_80 rfl (by rw [ii_1]) (by decide) (fun _ => rfl) (fun v23 e24 => ?_)
        have h := bnd_e e24 h
        refine g_goto X (tgt := 49) dX10_seenOf_83 (by decide) ?_
        refine g_lv [2, 1, 0] rfl ?_
        exact hrec v21 v23 M h
def f_X10_seenOf (F : Nat) (i0 : Int32) (M : GM) : Option ((Nat × GM) ⊕ (Int32 × GM)) := bndT (f_X10_requirePane F i0 M) (fun n2 => some (Sum.inl (n2, M))) (fun _ => grd (gIn i0 (gN 2)) (bnd (gR 2 i0.toNatClampNeg) (fun o4 => if (gI M o4 6) = 0 then (some (Sum.inr ((0 : Int32), M))) else (bndO (f_X10_draw F 31 42 ((-1) : Int32) M) (fun M8 => bndO (f_X10_draw F 35 42 i0 M8) (fun M10 => bnd (0 : Int32) (fun v11 => bnd (0 : Int32) (fun v13 => bndO (lp_X10_seenOf_49 F  F v11 v13 M10) (fun (v25, M26) => some (Sum.inr (v25, M26)))))))))))
set_option maxHeartbeats 4000000 in
set_option maxRecDepth 100000 in
theorem w_X10_seenOf {x : GX} (X : GC x cX10_seenOf 4 RX10 7) {i0 : Int32}  {F : Nat} {M : GM} {r9 : ((Nat × GM) ⊕ (Int32 × GM))} (hR : ∀ (v9 : Int32) (M9 : GM) (lv9 : List (Nat × Value)) (pc9 : Nat), r9 = Sum.inr (v9, M9) → decode cX10_seenOf pc9 = .ok (.ireturn, 1) → WG x M9 lv9 pc9 [.int v9]) (hX : ∀ (n9 : Nat) (M9 : GM), r9 = Sum.inl (n9, M9) → GThr x n9 M9) (h : f_X10_seenOf F i0 M = some r9) : WG x M [(0, .ref (gad (xz x) 0)), (1, .int i0)] 0 [] := by
  unfold f_X10_seenOf at h
  refine g_aload_n X (j := 0) dX10_seenOf_0 rfl rfl ?_
  refine g_iload_n X (j := 1) dX10_seenOf_1 rfl rfl ?_
  rcases bndT_e h with ⟨n2, hc1, h⟩ | ⟨⟨⟩, hc1, h⟩
  · exact gx_X10_150 X gT_c0 (cx_X10_requirePane X.htr  hc1) (by decide) (Nat.le_of_ble_eq_true rfl) dX10_seenOf_2 (hX n2 M (Option.some.inj h).symm)
  refine gc_X10_150 X gT_c0 (ct_X10_requirePane X.htr  hc1) (by decide) (Nat.le_of_ble_eq_true rfl) dX10_seenOf_2 ?_
  refine g_aload_n X (j := 0) dX10_seenOf_5 rfl rfl ?_
  refine gf_X10_17 X gT_c0 dX10_seenOf_6 ?_
  refine g_iload_n X (j := 1) dX10_seenOf_9 rfl rfl ?_
  obtain ⟨hg3, h⟩ := grd_e h
  refine g_aald_24 X gT_c2 hg3 dX10_seenOf_10 ?_
  refine g_topr (fun o4 e5 => ?_)
  have h := bnd_e e5 h
  have k6 : gT o4 = 4 := by rw [e5]; exact gR_24 gT_c2 (gIn_lt hg3)
  refine gf_X10_147 X k6 dX10_seenOf_11 ?_
  refine g_if_ne X (tgt := 19) dX10_seenOf_14 (by decide) (fun hb => ?_) (fun hb => ?_)
  · have h := ite_f hb h
    refine g_aload_n X (j := 0) dX10_seenOf_19 rfl rfl ?_
    refine g_aload_n X (j := 0) dX10_seenOf_20 rfl rfl ?_
    refine gf_X10_48 X gT_c0 dX10_seenOf_21 ?_
    refine g_aload_n X (j := 0) dX10_seenOf_24 rfl rfl ?_
    refine gf_X10_68 X gT_c0 dX10_seenOf_25 ?_
    refine g_iconst X (v := (-1)) dX10_seenOf_28 (by decide) ?_
    obtain ⟨M8, hc7, h⟩ := bndO_e h
    refine gc_X10_286 X gT_c0 (ct_X10_draw X.htr gT_c31 gT_c42 hc7) (by decide) (Nat.le_of_ble_eq_true rfl) dX10_seenOf_29 ?_
    refine g_aload_n X (j := 0) dX10_seenOf_32 rfl rfl ?_
    refine g_aload_n X (j := 0) dX10_seenOf_33 rfl rfl ?_
    refine gf_X10_51 X gT_c0 dX10_seenOf_34 ?_
    refine g_aload_n X (j := 0) dX10_seenOf_37 rfl rfl ?_
    refine gf_X10_68 X gT_c0 dX10_seenOf_38 ?_
    refine g_iload_n X (j := 1) dX10_seenOf_41 rfl rfl ?_
    obtain ⟨M10, hc9, h⟩ := bndO_e h
    refine gc_X10_286 X gT_c0 (ct_X10_draw X.htr gT_c35 gT_c42 hc9) (by decide) (Nat.le_of_ble_eq_true rfl) dX10_seenOf_42 ?_
    refine g_iconst X (v := 0) dX10_seenOf_45 (by decide) ?_
    refine g_topi (fun v11 e12 => ?_)
    have h := bnd_e e12 h
    refine g_istore_n X (lv' := [(2, .int v11), (0, .ref (gad (xz x) 0)), (1, .int i0)]) dX10_seenOf_46 rfl (by decide) rfl ?_
    refine g_iconst X (v := 0) dX10_seenOf_47 (by decide) ?_
    refine g_topi (fun v13 e14 => ?_)
    have h := bnd_e e14 h
    refine g_istore_n X (lv' := [(3, .int v13), (2, .int v11), (0, .ref (gad (xz x) 0)), (1, .int i0)]) dX10_seenOf_48 rfl (by decide) rfl ?_
    refine g_lv [2, 1, 0] rfl ?_
    obtain ⟨⟨v25, M26⟩, hl27, h⟩ := bndO_e h
    refine lw_X10_seenOf_49 X  (fun v25_ M26_ e9 => ?_) F v11 v13 M10 hl27
    cases e9
    refine g_iload_n X (j := 0) dX10_seenOf_86 rfl rfl ?_
    exact hR v25 M26 _ _ (Option.some.inj h).symm dX10_seenOf_87
  · have h := ite_t hb h
    refine g_iconst X (v := 0) dX10_seenOf_17 (by decide) ?_
    exact hR (0 : Int32) M _ _ (Option.some.inj h).symm dX10_seenOf_18
theorem ct_X10_seenOf {l : Launch} {z : GZ} (htr : l.stackTraces = false) {i0 : Int32}  {M : GM} {F : Nat} {v : Int32} {M1 : GM} (h : f_X10_seenOf F i0 M = some (Sum.inr (v, M1))) : gMet l z yX10_seenOf cX10_seenOf 4 (some .int) 7 [.ref (gad z 0), .int i0] M (some (.int v)) M1 := gMet_ofI (by decide +kernel) (Nat.le_of_ble_eq_true rfl) htr rfl (fun x X ez el hR => by subst ez; subst el; exact w_X10_seenOf X  (fun v9 M9 lv9 pc9 e9 d9 => by cases e9; exact hR lv9 pc9 d9) (by intros; rename_i e9; cases e9) h)
theorem cx_X10_seenOf {l : Launch} {z : GZ} (htr : l.stackTraces = false) {i0 : Int32}  {M : GM} {F n : Nat} {M1 : GM} (h : f_X10_seenOf F i0 M = some (Sum.inl (n, M1))) : gMetX l z yX10_seenOf cX10_seenOf 4 (some .int) 7 [.ref (gad z 0), .int i0] M n M1 := gMetX_of (by decide +kernel) (Nat.le_of_ble_eq_true rfl) htr (fun x X ez el hT => by subst ez; subst el; exact w_X10_seenOf X  (by intros; rename_i e9 _; cases e9) (fun n9 M9 e9 => by cases e9; exact hT) h)
