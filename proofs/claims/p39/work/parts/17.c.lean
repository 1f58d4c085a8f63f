/-! 17.c -/
theorem gc_X10_282 {x : GX} {cc : ByteArray} {nL d pc : Nat} {M : GM} {lv : List (Nat × Value)} {st : List Value} (X : GC x cc nL RX10 d) {i0 : Nat} {i1 : Int32} {M1 : GM} {g : Nat} (ht : gT g = 7) (hM : gMet (xl x) (xz x) yX7_blank cX7_blank 6 none 0 [.ref (gad (xz x) g), .ref (gad (xz x) i0), .int i1] M (none) M1) (hd : 1 ≤ d) (hsum : (st.map fun v => v.category).sum ≤ 8) (dec : decode cc pc = .ok (.invokevirtual 282, 3)) (go : WG x M1 lv (pc + 3) (st)) : WG x M lv pc (.int i1 :: .ref (gad (xz x) i0) :: .ref (gad (xz x) g) :: st) := g_callV X (n := 2) (As := [.ref (gad (xz x) i0), .int i1]) (rest := st) hM ht (by decide) (gE_7 ht) rfl q_332 q_333 q_334 q_23 q_335 (by decide +kernel) rfl hd (by decide) rfl hsum dec go
theorem gc_X10_334 {x : GX} {cc : ByteArray} {nL d pc : Nat} {M : GM} {lv : List (Nat × Value)} {st : List Value} (X : GC x cc nL RX10 d) {i0 : Nat} {i1 : Nat} {i2 : Int32} {M1 : GM} {r : Int32} (ht : gT 0 = 10) (hM : gMet (xl x) (xz x) yX10_drawPane cX10_drawPane 9 (some .boolean) 5 [.ref (gad (xz x) 0), .ref (gad (xz x) i0), .ref (gad (xz x) i1), .int i2] M (some (.int r)) M1) (hd : 6 ≤ d) (hsum : (st.map fun v => v.category).sum ≤ 8) (dec : decode cc pc = .ok (.invokevirtual 334, 3)) (go : WG x M1 lv (pc + 3) (.int r :: st)) : WG x M lv pc (.int i2 :: .ref (gad (xz x) i1) :: .ref (gad (xz x) i0) :: .ref (gad (xz x) 0) :: st) := g_callV X (n := 3) (As := [.ref (gad (xz x) i0), .ref (gad (xz x) i1), .int i2]) (rest := st) hM ht (by decide) (gE_10 ht) rfl q_337 q_339 q_7 q_17 q_340 (by decide +kernel) rfl hd (by decide) rfl hsum dec go
theorem dX10_draw_0 : decode cX10_draw 0 = .ok (.aload_n 1, 1) := by decide +kernel
theorem dX10_draw_1 : decode cX10_draw 1 = .ok (.aload_n 2, 1) := by decide +kernel
theorem dX10_draw_2 : decode cX10_draw 2 = .ok (.aload_n 0, 1) := by decide +kernel
theorem dX10_draw_3 : decode cX10_draw 3 = .ok (.getfield 192, 3) := by decide +kernel
theorem dX10_draw_6 : decode cX10_draw 6 = .ok (.invokevirtual 282, 3) := by decide +kernel
theorem dX10_draw_9 : decode cX10_draw 9 = .ok (.iconst 0, 1) := by decide +kernel
theorem dX10_draw_10 : decode cX10_draw 10 = .ok (.istore 4, 2) := by decide +kernel
theorem dX10_draw_12 : decode cX10_draw 12 = .ok (.iload 4, 2) := by decide +kernel
theorem dX10_draw_14 : decode cX10_draw 14 = .ok (.aload_n 0, 1) := by decide +kernel
theorem dX10_draw_15 : decode cX10_draw 15 = .ok (.getfield 121, 3) := by decide +kernel
theorem dX10_draw_18 : decode cX10_draw 18 = .ok (.if_icmp .ge 37, 3) := by decide +kernel
theorem dX10_draw_21 : decode cX10_draw 21 = .ok (.aload_n 0, 1) := by decide +kernel
theorem dX10_draw_22 : decode cX10_draw 22 = .ok (.getfield 17, 3) := by decide +kernel
theorem dX10_draw_25 : decode cX10_draw 25 = .ok (.iload 4, 2) := by decide +kernel
theorem dX10_draw_27 : decode cX10_draw 27 = .ok (.aaload, 1) := by decide +kernel
theorem dX10_draw_28 : decode cX10_draw 28 = .ok (.getfield 147, 3) := by decide +kernel
theorem dX10_draw_31 : decode cX10_draw 31 = .ok (.ifCond .eq 18, 3) := by decide +kernel
theorem dX10_draw_34 : decode cX10_draw 34 = .ok (.iload 4, 2) := by decide +kernel
theorem dX10_draw_36 : decode cX10_draw 36 = .ok (.iload_n 3, 1) := by decide +kernel
theorem dX10_draw_37 : decode cX10_draw 37 = .ok (.if_icmp .eq 12, 3) := by decide +kernel
theorem dX10_draw_40 : decode cX10_draw 40 = .ok (.aload_n 0, 1) := by decide +kernel
theorem dX10_draw_41 : decode cX10_draw 41 = .ok (.aload_n 1, 1) := by decide +kernel
theorem dX10_draw_42 : decode cX10_draw 42 = .ok (.aload_n 2, 1) := by decide +kernel
theorem dX10_draw_43 : decode cX10_draw 43 = .ok (.iload 4, 2) := by decide +kernel
theorem dX10_draw_45 : decode cX10_draw 45 = .ok (.invokevirtual 334, 3) := by decide +kernel
theorem dX10_draw_48 : decode cX10_draw 48 = .ok (.pop, 1) := by decide +kernel
theorem dX10_draw_49 : decode cX10_draw 49 = .ok (.iinc 4 1, 3) := by decide +kernel
theorem dX10_draw_52 : decode cX10_draw 52 = .ok (.goto (-40), 3) := by decide +kernel
theorem dX10_draw_55 : decode cX10_draw 55 = .ok (.return_, 1) := by decide +kernel
def st_X10_draw_12 (F : Nat) (p5 : Nat) (p7 : Nat) (a9 : Int32) (rec : Int32 → GM → Option GM) (a10 : Int32) (M : GM) : Option GM := if (gI M 0 13) ≤ a10 then (some M) else (grd (gIn a10 (gN 2)) (bnd (gR 2 a10.toNatClampNeg) (fun o12 => if (gI M o12 6) = 0 then (bnd (a10 + (1 : Int32)) (fun v15 => rec v15 M)) else (if a10 = a9 then (bnd (a10 + (1 : Int32)) (fun v17 => rec v17 M)) else (bndO (f_X10_drawPane F p5 p7 a10 M) (fun (v20, M21) => bnd (a10 + (1 : Int32)) (fun v22 => rec v22 M21)))))))
def lp_X10_draw_12 (F : Nat) (p5 : Nat) (p7 : Nat) (a9 : Int32) : Nat → Int32 → GM → Option GM
  | 0 => fun _ _ => none
  | f + 1 => fun a10 M => st_X10_draw_12 F p5 p7 a9 (lp_X10_draw_12 F p5 p7 a9 f) a10 M
set_option maxHeartbeats 4000000 in
set_option maxRecDepth 100000 in
theorem lw_X10_draw_12 {x : GX} (X : GC x cX10_draw 5 RX10 6) {p5 : Nat} {p7 : Nat} {a9 : Int32} (k6 : gT p5 = 7) (k8 : gT p7 = 0) {F : Nat} {r9 : GM} (hE : ∀  (M9 : GM), r9 = M9 → WG x M9 [] 55 []) : ∀ (f : Nat) (a10 : Int32) (M : GM), lp_X10_draw_12 F p5 p7 a9 f a10 M = some r9 → WG x M [(0, .ref (gad (xz x) 0)), (1, .ref (gad (xz x) p5)), (2, .ref (gad (xz x) p7)), (3, .int a9), (4, .int a10)] 12 [] := by
  intro f
  induction f with
  | zero => intro a10 M h; cases h
  | succ f ih =>
    intro a10 M h
    have hrec := ih
    have h : st_X10_draw_12 F p5 p7 a9 (lp_X10_draw_12 F p5 p7 a9 f) a10 M = some r9 := h
    generalize lp_X10_draw_12 F p5 p7 a9 f = rec at h hrec
    unfold st_X10_draw_12 at h
    refine g_iload X (j := 4) dX10_draw_12 rfl ?_
    refine g_aload_n X (j := 0) dX10_draw_14 rfl rfl ?_
    refine gf_X10_121 X gT_c0 dX10_draw_15 ?_
    refine g_icmp_ge X (tgt := 55) dX10_draw_18 (by decide) (fun hb => ?_) (fun hb => ?_)
    · have h := ite_t hb h
      refine g_lv [] rfl ?_
      exact hE M (Option.some.inj h).symm
    · have h := ite_f hb h
      refine g_aload_n X (j := 0) dX10_draw_21 rfl rfl ?_
      refine gf_X10_17 X gT_c0 dX10_draw_22 ?_
      refine g_iload X (j := 4) dX10_draw_25 rfl ?_
      obtain ⟨hg11, h⟩ := grd_e h
      refine g_aald_24 X gT_c2 hg11 dX10_draw_27 ?_
      refine g_topr (fun o12 e13 => ?_)
      have h := bnd_e e13 h
      have k14 : gT o12 = 4 := by rw [e13]; exact gR_24 gT_c2 (gIn_lt hg11)
      refine gf_X10_147 X k14 dX10_draw_28 ?_
      refine g_if_eq X (tgt := 49) dX10_draw_31 (by decide) (fun hb => ?_) (fun hb => ?_)
      · have h := ite_t hb h
        refine g_iinc X (j := 4) (w := a10 + (1 : Int32)) (lv' := [(0, .ref (gad (xz x) 0)), (1, .ref (gad (xz x) p5)), (2, .ref (gad (xz x) p7)), (3, .int a9)]) dX10_draw_49 rfl (by rw [ii_1]) (by decide) (fun _ => rfl) (fun v15 e16 => ?_)
        have h := bnd_e e16 h
        refine g_goto X (tgt := 12) dX10_draw_52 (by decide) ?_
        refine g_lv [1, 2, 3, 4, 0] rfl ?_
        exact hrec v15 M h
      · have h := ite_f hb h
        refine g_iload X (j := 4) dX10_draw_34 rfl ?_
        refine g_iload_n X (j := 3) dX10_draw_36 rfl rfl ?_
        refine g_icmp_eq X (tgt := 49) dX10_draw_37 (by decide) (fun hb => ?_) (fun hb => ?_)
        · have h := ite_t hb h
          refine g_iinc X (j := 4) (w := a10 + (1 : Int32)) (lv' := [(0, .ref (gad (xz x) 0)), (1, .ref (gad (xz x) p5)), (2, .ref (gad (xz x) p7)), (3, .int a9)]) dX10_draw_49 rfl (by rw [ii_1]) (by decide) (fun _ => rfl) (fun v17 e18 => ?_)
          have h := bnd_e e18 h
          refine g_goto X (tgt := 12) dX10_draw_52 (by decide) ?_
          refine g_lv [1, 2, 3, 4, 0] rfl ?_
          exact hrec v17 M h
        · have h := ite_f hb h
          refine g_aload_n X (j := 0) dX10_draw_40 rfl rfl ?_
          refine g_aload_n X (j := 1) dX10_draw_41 rfl rfl ?_
          refine g_aload_n X (j := 2) dX10_draw_42 rfl rfl ?_
          refine g_iload X (j := 4) dX10_draw_43 rfl ?_
          obtain ⟨⟨v20, M21⟩, hc19, h⟩ := bndO_e h
          refine gc_X10_334 X gT_c0 (ct_X10_drawPane X.htr k6 k8 hc19) (by decide) (Nat.le_of_ble_eq_true rfl) dX10_draw_45 ?_
          refine g_pop X dX10_draw_48 rfl ?_
          refine g_iinc X (j := 4) (w := a10 + (1 : Int32)) (lv' := [(0, .ref (gad (xz x) 0)), (1, .ref (gad (xz x) p5)), (2, .ref (gad (xz x) p7)), (3, .int a9)]) dX10_draw_49 rfl (by rw [ii_1]) (by decide) (fun _ => rfl) (fun v22 e23 => ?_)
          have h := bnd_e e23 h
          refine g_goto X (tgt := 12) dX10_draw_52 (by decide) ?_
          refine g_lv [1, 2, 3, 4, 0] rfl ?_
          exact hrec v22 M21 h
def f_X10_draw (F : Nat) (p0 : Nat) (p1 : Nat) (i2 : Int32) (M : GM) : Option GM := bndO (f_X7_blank F p0 p1 (gI M 0 14) M) (fun M2 => bnd (0 : Int32) (fun v3 => bndO (lp_X10_draw_12 F p0 p1 i2 F v3 M2) (fun M24 => some M24)))
set_option maxHeartbeats 4000000 in
set_option maxRecDepth 100000 in
theorem w_X10_draw {x : GX} (X : GC x cX10_draw 5 RX10 6) {p0 : Nat} {p1 : Nat} {i2 : Int32} (h1 : gT p0 = 7) (h2 : gT p1 = 0) {F : Nat} {M : GM} {r9 : GM} (hR : ∀ (M9 : GM) (lv9 : List (Nat × Value)) (pc9 : Nat), r9 = M9 → decode cX10_draw pc9 = .ok (.return_, 1) → WG x M9 lv9 pc9 []) (h : f_X10_draw F p0 p1 i2 M = some r9) : WG x M [(0, .ref (gad (xz x) 0)), (1, .ref (gad (xz x) p0)), (2, .ref (gad (xz x) p1)), (3, .int i2)] 0 [] := by
  unfold f_X10_draw at h
  refine g_aload_n X (j := 1) dX10_draw_0 rfl rfl ?_
  refine g_aload_n X (j := 2) dX10_draw_1 rfl rfl ?_
  refine g_aload_n X (j := 0) dX10_draw_2 rfl rfl ?_
  refine gf_X10_192 X gT_c0 dX10_draw_3 ?_
  obtain ⟨M2, hc1, h⟩ := bndO_e h
  refine gc_X10_282 X h1 (ct_X7_blank X.htr h1 h2 hc1) (by decide) (Nat.le_of_ble_eq_true rfl) dX10_draw_6 ?_
  refine g_iconst X (v := 0) dX10_draw_9 (by decide) ?_
  refine g_topi (fun v3 e4 => ?_)
  have h := bnd_e e4 h
  refine g_istore X (lv' := [(4, .int v3), (0, .ref (gad (xz x) 0)), (1, .ref (gad (xz x) p0)), (2, .ref (gad (xz x) p1)), (3, .int i2)]) dX10_draw_10 (by decide) rfl ?_
  refine g_lv [1, 2, 3, 4, 0] rfl ?_
  obtain ⟨M24, hl25, h⟩ := bndO_e h
  refine lw_X10_draw_12 X h1 h2 (fun M24_ e9 => ?_) F v3 M2 hl25
  cases e9
  exact hR M24 _ _ (Option.some.inj h).symm dX10_draw_55
theorem ct_X10_draw {l : Launch} {z : GZ} (htr : l.stackTraces = false) {p0 : Nat} {p1 : Nat} {i2 : Int32} (h1 : gT p0 = 7) (h2 : gT p1 = 0) {M : GM} {F : Nat} {M1 : GM} (h : f_X10_draw F p0 p1 i2 M = some M1) : gMet l z yX10_draw cX10_draw 5 none 6 [.ref (gad z 0), .ref (gad z p0), .ref (gad z p1), .int i2] M (none) M1 := gMet_ofV (by decide +kernel) (Nat.le_of_ble_eq_true rfl) htr (fun x X ez el hR => by subst ez; subst el; exact w_X10_draw X h1 h2 (fun M9 lv9 pc9 e9 d9 => by cases e9; exact hR lv9 pc9 d9) h)
theorem gc_X10_324 {x : GX} {cc : ByteArray} {nL d pc : Nat} {M : GM} {lv : List (Nat × Value)} {st : List Value} (X : GC x cc nL RX10 d) {i0 : Int32} {i1 : Int32} {i2 : Int32} {i3 : Int32} {M1 : GM} {g : Nat} (ht : gT g = 0) (hM : gMet (xl x) (xz x) yX0_span cX0_span 5 none 1 [.ref (gad (xz x) g), .int i0, .int i1, .int i2, .int i3] M (none) M1) (hd : 2 ≤ d) (hsum : (st.map fun v => v.category).sum ≤ 8) (dec : decode cc pc = .ok (.invokevirtual 324, 3)) (go : WG x M1 lv (pc + 3) (st)) : WG x M lv pc (.int i3 :: .int i2 :: .int i1 :: .int i0 :: .ref (gad (xz x) g) :: st) := g_callV X (n := 4) (As := [.int i0, .int i1, .int i2, .int i3]) (rest := st) hM ht (by decide) (gE_0 ht) rfl q_363 q_245 q_246 q_22 q_247 (by decide +kernel) rfl hd (by decide) rfl hsum dec go
theorem dX10_spanTile_0 : decode cX10_spanTile 0 = .ok (.iload_n 1, 1) := by decide +kernel
theorem dX10_spanTile_1 : decode cX10_spanTile 1 = .ok (.iconst 5, 1) := by decide +kernel
theorem dX10_spanTile_2 : decode cX10_spanTile 2 = .ok (.irem, 1) := by decide +kernel
theorem dX10_spanTile_3 : decode cX10_spanTile 3 = .ok (.bipush 8, 2) := by decide +kernel
theorem dX10_spanTile_5 : decode cX10_spanTile 5 = .ok (.imul, 1) := by decide +kernel
theorem dX10_spanTile_6 : decode cX10_spanTile 6 = .ok (.istore_n 2, 1) := by decide +kernel
theorem dX10_spanTile_7 : decode cX10_spanTile 7 = .ok (.iload_n 1, 1) := by decide +kernel
theorem dX10_spanTile_8 : decode cX10_spanTile 8 = .ok (.iconst 5, 1) := by decide +kernel
theorem dX10_spanTile_9 : decode cX10_spanTile 9 = .ok (.idiv, 1) := by decide +kernel
theorem dX10_spanTile_10 : decode cX10_spanTile 10 = .ok (.bipush 8, 2) := by decide +kernel
theorem dX10_spanTile_12 : decode cX10_spanTile 12 = .ok (.imul, 1) := by decide +kernel
theorem dX10_spanTile_13 : decode cX10_spanTile 13 = .ok (.istore_n 3, 1) := by decide +kernel
theorem dX10_spanTile_14 : decode cX10_spanTile 14 = .ok (.aload_n 0, 1) := by decide +kernel
theorem dX10_spanTile_15 : decode cX10_spanTile 15 = .ok (.getfield 72, 3) := by decide +kernel
theorem dX10_spanTile_18 : decode cX10_spanTile 18 = .ok (.iload_n 2, 1) := by decide +kernel
theorem dX10_spanTile_19 : decode cX10_spanTile 19 = .ok (.iload_n 3, 1) := by decide +kernel
theorem dX10_spanTile_20 : decode cX10_spanTile 20 = .ok (.iload_n 2, 1) := by decide +kernel
theorem dX10_spanTile_21 : decode cX10_spanTile 21 = .ok (.bipush 8, 2) := by decide +kernel
theorem dX10_spanTile_23 : decode cX10_spanTile 23 = .ok (.iadd, 1) := by decide +kernel
theorem dX10_spanTile_24 : decode cX10_spanTile 24 = .ok (.iconst 1, 1) := by decide +kernel
theorem dX10_spanTile_25 : decode cX10_spanTile 25 = .ok (.isub, 1) := by decide +kernel
theorem dX10_spanTile_26 : decode cX10_spanTile 26 = .ok (.iload_n 3, 1) := by decide +kernel
theorem dX10_spanTile_27 : decode cX10_spanTile 27 = .ok (.bipush 8, 2) := by decide +kernel
theorem dX10_spanTile_29 : decode cX10_spanTile 29 = .ok (.iadd, 1) := by decide +kernel
theorem dX10_spanTile_30 : decode cX10_spanTile 30 = .ok (.iconst 1, 1) := by decide +kernel
theorem dX10_spanTile_31 : decode cX10_spanTile 31 = .ok (.isub, 1) := by decide +kernel
theorem dX10_spanTile_32 : decode cX10_spanTile 32 = .ok (.invokevirtual 324, 3) := by decide +kernel
theorem dX10_spanTile_35 : decode cX10_spanTile 35 = .ok (.return_, 1) := by decide +kernel
def f_X10_spanTile (i0 : Int32) (M : GM) : GM := bnd ((i0 - i0 / (5 : Int32) * (5 : Int32)) * (8 : Int32)) (fun v1 => bnd ((i0 / (5 : Int32)) * (8 : Int32)) (fun v3 => bnd (f_X0_span 43 v1 v3 ((v1 + (8 : Int32)) - (1 : Int32)) ((v3 + (8 : Int32)) - (1 : Int32)) M) (fun M5 => M5)))
set_option maxHeartbeats 4000000 in
set_option maxRecDepth 100000 in
theorem w_X10_spanTile {x : GX} (X : GC x cX10_spanTile 4 RX10 2) {i0 : Int32}  {M : GM} {r9 : GM} (hR : ∀ (M9 : GM) (lv9 : List (Nat × Value)) (pc9 : Nat), r9 = M9 → decode cX10_spanTile pc9 = .ok (.return_, 1) → WG x M9 lv9 pc9 []) (h : f_X10_spanTile i0 M = r9) : WG x M [(0, .ref (gad (xz x) 0)), (1, .int i0)] 0 [] := by
  unfold f_X10_spanTile at h
  refine g_iload_n X (j := 1) dX10_spanTile_0 rfl rfl ?_
  refine g_iconst X (v := 5) dX10_spanTile_1 (by decide) ?_
  refine g_irem X dX10_spanTile_2 (by decide) ?_
  refine g_bipush X (v := 8) dX10_spanTile_3 (by decide) ?_
  refine g_imul X dX10_spanTile_5 ?_
  refine g_topi (fun v1 e2 => ?_)
  have h := bnd_e e2 h
  refine g_istore_n X (lv' := [(2, .int v1), (0, .ref (gad (xz x) 0)), (1, .int i0)]) dX10_spanTile_6 rfl (by decide) rfl ?_
  refine g_iload_n X (j := 2) dX10_spanTile_7 rfl rfl ?_
  refine g_iconst X (v := 5) dX10_spanTile_8 (by decide) ?_
  refine g_idiv X dX10_spanTile_9 (by decide) ?_
  refine g_bipush X (v := 8) dX10_spanTile_10 (by decide) ?_
  refine g_imul X dX10_spanTile_12 ?_
  refine g_topi (fun v3 e4 => ?_)
  have h := bnd_e e4 h
  refine g_istore_n X (lv' := [(3, .int v3), (2, .int v1), (0, .ref (gad (xz x) 0)), (1, .int i0)]) dX10_spanTile_13 rfl (by decide) rfl ?_
  refine g_aload_n X (j := 2) dX10_spanTile_14 rfl rfl ?_
  refine gf_X10_72 X gT_c0 dX10_spanTile_15 ?_
  refine g_iload_n X (j := 1) dX10_spanTile_18 rfl rfl ?_
  refine g_iload_n X (j := 0) dX10_spanTile_19 rfl rfl ?_
  refine g_iload_n X (j := 1) dX10_spanTile_20 rfl rfl ?_
  refine g_bipush X (v := 8) dX10_spanTile_21 (by decide) ?_
  refine g_iadd X dX10_spanTile_23 ?_
  refine g_iconst X (v := 1) dX10_spanTile_24 (by decide) ?_
  refine g_isub X dX10_spanTile_25 ?_
  refine g_iload_n X (j := 0) dX10_spanTile_26 rfl rfl ?_
  refine g_bipush X (v := 8) dX10_spanTile_27 (by decide) ?_
  refine g_iadd X dX10_spanTile_29 ?_
  refine g_iconst X (v := 1) dX10_spanTile_30 (by decide) ?_
  refine g_isub X dX10_spanTile_31 ?_
  refine gc_X10_324 X gT_c43 (ct_X0_span X.htr gT_c43) (by decide) (Nat.le_of_ble_eq_true rfl) dX10_spanTile_32 ?_
  refine g_mem (fun M5 e6 => ?_)
  have h := bnd_e e6 h
  exact hR M5 _ _ h.symm dX10_spanTile_35
theorem ct_X10_spanTile {l : Launch} {z : GZ} (htr : l.stackTraces = false) {i0 : Int32}  {M : GM} : gMet l z yX10_spanTile cX10_spanTile 4 none 2 [.ref (gad z 0), .int i0] M (none) (f_X10_spanTile i0 M) := gMet_ofV (by decide +kernel) (Nat.le_of_ble_eq_true rfl) htr (fun x X ez el hR => by subst ez; subst el; exact w_X10_spanTile X  (fun M9 lv9 pc9 e9 d9 => by cases e9; exact hR lv9 pc9 d9) rfl)
theorem gc_X10_299 {x : GX} {cc : ByteArray} {nL d pc : Nat} {M : GM} {lv : List (Nat × Value)} {st : List Value} (X : GC x cc nL RX10 d) {i0 : Int32} {M1 : GM} (ht : gT 0 = 10) (hM : gMet (xl x) (xz x) yX10_spanTile cX10_spanTile 4 none 2 [.ref (gad (xz x) 0), .int i0] M (none) M1) (hd : 3 ≤ d) (hsum : (st.map fun v => v.category).sum ≤ 8) (dec : decode cc pc = .ok (.invokevirtual 299, 3)) (go : WG x M1 lv (pc + 3) (st)) : WG x M lv pc (.int i0 :: .ref (gad (xz x) 0) :: st) := g_callV X (n := 1) (As := [.int i0]) (rest := st) hM ht (by decide) (gE_10 ht) rfl q_359 q_361 q_11 q_17 q_362 (by decide +kernel) rfl hd (by decide) rfl hsum dec go
theorem gc_X10_302 {x : GX} {cc : ByteArray} {nL d pc : Nat} {M : GM} {lv : List (Nat × Value)} {st : List Value} (X : GC x cc nL RX10 d) {i0 : Nat} {i1 : Nat} {M1 : GM} {r : Int32} {g : Nat} (ht : gT g = 7) (hM : gMet (xl x) (xz x) yX7_differsFrom cX7_differsFrom 6 (some .boolean) 0 [.ref (gad (xz x) g), .ref (gad (xz x) i0), .ref (gad (xz x) i1)] M (some (.int r)) M1) (hd : 1 ≤ d) (hsum : (st.map fun v => v.category).sum ≤ 8) (dec : decode cc pc = .ok (.invokevirtual 302, 3)) (go : WG x M1 lv (pc + 3) (.int r :: st)) : WG x M lv pc (.ref (gad (xz x) i1) :: .ref (gad (xz x) i0) :: .ref (gad (xz x) g) :: st) := g_callV X (n := 2) (As := [.ref (gad (xz x) i0), .ref (gad (xz x) i1)]) (rest := st) hM ht (by decide) (gE_7 ht) rfl q_364 q_365 q_366 q_23 q_367 (by decide +kernel) rfl hd (by decide) rfl hsum dec go
theorem dX10_countStaleTiles_0 : decode cX10_countStaleTiles 0 = .ok (.iconst 0, 1) := by decide +kernel
theorem dX10_countStaleTiles_1 : decode cX10_countStaleTiles 1 = .ok (.istore_n 1, 1) := by decide +kernel
theorem dX10_countStaleTiles_2 : decode cX10_countStaleTiles 2 = .ok (.iconst 0, 1) := by decide +kernel
theorem dX10_countStaleTiles_3 : decode cX10_countStaleTiles 3 = .ok (.istore_n 2, 1) := by decide +kernel
theorem dX10_countStaleTiles_4 : decode cX10_countStaleTiles 4 = .ok (.iload_n 2, 1) := by decide +kernel
theorem dX10_countStaleTiles_5 : decode cX10_countStaleTiles 5 = .ok (.bipush 15, 2) := by decide +kernel
theorem dX10_countStaleTiles_7 : decode cX10_countStaleTiles 7 = .ok (.if_icmp .ge 35, 3) := by decide +kernel
theorem dX10_countStaleTiles_10 : decode cX10_countStaleTiles 10 = .ok (.aload_n 0, 1) := by decide +kernel
theorem dX10_countStaleTiles_11 : decode cX10_countStaleTiles 11 = .ok (.iload_n 2, 1) := by decide +kernel
theorem dX10_countStaleTiles_12 : decode cX10_countStaleTiles 12 = .ok (.invokevirtual 299, 3) := by decide +kernel
theorem dX10_countStaleTiles_15 : decode cX10_countStaleTiles 15 = .ok (.aload_n 0, 1) := by decide +kernel
theorem dX10_countStaleTiles_16 : decode cX10_countStaleTiles 16 = .ok (.getfield 48, 3) := by decide +kernel
theorem dX10_countStaleTiles_19 : decode cX10_countStaleTiles 19 = .ok (.aload_n 0, 1) := by decide +kernel
theorem dX10_countStaleTiles_20 : decode cX10_countStaleTiles 20 = .ok (.getfield 44, 3) := by decide +kernel
theorem dX10_countStaleTiles_23 : decode cX10_countStaleTiles 23 = .ok (.aload_n 0, 1) := by decide +kernel
theorem dX10_countStaleTiles_24 : decode cX10_countStaleTiles 24 = .ok (.getfield 72, 3) := by decide +kernel
theorem dX10_countStaleTiles_27 : decode cX10_countStaleTiles 27 = .ok (.invokevirtual 302, 3) := by decide +kernel
theorem dX10_countStaleTiles_30 : decode cX10_countStaleTiles 30 = .ok (.ifCond .eq 6, 3) := by decide +kernel
theorem dX10_countStaleTiles_33 : decode cX10_countStaleTiles 33 = .ok (.iinc 1 1, 3) := by decide +kernel
theorem dX10_countStaleTiles_36 : decode cX10_countStaleTiles 36 = .ok (.iinc 2 1, 3) := by decide +kernel
theorem dX10_countStaleTiles_39 : decode cX10_countStaleTiles 39 = .ok (.goto (-35), 3) := by decide +kernel
theorem dX10_countStaleTiles_42 : decode cX10_countStaleTiles 42 = .ok (.iload_n 1, 1) := by decide +kernel
theorem dX10_countStaleTiles_43 : decode cX10_countStaleTiles 43 = .ok (.ireturn, 1) := by decide +kernel
def st_X10_countStaleTiles_4 (F : Nat)  (rec : Int32 → Int32 → GM → Option (Int32 × GM)) (a5 : Int32) (a6 : Int32) (M : GM) : Option (Int32 × GM) := if (15 : Int32) ≤ a6 then (some (a5, M)) else (bnd (f_X10_spanTile a6 M) (fun M7 => bndO (f_X7_differsFrom F 31 27 43 M7) (fun v10 => if v10 = 0 then (bnd (a6 + (1 : Int32)) (fun v11 => rec a5 v11 M7)) else (bnd (a5 + (1 : Int32)) (fun v13 => bnd (a6 + (1 : Int32)) (fun v15 => rec v13 v15 M7))))))
def lp_X10_countStaleTiles_4 (F : Nat)  : Nat → Int32 → Int32 → GM → Option (Int32 × GM)
  | 0 => fun _ _ _ => none
  | f + 1 => fun a5 a6 M => st_X10_countStaleTiles_4 F  (lp_X10_countStaleTiles_4 F  f) a5 a6 M
set_option maxHeartbeats 4000000 in
set_option maxRecDepth 100000 in
theorem lw_X10_countStaleTiles_4 {x : GX} (X : GC x cX10_countStaleTiles 3 RX10 3)   {F : Nat} {r9 : (Int32 × GM)} (hE : ∀ (x1_9 : Int32) (M9 : GM), r9 = (x1_9, M9) → WG x M9 [(1, .int x1_9)] 42 []) : ∀ (f : Nat) (a5 : Int32) (a6 : Int32) (M : GM), lp_X10_countStaleTiles_4 F  f a5 a6 M = some r9 → WG x M [(0, .ref (gad (xz x) 0)), (1, .int a5), (2, .int a6)] 4 [] := by
  intro f
  induction f with
  | zero => intro a5 a6 M h; cases h
  | succ f ih =>
    intro a5 a6 M h
    have hrec := ih
    have h : st_X10_countStaleTiles_4 F  (lp_X10_countStaleTiles_4 F  f) a5 a6 M = some r9 := h
    generalize lp_X10_countStaleTiles_4 F  f = rec at h hrec
    unfold st_X10_countStaleTiles_4 at h
    refine g_iload_n X (j := 2) dX10_countStaleTiles_4 rfl rfl ?_
    refine g_bipush X (v := 15) dX10_countStaleTiles_5 (by decide) ?_
    refine g_icmp_ge X (tgt := 42) dX10_countStaleTiles_7 (by decide) (fun hb => ?_) (fun hb => ?_)
    · have h := ite_t hb h
      refine g_lv [1] rfl ?_
      exact hE a5 M (Option.some.inj h).symm
    · have h := ite_f hb h
      refine g_aload_n X (j := 0) dX10_countStaleTiles_10 rfl rfl ?_
      refine g_iload_n X (j := 2) dX10_countStaleTiles_11 rfl rfl ?_
      refine gc_X10_299 X gT_c0 (ct_X10_spanTile X.htr ) (by decide) (Nat.le_of_ble_eq_true rfl) dX10_countStaleTiles_12 ?_
      refine g_mem (fun M7 e8 => ?_)
      have h := bnd_e e8 h
      refine g_aload_n X (j := 0) dX10_countStaleTiles_15 rfl rfl ?_
      refine gf_X10_48 X gT_c0 dX10_countStaleTiles_16 ?_
      refine g_aload_n X (j := 0) dX10_countStaleTiles_19 rfl rfl ?_
      refine gf_X10_44 X gT_c0 dX10_countStaleTiles_20 ?_
      refine g_aload_n X (j := 0) dX10_countStaleTiles_23 rfl rfl ?_
      refine gf_X10_72 X gT_c0 dX10_countStaleTiles_24 ?_
      obtain ⟨v10, hc9, h⟩ := bndO_e h
      refine gc_X10_302 X gT_c31 (ct_X7_differsFrom X.htr gT_c31 gT_c27 gT_c43 hc9) (by decide) (Nat.le_of_ble_eq_true rfl) dX10_countStaleTiles_27 ?_
      refine g_if_eq X (tgt := 36) dX10_countStaleTiles_30 (by decide) (fun hb => ?_) (fun hb => ?_)
      · have h := ite_t hb h
        refine g_iinc X (j := 2) (w := a6 + (1 : Int32)) (lv' := [(0, .ref (gad (xz x) 0)), (1, .int a5)]) dX10_countStaleTiles_36 rfl (by rw [ii_1]) (by decide) (fun _ => rfl) (fun v11 e12 => ?_)
        have h := bnd_e e12 h
        refine g_goto X (tgt := 4) dX10_countStaleTiles_39 (by decide) ?_
        refine g_lv [1, 2, 0] rfl ?_
        exact hrec a5 v11 M7 h
      · have h := ite_f hb h
        refine g_iinc X (j := 1) (w := a5 + (1 : Int32)) (lv' := [(0, .ref (gad (xz x) 0)), (2, .int a6)]) dX10_countStaleTiles_33 rfl (by rw [ii_1]) (by decide) (fun _ => rfl) (fun v13 e14 => ?_)
        have h := bnd_e e14 h
        refine g_iinc X (j := 2) (w := a6 + (1 : Int32)) (lv' := [(1, .int v13), (0, .ref (gad (xz x) 0))]) dX10_countStaleTiles_36 rfl (by rw [ii_1]) (by decide) (fun _ => rfl) (fun v15 e16 => ?_)
        have h := bnd_e e16 h
        refine g_goto X (tgt := 4) dX10_countStaleTiles_39 (by decide) ?_
        refine g_lv [2, 1, 0] rfl ?_
        exact hrec v13 v15 M7 h
def f_X10_countStaleTiles (F : Nat) (M : GM) : Option (Int32 × GM) := bnd (0 : Int32) (fun v1 => bnd (0 : Int32) (fun v3 => bndO (lp_X10_countStaleTiles_4 F  F v1 v3 M) (fun (v17, M18) => some (v17, M18))))
set_option maxHeartbeats 4000000 in
set_option maxRecDepth 100000 in
theorem w_X10_countStaleTiles {x : GX} (X : GC x cX10_countStaleTiles 3 RX10 3)   {F : Nat} {M : GM} {r9 : (Int32 × GM)} (hR : ∀ (v9 : Int32) (M9 : GM) (lv9 : List (Nat × Value)) (pc9 : Nat), r9 = (v9, M9) → decode cX10_countStaleTiles pc9 = .ok (.ireturn, 1) → WG x M9 lv9 pc9 [.int v9]) (h : f_X10_countStaleTiles F M = some r9) : WG x M [(0, .ref (gad (xz x) 0))] 0 [] := by
  unfold f_X10_countStaleTiles at h
  refine g_iconst X (v := 0) dX10_countStaleTiles_0 (by decide) ?_
  refine g_topi (fun v1 e2 => ?_)
  have h := bnd_e e2 h
  refine g_istore_n X (lv' := [(1, .int v1), (0, .ref (gad (xz x) 0))]) dX10_countStaleTiles_1 rfl (by decide) rfl ?_
  refine g_iconst X (v := 0) dX10_countStaleTiles_2 (by decide) ?_
  refine g_topi (fun v3 e4 => ?_)
  have h := bnd_e e4 h
  refine g_istore_n X (lv' := [(2, .int v3), (1, .int v1), (0, .ref (gad (xz x) 0))]) dX10_countStaleTiles_3 rfl (by decide) rfl ?_
  refine g_lv [2, 1, 0] rfl ?_
  obtain ⟨⟨v17, M18⟩, hl19, h⟩ := bndO_e h
  refine lw_X10_countStaleTiles_4 X  (fun v17_ M18_ e9 => ?_) F v1 v3 M hl19
  cases e9
  refine g_iload_n X (j := 0) dX10_countStaleTiles_42 rfl rfl ?_
  exact hR v17 M18 _ _ (Option.some.inj h).symm dX10_countStaleTiles_43
theorem ct_X10_countStaleTiles {l : Launch} {z : GZ} (htr : l.stackTraces = false)   {M : GM} {F : Nat} {v : Int32} {M1 : GM} (h : f_X10_countStaleTiles F M = some (v, M1)) : gMet l z yX10_countStaleTiles cX10_countStaleTiles 3 (some .int) 3 [.ref (gad z 0)] M (some (.int v)) M1 := gMet_ofI (by decide +kernel) (Nat.le_of_ble_eq_true rfl) htr rfl (fun x X ez el hR => by subst ez; subst el; exact w_X10_countStaleTiles X  (fun v9 M9 lv9 pc9 e9 d9 => by cases e9; exact hR lv9 pc9 d9) h)
theorem gc_X10_286 {x : GX} {cc : ByteArray} {nL d pc : Nat} {M : GM} {lv : List (Nat × Value)} {st : List Value} (X : GC x cc nL RX10 d) {i0 : Nat} {i1 : Nat} {i2 : Int32} {M1 : GM} (ht : gT 0 = 10) (hM : gMet (xl x) (xz x) yX10_draw cX10_draw 5 none 6 [.ref (gad (xz x) 0), .ref (gad (xz x) i0), .ref (gad (xz x) i1), .int i2] M (none) M1) (hd : 7 ≤ d) (hsum : (st.map fun v => v.category).sum ≤ 8) (dec : decode cc pc = .ok (.invokevirtual 286, 3)) (go : WG x M1 lv (pc + 3) (st)) : WG x M lv pc (.int i2 :: .ref (gad (xz x) i1) :: .ref (gad (xz x) i0) :: .ref (gad (xz x) 0) :: st) := g_callV X (n := 3) (As := [.ref (gad (xz x) i0), .ref (gad (xz x) i1), .int i2]) (rest := st) hM ht (by decide) (gE_10 ht) rfl q_328 q_330 q_6 q_17 q_331 (by decide +kernel) rfl hd (by decide) rfl hsum dec go
theorem gc_X10_290 {x : GX} {cc : ByteArray} {nL d pc : Nat} {M : GM} {lv : List (Nat × Value)} {st : List Value} (X : GC x cc nL RX10 d)  {M1 : GM} {r : Int32} (ht : gT 0 = 10) (hM : gMet (xl x) (xz x) yX10_countStaleTiles cX10_countStaleTiles 3 (some .int) 3 [.ref (gad (xz x) 0)] M (some (.int r)) M1) (hd : 4 ≤ d) (hsum : (st.map fun v => v.category).sum ≤ 8) (dec : decode cc pc = .ok (.invokevirtual 290, 3)) (go : WG x M1 lv (pc + 3) (.int r :: st)) : WG x M lv pc (.ref (gad (xz x) 0) :: st) := g_callV X (n := 0) (As := []) (rest := st) hM ht (by decide) (gE_10 ht) rfl q_355 q_357 q_10 q_17 q_358 (by decide +kernel) rfl hd (by decide) rfl hsum dec go
theorem gc_X10_293 {x : GX} {cc : ByteArray} {nL d pc : Nat} {M : GM} {lv : List (Nat × Value)} {st : List Value} (X : GC x cc nL RX10 d) {i0 : Nat} {M1 : GM} {g : Nat} (ht : gT g = 7) (hM : gMet (xl x) (xz x) yX7_copy cX7_copy 2 none 1 [.ref (gad (xz x) g), .ref (gad (xz x) i0)] M (none) M1) (hd : 2 ≤ d) (hsum : (st.map fun v => v.category).sum ≤ 8) (dec : decode cc pc = .ok (.invokevirtual 293, 3)) (go : WG x M1 lv (pc + 3) (st)) : WG x M lv pc (.ref (gad (xz x) i0) :: .ref (gad (xz x) g) :: st) := g_callV X (n := 1) (As := [.ref (gad (xz x) i0)]) (rest := st) hM ht (by decide) (gE_7 ht) rfl q_368 q_369 q_370 q_23 q_371 (by decide +kernel) rfl hd (by decide) rfl hsum dec go
theorem dX10_paint_0 : decode cX10_paint 0 = .ok (.aload_n 0, 1) := by decide +kernel
theorem dX10_paint_1 : decode cX10_paint 1 = .ok (.aload_n 0, 1) := by decide +kernel
theorem dX10_paint_2 : decode cX10_paint 2 = .ok (.getfield 48, 3) := by decide +kernel
theorem dX10_paint_5 : decode cX10_paint 5 = .ok (.aload_n 0, 1) := by decide +kernel
theorem dX10_paint_6 : decode cX10_paint 6 = .ok (.getfield 68, 3) := by decide +kernel
theorem dX10_paint_9 : decode cX10_paint 9 = .ok (.iconst (-1), 1) := by decide +kernel
theorem dX10_paint_10 : decode cX10_paint 10 = .ok (.invokevirtual 286, 3) := by decide +kernel
theorem dX10_paint_13 : decode cX10_paint 13 = .ok (.aload_n 0, 1) := by decide +kernel
theorem dX10_paint_14 : decode cX10_paint 14 = .ok (.invokevirtual 290, 3) := by decide +kernel
theorem dX10_paint_17 : decode cX10_paint 17 = .ok (.istore_n 1, 1) := by decide +kernel
theorem dX10_paint_18 : decode cX10_paint 18 = .ok (.aload_n 0, 1) := by decide +kernel
theorem dX10_paint_19 : decode cX10_paint 19 = .ok (.getfield 44, 3) := by decide +kernel
theorem dX10_paint_22 : decode cX10_paint 22 = .ok (.aload_n 0, 1) := by decide +kernel
theorem dX10_paint_23 : decode cX10_paint 23 = .ok (.getfield 48, 3) := by decide +kernel
theorem dX10_paint_26 : decode cX10_paint 26 = .ok (.invokevirtual 293, 3) := by decide +kernel
theorem dX10_paint_29 : decode cX10_paint 29 = .ok (.iload_n 1, 1) := by decide +kernel
theorem dX10_paint_30 : decode cX10_paint 30 = .ok (.ireturn, 1) := by decide +kernel
def f_X10_paint (F : Nat) (M : GM) : Option (Int32 × GM) := bndO (f_X10_draw F 31 42 ((-1) : Int32) M) (fun M2 => bndO (f_X10_countStaleTiles F M2) (fun (v4, M5) => bnd v4 (fun v6 => bndO (f_X7_copy F 27 31 M5) (fun M9 => some (v6, M9)))))
set_option maxHeartbeats 4000000 in
set_option maxRecDepth 100000 in
theorem w_X10_paint {x : GX} (X : GC x cX10_paint 2 RX10 7)   {F : Nat} {M : GM} {r9 : (Int32 × GM)} (hR : ∀ (v9 : Int32) (M9 : GM) (lv9 : List (Nat × Value)) (pc9 : Nat), r9 = (v9, M9) → decode cX10_paint pc9 = .ok (.ireturn, 1) → WG x M9 lv9 pc9 [.int v9]) (h : f_X10_paint F M = some r9) : WG x M [(0, .ref (gad (xz x) 0))] 0 [] := by
  unfold f_X10_paint at h
  refine g_aload_n X (j := 0) dX10_paint_0 rfl rfl ?_
  refine g_aload_n X (j := 0) dX10_paint_1 rfl rfl ?_
  refine gf_X10_48 X gT_c0 dX10_paint_2 ?_
  refine g_aload_n X (j := 0) dX10_paint_5 rfl rfl ?_
  refine gf_X10_68 X gT_c0 dX10_paint_6 ?_
  refine g_iconst X (v := (-1)) dX10_paint_9 (by decide) ?_
  obtain ⟨M2, hc1, h⟩ := bndO_e h
  refine gc_X10_286 X gT_c0 (ct_X10_draw X.htr gT_c31 gT_c42 hc1) (by decide) (Nat.le_of_ble_eq_true rfl) dX10_paint_10 ?_
  refine g_aload_n X (j := 0) dX10_paint_13 rfl rfl ?_
  obtain ⟨⟨v4, M5⟩, hc3, h⟩ := bndO_e h
  refine gc_X10_290 X gT_c0 (ct_X10_countStaleTiles X.htr  hc3) (by decide) (Nat.le_of_ble_eq_true rfl) dX10_paint_14 ?_
  refine g_topi (fun v6 e7 => ?_)
  have h := bnd_e e7 h
  refine g_istore_n X (lv' := [(1, .int v6), (0, .ref (gad (xz x) 0))]) dX10_paint_17 rfl (by decide) rfl ?_
  refine g_aload_n X (j := 1) dX10_paint_18 rfl rfl ?_
  refine gf_X10_44 X gT_c0 dX10_paint_19 ?_
  refine g_aload_n X (j := 1) dX10_paint_22 rfl rfl ?_
  refine gf_X10_48 X gT_c0 dX10_paint_23 ?_
  obtain ⟨M9, hc8, h⟩ := bndO_e h
  refine gc_X10_293 X gT_c27 (ct_X7_copy X.htr gT_c27 gT_c31 hc8) (by decide) (Nat.le_of_ble_eq_true rfl) dX10_paint_26 ?_
  refine g_iload_n X (j := 0) dX10_paint_29 rfl rfl ?_
  exact hR v6 M9 _ _ (Option.some.inj h).symm dX10_paint_30
theorem ct_X10_paint {l : Launch} {z : GZ} (htr : l.stackTraces = false)   {M : GM} {F : Nat} {v : Int32} {M1 : GM} (h : f_X10_paint F M = some (v, M1)) : gMet l z yX10_paint cX10_paint 2 (some .int) 7 [.ref (gad z 0)] M (some (.int v)) M1 := gMet_ofI (by decide +kernel) (Nat.le_of_ble_eq_true rfl) htr rfl (fun x X ez el hR => by subst ez; subst el; exact w_X10_paint X  (fun v9 M9 lv9 pc9 e9 d9 => by cases e9; exact hR lv9 pc9 d9) h)
theorem dX10_stale_0 : decode cX10_stale 0 = .ok (.aload_n 0, 1) := by decide +kernel
theorem dX10_stale_1 : decode cX10_stale 1 = .ok (.aload_n 0, 1) := by decide +kernel
theorem dX10_stale_2 : decode cX10_stale 2 = .ok (.getfield 48, 3) := by decide +kernel
theorem dX10_stale_5 : decode cX10_stale 5 = .ok (.aload_n 0, 1) := by decide +kernel
theorem dX10_stale_6 : decode cX10_stale 6 = .ok (.getfield 68, 3) := by decide +kernel
theorem dX10_stale_9 : decode cX10_stale 9 = .ok (.iconst (-1), 1) := by decide +kernel
theorem dX10_stale_10 : decode cX10_stale 10 = .ok (.invokevirtual 286, 3) := by decide +kernel
theorem dX10_stale_13 : decode cX10_stale 13 = .ok (.aload_n 0, 1) := by decide +kernel
theorem dX10_stale_14 : decode cX10_stale 14 = .ok (.invokevirtual 290, 3) := by decide +kernel
theorem dX10_stale_17 : decode cX10_stale 17 = .ok (.ireturn, 1) := by decide +kernel
def f_X10_stale (F : Nat) (M : GM) : Option (Int32 × GM) := bndO (f_X10_draw F 31 42 ((-1) : Int32) M) (fun M2 => bndO (f_X10_countStaleTiles F M2) (fun (v4, M5) => some (v4, M5)))
set_option maxHeartbeats 4000000 in
set_option maxRecDepth 100000 in
theorem w_X10_stale {x : GX} (X : GC x cX10_stale 1 RX10 7)   {F : Nat} {M : GM} {r9 : (Int32 × GM)} (hR : ∀ (v9 : Int32) (M9 : GM) (lv9 : List (Nat × Value)) (pc9 : Nat), r9 = (v9, M9) → decode cX10_stale pc9 = .ok (.ireturn, 1) → WG x M9 lv9 pc9 [.int v9]) (h : f_X10_stale F M = some r9) : WG x M [(0, .ref (gad (xz x) 0))] 0 [] := by
  unfold f_X10_stale at h
  refine g_aload_n X (j := 0) dX10_stale_0 rfl rfl ?_
  refine g_aload_n X (j := 0) dX10_stale_1 rfl rfl ?_
  refine gf_X10_48 X gT_c0 dX10_stale_2 ?_
  refine g_aload_n X (j := 0) dX10_stale_5 rfl rfl ?_
  refine gf_X10_68 X gT_c0 dX10_stale_6 ?_
  refine g_iconst X (v := (-1)) dX10_stale_9 (by decide) ?_
  obtain ⟨M2, hc1, h⟩ := bndO_e h
  refine gc_X10_286 X gT_c0 (ct_X10_draw X.htr gT_c31 gT_c42 hc1) (by decide) (Nat.le_of_ble_eq_true rfl) dX10_stale_10 ?_
  refine g_aload_n X (j := 0) dX10_stale_13 rfl rfl ?_
  obtain ⟨⟨v4, M5⟩, hc3, h⟩ := bndO_e h
  refine gc_X10_290 X gT_c0 (ct_X10_countStaleTiles X.htr  hc3) (by decide) (Nat.le_of_ble_eq_true rfl) dX10_stale_14 ?_
  exact hR v4 M5 _ _ (Option.some.inj h).symm dX10_stale_17
theorem ct_X10_stale {l : Launch} {z : GZ} (htr : l.stackTraces = false)   {M : GM} {F : Nat} {v : Int32} {M1 : GM} (h : f_X10_stale F M = some (v, M1)) : gMet l z yX10_stale cX10_stale 1 (some .int) 7 [.ref (gad z 0)] M (some (.int v)) M1 := gMet_ofI (by decide +kernel) (Nat.le_of_ble_eq_true rfl) htr rfl (fun x X ez el hR => by subst ez; subst el; exact w_X10_stale X  (fun v9 M9 lv9 pc9 e9 d9 => by cases e9; exact hR lv9 pc9 d9) h)
theorem dX10_colourAt_0 : decode cX10_colourAt 0 = .ok (.iload_n 1, 1) := by decide +kernel
theorem dX10_colourAt_1 : decode cX10_colourAt 1 = .ok (.iload_n 2, 1) := by decide +kernel
theorem dX10_colourAt_2 : decode cX10_colourAt 2 = .ok (.invokestatic 271, 3) := by decide +kernel
theorem dX10_colourAt_5 : decode cX10_colourAt 5 = .ok (.aload_n 0, 1) := by decide +kernel
theorem dX10_colourAt_6 : decode cX10_colourAt 6 = .ok (.getfield 44, 3) := by decide +kernel
theorem dX10_colourAt_9 : decode cX10_colourAt 9 = .ok (.getfield 306, 3) := by decide +kernel
theorem dX10_colourAt_12 : decode cX10_colourAt 12 = .ok (.iload_n 2, 1) := by decide +kernel
theorem dX10_colourAt_13 : decode cX10_colourAt 13 = .ok (.bipush 40, 2) := by decide +kernel
theorem dX10_colourAt_15 : decode cX10_colourAt 15 = .ok (.imul, 1) := by decide +kernel
theorem dX10_colourAt_16 : decode cX10_colourAt 16 = .ok (.iload_n 1, 1) := by decide +kernel
theorem dX10_colourAt_17 : decode cX10_colourAt 17 = .ok (.iadd, 1) := by decide +kernel
theorem dX10_colourAt_18 : decode cX10_colourAt 18 = .ok (.iaload, 1) := by decide +kernel
theorem dX10_colourAt_19 : decode cX10_colourAt 19 = .ok (.ireturn, 1) := by decide +kernel
def f_X10_colourAt (F : Nat) (i0 : Int32) (i1 : Int32) (M : GM) : Option (Nat ⊕ Int32) := bndT (f_X10_requirePoint F i0 i1 M) (fun n2 => some (Sum.inl n2)) (fun _ => grd (gIn ((i1 * (40 : Int32)) + i0) (gN 28)) (some (Sum.inr (gI M 28 (((i1 * (40 : Int32)) + i0).toNatClampNeg)))))
set_option maxHeartbeats 4000000 in
set_option maxRecDepth 100000 in
theorem w_X10_colourAt {x : GX} (X : GC x cX10_colourAt 3 RX10 7) {i0 : Int32} {i1 : Int32}  {F : Nat} {M : GM} {r9 : (Nat ⊕ Int32)} (hR : ∀ (v9 : Int32) (lv9 : List (Nat × Value)) (pc9 : Nat), r9 = Sum.inr v9 → decode cX10_colourAt pc9 = .ok (.ireturn, 1) → WG x M lv9 pc9 [.int v9]) (hX : ∀ (n9 : Nat), r9 = Sum.inl n9 → GThr x n9 M) (h : f_X10_colourAt F i0 i1 M = some r9) : WG x M [(0, .ref (gad (xz x) 0)), (1, .int i0), (2, .int i1)] 0 [] := by
  unfold f_X10_colourAt at h
  refine g_iload_n X (j := 1) dX10_colourAt_0 rfl rfl ?_
  refine g_iload_n X (j := 2) dX10_colourAt_1 rfl rfl ?_
  rcases bndT_e h with ⟨n2, hc1, h⟩ | ⟨⟨⟩, hc1, h⟩
  · exact gx_X10_271 X (cx_X10_requirePoint X.htr  hc1) (by decide) (Nat.le_of_ble_eq_true rfl) dX10_colourAt_2 (hX n2 (Option.some.inj h).symm)
  refine gc_X10_271 X (ct_X10_requirePoint X.htr  hc1) (by decide) (Nat.le_of_ble_eq_true rfl) dX10_colourAt_2 ?_
  refine g_aload_n X (j := 0) dX10_colourAt_5 rfl rfl ?_
  refine gf_X10_44 X gT_c0 dX10_colourAt_6 ?_
  refine gf_X10_306 X gT_c27 dX10_colourAt_9 ?_
  refine g_iload_n X (j := 2) dX10_colourAt_12 rfl rfl ?_
  refine g_bipush X (v := 40) dX10_colourAt_13 (by decide) ?_
  refine g_imul X dX10_colourAt_15 ?_
  refine g_iload_n X (j := 1) dX10_colourAt_16 rfl rfl ?_
  refine g_iadd X dX10_colourAt_17 ?_
  obtain ⟨hg3, h⟩ := grd_e h
  refine g_iald X gT_c28 hg3 dX10_colourAt_18 ?_
  exact hR (gI M 28 (((i1 * (40 : Int32)) + i0).toNatClampNeg)) _ _ (Option.some.inj h).symm dX10_colourAt_19
theorem ct_X10_colourAt {l : Launch} {z : GZ} (htr : l.stackTraces = false) {i0 : Int32} {i1 : Int32}  {M : GM} {F : Nat} {v : Int32} (h : f_X10_colourAt F i0 i1 M = some (Sum.inr v)) : gMet l z yX10_colourAt cX10_colourAt 3 (some .int) 7 [.ref (gad z 0), .int i0, .int i1] M (some (.int v)) M := gMet_ofI (by decide +kernel) (Nat.le_of_ble_eq_true rfl) htr rfl (fun x X ez el hR => by subst ez; subst el; exact w_X10_colourAt X  (fun v9 lv9 pc9 e9 d9 => by cases e9; exact hR lv9 pc9 d9) (by intros; rename_i e9; cases e9) h)
theorem cx_X10_colourAt {l : Launch} {z : GZ} (htr : l.stackTraces = false) {i0 : Int32} {i1 : Int32}  {M : GM} {F n : Nat} (h : f_X10_colourAt F i0 i1 M = some (Sum.inl n)) : gMetX l z yX10_colourAt cX10_colourAt 3 (some .int) 7 [.ref (gad z 0), .int i0, .int i1] M n M := gMetX_of (by decide +kernel) (Nat.le_of_ble_eq_true rfl) htr (fun x X ez el hT => by subst ez; subst el; exact w_X10_colourAt X  (by intros; rename_i e9 _; cases e9) (fun n9 e9 => by cases e9; exact hT) h)
theorem dX10_depthAt_0 : decode cX10_depthAt 0 = .ok (.iload_n 1, 1) := by decide +kernel
theorem dX10_depthAt_1 : decode cX10_depthAt 1 = .ok (.iload_n 2, 1) := by decide +kernel
theorem dX10_depthAt_2 : decode cX10_depthAt 2 = .ok (.invokestatic 271, 3) := by decide +kernel
theorem dX10_depthAt_5 : decode cX10_depthAt 5 = .ok (.aload_n 0, 1) := by decide +kernel
theorem dX10_depthAt_6 : decode cX10_depthAt 6 = .ok (.getfield 44, 3) := by decide +kernel
theorem dX10_depthAt_9 : decode cX10_depthAt 9 = .ok (.getfield 309, 3) := by decide +kernel
theorem dX10_depthAt_12 : decode cX10_depthAt 12 = .ok (.iload_n 2, 1) := by decide +kernel
theorem dX10_depthAt_13 : decode cX10_depthAt 13 = .ok (.bipush 40, 2) := by decide +kernel
theorem dX10_depthAt_15 : decode cX10_depthAt 15 = .ok (.imul, 1) := by decide +kernel
theorem dX10_depthAt_16 : decode cX10_depthAt 16 = .ok (.iload_n 1, 1) := by decide +kernel
theorem dX10_depthAt_17 : decode cX10_depthAt 17 = .ok (.iadd, 1) := by decide +kernel
theorem dX10_depthAt_18 : decode cX10_depthAt 18 = .ok (.iaload, 1) := by decide +kernel
theorem dX10_depthAt_19 : decode cX10_depthAt 19 = .ok (.ireturn, 1) := by decide +kernel
def f_X10_depthAt (F : Nat) (i0 : Int32) (i1 : Int32) (M : GM) : Option (Nat ⊕ Int32) := bndT (f_X10_requirePoint F i0 i1 M) (fun n2 => some (Sum.inl n2)) (fun _ => grd (gIn ((i1 * (40 : Int32)) + i0) (gN 29)) (some (Sum.inr (gI M 29 (((i1 * (40 : Int32)) + i0).toNatClampNeg)))))
set_option maxHeartbeats 4000000 in
set_option maxRecDepth 100000 in
theorem w_X10_depthAt {x : GX} (X : GC x cX10_depthAt 3 RX10 7) {i0 : Int32} {i1 : Int32}  {F : Nat} {M : GM} {r9 : (Nat ⊕ Int32)} (hR : ∀ (v9 : Int32) (lv9 : List (Nat × Value)) (pc9 : Nat), r9 = Sum.inr v9 → decode cX10_depthAt pc9 = .ok (.ireturn, 1) → WG x M lv9 pc9 [.int v9]) (hX : ∀ (n9 : Nat), r9 = Sum.inl n9 → GThr x n9 M) (h : f_X10_depthAt F i0 i1 M = some r9) : WG x M [(0, .ref (gad (xz x) 0)), (1, .int i0), (2, .int i1)] 0 [] := by
  unfold f_X10_depthAt at h
  refine g_iload_n X (j := 1) dX10_depthAt_0 rfl rfl ?_
  refine g_iload_n X (j := 2) dX10_depthAt_1 rfl rfl ?_
  rcases bndT_e h with ⟨n2, hc1, h⟩ | ⟨⟨⟩, hc1, h⟩
  · exact gx_X10_271 X (cx_X10_requirePoint X.htr  hc1) (by decide) (Nat.le_of_ble_eq_true rfl) dX10_depthAt_2 (hX n2 (Option.some.inj h).symm)
  refine gc_X10_271 X (ct_X10_requirePoint X.htr  hc1) (by decide) (Nat.le_of_ble_eq_true rfl) dX10_depthAt_2 ?_
  refine g_aload_n X (j := 0) dX10_depthAt_5 rfl rfl ?_
  refine gf_X10_44 X gT_c0 dX10_depthAt_6 ?_
  refine gf_X10_309 X gT_c27 dX10_depthAt_9 ?_
  refine g_iload_n X (j := 2) dX10_depthAt_12 rfl rfl ?_
  refine g_bipush X (v := 40) dX10_depthAt_13 (by decide) ?_
  refine g_imul X dX10_depthAt_15 ?_
  refine g_iload_n X (j := 1) dX10_depthAt_16 rfl rfl ?_
  refine g_iadd X dX10_depthAt_17 ?_
  obtain ⟨hg3, h⟩ := grd_e h
  refine g_iald X gT_c29 hg3 dX10_depthAt_18 ?_
  exact hR (gI M 29 (((i1 * (40 : Int32)) + i0).toNatClampNeg)) _ _ (Option.some.inj h).symm dX10_depthAt_19
theorem ct_X10_depthAt {l : Launch} {z : GZ} (htr : l.stackTraces = false) {i0 : Int32} {i1 : Int32}  {M : GM} {F : Nat} {v : Int32} (h : f_X10_depthAt F i0 i1 M = some (Sum.inr v)) : gMet l z yX10_depthAt cX10_depthAt 3 (some .int) 7 [.ref (gad z 0), .int i0, .int i1] M (some (.int v)) M := gMet_ofI (by decide +kernel) (Nat.le_of_ble_eq_true rfl) htr rfl (fun x X ez el hR => by subst ez; subst el; exact w_X10_depthAt X  (fun v9 lv9 pc9 e9 d9 => by cases e9; exact hR lv9 pc9 d9) (by intros; rename_i e9; cases e9) h)
theorem cx_X10_depthAt {l : Launch} {z : GZ} (htr : l.stackTraces = false) {i0 : Int32} {i1 : Int32}  {M : GM} {F n : Nat} (h : f_X10_depthAt F i0 i1 M = some (Sum.inl n)) : gMetX l z yX10_depthAt cX10_depthAt 3 (some .int) 7 [.ref (gad z 0), .int i0, .int i1] M n M := gMetX_of (by decide +kernel) (Nat.le_of_ble_eq_true rfl) htr (fun x X ez el hT => by subst ez; subst el; exact w_X10_depthAt X  (by intros; rename_i e9 _; cases e9) (fun n9 e9 => by cases e9; exact hT) h)
theorem dX10_paneAt_0 : decode cX10_paneAt 0 = .ok (.iload_n 1, 1) := by decide +kernel
theorem dX10_paneAt_1 : decode cX10_paneAt 1 = .ok (.iload_n 2, 1) := by decide +kernel
theorem dX10_paneAt_2 : decode cX10_paneAt 2 = .ok (.invokestatic 271, 3) := by decide +kernel
theorem dX10_paneAt_5 : decode cX10_paneAt 5 = .ok (.aload_n 0, 1) := by decide +kernel
theorem dX10_paneAt_6 : decode cX10_paneAt 6 = .ok (.getfield 44, 3) := by decide +kernel
theorem dX10_paneAt_9 : decode cX10_paneAt 9 = .ok (.getfield 312, 3) := by decide +kernel
theorem dX10_paneAt_12 : decode cX10_paneAt 12 = .ok (.iload_n 2, 1) := by decide +kernel
theorem dX10_paneAt_13 : decode cX10_paneAt 13 = .ok (.bipush 40, 2) := by decide +kernel
theorem dX10_paneAt_15 : decode cX10_paneAt 15 = .ok (.imul, 1) := by decide +kernel
theorem dX10_paneAt_16 : decode cX10_paneAt 16 = .ok (.iload_n 1, 1) := by decide +kernel
theorem dX10_paneAt_17 : decode cX10_paneAt 17 = .ok (.iadd, 1) := by decide +kernel
theorem dX10_paneAt_18 : decode cX10_paneAt 18 = .ok (.iaload, 1) := by decide +kernel
theorem dX10_paneAt_19 : decode cX10_paneAt 19 = .ok (.ireturn, 1) := by decide +kernel
def f_X10_paneAt (F : Nat) (i0 : Int32) (i1 : Int32) (M : GM) : Option (Nat ⊕ Int32) := bndT (f_X10_requirePoint F i0 i1 M) (fun n2 => some (Sum.inl n2)) (fun _ => grd (gIn ((i1 * (40 : Int32)) + i0) (gN 30)) (some (Sum.inr (gI M 30 (((i1 * (40 : Int32)) + i0).toNatClampNeg)))))
set_option maxHeartbeats 4000000 in
set_option maxRecDepth 100000 in
theorem w_X10_paneAt {x : GX} (X : GC x cX10_paneAt 3 RX10 7) {i0 : Int32} {i1 : Int32}  {F : Nat} {M : GM} {r9 : (Nat ⊕ Int32)} (hR : ∀ (v9 : Int32) (lv9 : List (Nat × Value)) (pc9 : Nat), r9 = Sum.inr v9 → decode cX10_paneAt pc9 = .ok (.ireturn, 1) → WG x M lv9 pc9 [.int v9]) (hX : ∀ (n9 : Nat), r9 = Sum.inl n9 → GThr x n9 M) (h : f_X10_paneAt F i0 i1 M = some r9) : WG x M [(0, .ref (gad (xz x) 0)), (1, .int i0), (2, .int i1)] 0 [] := by
  unfold f_X10_paneAt at h
  refine g_iload_n X (j := 1) dX10_paneAt_0 rfl rfl ?_
  refine g_iload_n X (j := 2) dX10_paneAt_1 rfl rfl ?_
  rcases bndT_e h with ⟨n2, hc1, h⟩ | ⟨⟨⟩, hc1, h⟩
  · exact gx_X10_271 X (cx_X10_requirePoint X.htr  hc1) (by decide) (Nat.le_of_ble_eq_true rfl) dX10_paneAt_2 (hX n2 (Option.some.inj h).symm)
  refine gc_X10_271 X (ct_X10_requirePoint X.htr  hc1) (by decide) (Nat.le_of_ble_eq_true rfl) dX10_paneAt_2 ?_
  refine g_aload_n X (j := 0) dX10_paneAt_5 rfl rfl ?_
  refine gf_X10_44 X gT_c0 dX10_paneAt_6 ?_
  refine gf_X10_312 X gT_c27 dX10_paneAt_9 ?_
  refine g_iload_n X (j := 2) dX10_paneAt_12 rfl rfl ?_
  refine g_bipush X (v := 40) dX10_paneAt_13 (by decide) ?_
  refine g_imul X dX10_paneAt_15 ?_
  refine g_iload_n X (j := 1) dX10_paneAt_16 rfl rfl ?_
  refine g_iadd X dX10_paneAt_17 ?_
  obtain ⟨hg3, h⟩ := grd_e h
  refine g_iald X gT_c30 hg3 dX10_paneAt_18 ?_
  exact hR (gI M 30 (((i1 * (40 : Int32)) + i0).toNatClampNeg)) _ _ (Option.some.inj h).symm dX10_paneAt_19
theorem ct_X10_paneAt {l : Launch} {z : GZ} (htr : l.stackTraces = false) {i0 : Int32} {i1 : Int32}  {M : GM} {F : Nat} {v : Int32} (h : f_X10_paneAt F i0 i1 M = some (Sum.inr v)) : gMet l z yX10_paneAt cX10_paneAt 3 (some .int) 7 [.ref (gad z 0), .int i0, .int i1] M (some (.int v)) M := gMet_ofI (by decide +kernel) (Nat.le_of_ble_eq_true rfl) htr rfl (fun x X ez el hR => by subst ez; subst el; exact w_X10_paneAt X  (fun v9 lv9 pc9 e9 d9 => by cases e9; exact hR lv9 pc9 d9) (by intros; rename_i e9; cases e9) h)
theorem cx_X10_paneAt {l : Launch} {z : GZ} (htr : l.stackTraces = false) {i0 : Int32} {i1 : Int32}  {M : GM} {F n : Nat} (h : f_X10_paneAt F i0 i1 M = some (Sum.inl n)) : gMetX l z yX10_paneAt cX10_paneAt 3 (some .int) 7 [.ref (gad z 0), .int i0, .int i1] M n M := gMetX_of (by decide +kernel) (Nat.le_of_ble_eq_true rfl) htr (fun x X ez el hT => by subst ez; subst el; exact w_X10_paneAt X  (by intros; rename_i e9 _; cases e9) (fun n9 e9 => by cases e9; exact hT) h)
theorem dX10_pointsWith_0 : decode cX10_pointsWith 0 = .ok (.aload_n 0, 1) := by decide +kernel
theorem dX10_pointsWith_1 : decode cX10_pointsWith 1 = .ok (.iload_n 1, 1) := by decide +kernel
theorem dX10_pointsWith_2 : decode cX10_pointsWith 2 = .ok (.invokevirtual 150, 3) := by decide +kernel
theorem dX10_pointsWith_5 : decode cX10_pointsWith 5 = .ok (.iconst 0, 1) := by decide +kernel
theorem dX10_pointsWith_6 : decode cX10_pointsWith 6 = .ok (.istore_n 2, 1) := by decide +kernel
theorem dX10_pointsWith_7 : decode cX10_pointsWith 7 = .ok (.aload_n 0, 1) := by decide +kernel
theorem dX10_pointsWith_8 : decode cX10_pointsWith 8 = .ok (.getfield 44, 3) := by decide +kernel
theorem dX10_pointsWith_11 : decode cX10_pointsWith 11 = .ok (.getfield 312, 3) := by decide +kernel
theorem dX10_pointsWith_14 : decode cX10_pointsWith 14 = .ok (.astore_n 3, 1) := by decide +kernel
theorem dX10_pointsWith_15 : decode cX10_pointsWith 15 = .ok (.aload_n 3, 1) := by decide +kernel
theorem dX10_pointsWith_16 : decode cX10_pointsWith 16 = .ok (.arraylength, 1) := by decide +kernel
theorem dX10_pointsWith_17 : decode cX10_pointsWith 17 = .ok (.istore 4, 2) := by decide +kernel
theorem dX10_pointsWith_19 : decode cX10_pointsWith 19 = .ok (.iconst 0, 1) := by decide +kernel
theorem dX10_pointsWith_20 : decode cX10_pointsWith 20 = .ok (.istore 5, 2) := by decide +kernel
theorem dX10_pointsWith_22 : decode cX10_pointsWith 22 = .ok (.iload 5, 2) := by decide +kernel
theorem dX10_pointsWith_24 : decode cX10_pointsWith 24 = .ok (.iload 4, 2) := by decide +kernel
theorem dX10_pointsWith_26 : decode cX10_pointsWith 26 = .ok (.if_icmp .ge 24, 3) := by decide +kernel
theorem dX10_pointsWith_29 : decode cX10_pointsWith 29 = .ok (.aload_n 3, 1) := by decide +kernel
theorem dX10_pointsWith_30 : decode cX10_pointsWith 30 = .ok (.iload 5, 2) := by decide +kernel
theorem dX10_pointsWith_32 : decode cX10_pointsWith 32 = .ok (.iaload, 1) := by decide +kernel
theorem dX10_pointsWith_33 : decode cX10_pointsWith 33 = .ok (.istore 6, 2) := by decide +kernel
theorem dX10_pointsWith_35 : decode cX10_pointsWith 35 = .ok (.iload 6, 2) := by decide +kernel
theorem dX10_pointsWith_37 : decode cX10_pointsWith 37 = .ok (.iload_n 1, 1) := by decide +kernel
theorem dX10_pointsWith_38 : decode cX10_pointsWith 38 = .ok (.if_icmp .ne 6, 3) := by decide +kernel
theorem dX10_pointsWith_41 : decode cX10_pointsWith 41 = .ok (.iinc 2 1, 3) := by decide +kernel
theorem dX10_pointsWith_44 : decode cX10_pointsWith 44 = .ok (.iinc 5 1, 3) := by decide +kernel
theorem dX10_pointsWith_47 : decode cX10_pointsWith 47 = .ok (.goto (-25), 3) := by decide +kernel
theorem dX10_pointsWith_50 : decode cX10_pointsWith 50 = .ok (.iload_n 2, 1) := by decide +kernel
theorem dX10_pointsWith_51 : decode cX10_pointsWith 51 = .ok (.ireturn, 1) := by decide +kernel
def st_X10_pointsWith_22 (F : Nat) (a9 : Int32) (a11 : Int32) (rec : Int32 → Int32 → Option Int32) (a10 : Int32) (a12 : Int32) (M : GM) : Option Int32 := if a11 ≤ a12 then (some a10) else (grd (gIn a12 (gN 30)) (bnd (gI M 30 a12.toNatClampNeg) (fun v14 => if v14 = a9 then (bnd (a10 + (1 : Int32)) (fun v18 => bnd (a12 + (1 : Int32)) (fun v20 => rec v18 v20))) else (bnd (a12 + (1 : Int32)) (fun v16 => rec a10 v16)))))
def lp_X10_pointsWith_22 (F : Nat) (a9 : Int32) (a11 : Int32) (M : GM) : Nat → Int32 → Int32 → Option Int32
  | 0 => fun _ _ => none
  | f + 1 => fun a10 a12 => st_X10_pointsWith_22 F a9 a11 (lp_X10_pointsWith_22 F a9 a11 M f) a10 a12 M
set_option maxHeartbeats 4000000 in
set_option maxRecDepth 100000 in
theorem lw_X10_pointsWith_22 {x : GX} (X : GC x cX10_pointsWith 7 RX10 7) {a9 : Int32} {a11 : Int32}  {F : Nat} {M : GM} {r9 : Int32} (hE : ∀ (x2_9 : Int32), r9 = x2_9 → WG x M [(2, .int x2_9)] 50 []) : ∀ (f : Nat) (a10 : Int32) (a12 : Int32), lp_X10_pointsWith_22 F a9 a11 M f a10 a12 = some r9 → WG x M [(1, .int a9), (2, .int a10), (3, .ref (gad (xz x) 30)), (4, .int a11), (5, .int a12)] 22 [] := by
  intro f
  induction f with
  | zero => intro a10 a12 h; cases h
  | succ f ih =>
    intro a10 a12 h
    have hrec := ih
    have h : st_X10_pointsWith_22 F a9 a11 (lp_X10_pointsWith_22 F a9 a11 M f) a10 a12 M = some r9 := h
    generalize lp_X10_pointsWith_22 F a9 a11 M f = rec at h hrec
    unfold st_X10_pointsWith_22 at h
    refine g_iload X (j := 4) dX10_pointsWith_22 rfl ?_
    refine g_iload X (j := 3) dX10_pointsWith_24 rfl ?_
    refine g_icmp_ge X (tgt := 50) dX10_pointsWith_26 (by decide) (fun hb => ?_) (fun hb => ?_)
    · have h := ite_t hb h
      refine g_lv [1] rfl ?_
      exact hE a10 (Option.some.inj h).symm
    · have h := ite_f hb h
      refine g_aload_n X (j := 2) dX10_pointsWith_29 rfl rfl ?_
      refine g_iload X (j := 4) dX10_pointsWith_30 rfl ?_
      obtain ⟨hg13, h⟩ := grd_e h
      refine g_iald X gT_c30 hg13 dX10_pointsWith_32 ?_
      refine g_topi (fun v14 e15 => ?_)
      have h := bnd_e e15 h
      refine g_istore X (lv' := [(6, .int v14), (1, .int a9), (2, .int a10), (3, .ref (gad (xz x) 30)), (4, .int a11), (5, .int a12)]) dX10_pointsWith_33 (by decide) rfl ?_
      refine g_iload X (j := 0) dX10_pointsWith_35 rfl ?_
      refine g_iload_n X (j := 1) dX10_pointsWith_37 rfl rfl ?_
      refine g_icmp_ne X (tgt := 44) dX10_pointsWith_38 (by decide) (fun hb => ?_) (fun hb => ?_)
      · have h := ite_f hb h
        refine g_iinc X (j := 5) (w := a12 + (1 : Int32)) (lv' := [(6, .int v14), (1, .int a9), (2, .int a10), (3, .ref (gad (xz x) 30)), (4, .int a11)]) dX10_pointsWith_44 rfl (by rw [ii_1]) (by decide) (fun _ => rfl) (fun v16 e17 => ?_)
        have h := bnd_e e17 h
        refine g_goto X (tgt := 22) dX10_pointsWith_47 (by decide) ?_
        refine g_lv [2, 3, 4, 5, 0] rfl ?_
        exact hrec a10 v16 h
      · have h := ite_t hb h
        refine g_iinc X (j := 2) (w := a10 + (1 : Int32)) (lv' := [(6, .int v14), (1, .int a9), (3, .ref (gad (xz x) 30)), (4, .int a11), (5, .int a12)]) dX10_pointsWith_41 rfl (by rw [ii_1]) (by decide) (fun _ => rfl) (fun v18 e19 => ?_)
        have h := bnd_e e19 h
        refine g_iinc X (j := 5) (w := a12 + (1 : Int32)) (lv' := [(2, .int v18), (6, .int v14), (1, .int a9), (3, .ref (gad (xz x) 30)), (4, .int a11)]) dX10_pointsWith_44 rfl (by rw [ii_1]) (by decide) (fun _ => rfl) (fun v20 e21 => ?_)
        have h := bnd_e e21 h
        refine g_goto X (tgt := 22) dX10_pointsWith_47 (by decide) ?_
        refine g_lv [3, 1, 4, 5, 0] rfl ?_
        exact hrec v18 v20 h
def f_X10_pointsWith (F : Nat) (i0 : Int32) (M : GM) : Option (Nat ⊕ Int32) := bndT (f_X10_requirePane F i0 M) (fun n2 => some (Sum.inl n2)) (fun _ => bnd (0 : Int32) (fun v3 => bnd (960 : Int32) (fun v5 => bnd (0 : Int32) (fun v7 => bndO (lp_X10_pointsWith_22 F i0 v5 M F v3 v7) (fun v22 => some (Sum.inr v22))))))
set_option maxHeartbeats 4000000 in
set_option maxRecDepth 100000 in
theorem w_X10_pointsWith {x : GX} (X : GC x cX10_pointsWith 7 RX10 7) {i0 : Int32}  {F : Nat} {M : GM} {r9 : (Nat ⊕ Int32)} (hR : ∀ (v9 : Int32) (lv9 : List (Nat × Value)) (pc9 : Nat), r9 = Sum.inr v9 → decode cX10_pointsWith pc9 = .ok (.ireturn, 1) → WG x M lv9 pc9 [.int v9]) (hX : ∀ (n9 : Nat), r9 = Sum.inl n9 → GThr x n9 M) (h : f_X10_pointsWith F i0 M = some r9) : WG x M [(0, .ref (gad (xz x) 0)), (1, .int i0)] 0 [] := by
  unfold f_X10_pointsWith at h
  refine g_aload_n X (j := 0) dX10_pointsWith_0 rfl rfl ?_
  refine g_iload_n X (j := 1) dX10_pointsWith_1 rfl rfl ?_
  rcases bndT_e h with ⟨n2, hc1, h⟩ | ⟨⟨⟩, hc1, h⟩
  · exact gx_X10_150 X gT_c0 (cx_X10_requirePane X.htr  hc1) (by decide) (Nat.le_of_ble_eq_true rfl) dX10_pointsWith_2 (hX n2 (Option.some.inj h).symm)
  refine gc_X10_150 X gT_c0 (ct_X10_requirePane X.htr  hc1) (by decide) (Nat.le_of_ble_eq_true rfl) dX10_pointsWith_2 ?_
  refine g_iconst X (v := 0) dX10_pointsWith_5 (by decide) ?_
  refine g_topi (fun v3 e4 => ?_)
  have h := bnd_e e4 h
  refine g_istore_n X (lv' := [(2, .int v3), (0, .ref (gad (xz x) 0)), (1, .int i0)]) dX10_pointsWith_6 rfl (by decide) rfl ?_
  refine g_aload_n X (j := 1) dX10_pointsWith_7 rfl rfl ?_
  refine gf_X10_44 X gT_c0 dX10_pointsWith_8 ?_
  refine gf_X10_312 X gT_c27 dX10_pointsWith_11 ?_
  refine g_astore_n X (lv' := [(3, .ref (gad (xz x) 30)), (2, .int v3), (0, .ref (gad (xz x) 0)), (1, .int i0)]) dX10_pointsWith_14 rfl (by decide) rfl ?_
  refine g_aload_n X (j := 0) dX10_pointsWith_15 rfl rfl ?_
  refine g_alen_20 X gT_c30 dX10_pointsWith_16 ?_
  rw [show Int32.ofNat (gN 30) = 960 by decide +kernel]
  refine g_topi (fun v5 e6 => ?_)
  have h := bnd_e e6 h
  refine g_istore X (lv' := [(4, .int v5), (3, .ref (gad (xz x) 30)), (2, .int v3), (0, .ref (gad (xz x) 0)), (1, .int i0)]) dX10_pointsWith_17 (by decide) rfl ?_
  refine g_iconst X (v := 0) dX10_pointsWith_19 (by decide) ?_
  refine g_topi (fun v7 e8 => ?_)
  have h := bnd_e e8 h
  refine g_istore X (lv' := [(5, .int v7), (4, .int v5), (3, .ref (gad (xz x) 30)), (2, .int v3), (0, .ref (gad (xz x) 0)), (1, .int i0)]) dX10_pointsWith_20 (by decide) rfl ?_
  refine g_lv [5, 3, 2, 1, 0] rfl ?_
  obtain ⟨v22, hl23, h⟩ := bndO_e h
  refine lw_X10_pointsWith_22 X  (fun v22_ e9 => ?_) F v3 v7 hl23
  cases e9
  refine g_iload_n X (j := 0) dX10_pointsWith_50 rfl rfl ?_
  exact hR v22 _ _ (Option.some.inj h).symm dX10_pointsWith_51
theorem ct_X10_pointsWith {l : Launch} {z : GZ} (htr : l.stackTraces = false) {i0 : Int32}  {M : GM} {F : Nat} {v : Int32} (h : f_X10_pointsWith F i0 M = some (Sum.inr v)) : gMet l z yX10_pointsWith cX10_pointsWith 7 (some .int) 7 [.ref (gad z 0), .int i0] M (some (.int v)) M := gMet_ofI (by decide +kernel) (Nat.le_of_ble_eq_true rfl) htr rfl (fun x X ez el hR => by subst ez; subst el; exact w_X10_pointsWith X  (fun v9 lv9 pc9 e9 d9 => by cases e9; exact hR lv9 pc9 d9) (by intros; rename_i e9; cases e9) h)
theorem cx_X10_pointsWith {l : Launch} {z : GZ} (htr : l.stackTraces = false) {i0 : Int32}  {M : GM} {F n : Nat} (h : f_X10_pointsWith F i0 M = some (Sum.inl n)) : gMetX l z yX10_pointsWith cX10_pointsWith 7 (some .int) 7 [.ref (gad z 0), .int i0] M n M := gMetX_of (by decide +kernel) (Nat.le_of_ble_eq_true rfl) htr (fun x X ez el hT => by subst ez; subst el; exact w_X10_pointsWith X  (by intros; rename_i e9 _; cases e9) (fun n9 e9 => by cases e9; exact hT) h)
theorem gc_X10_315 {x : GX} {cc : ByteArray} {nL d pc : Nat} {M : GM} {lv : List (Nat × Value)} {st : List Value} (X : GC x cc nL RX10 d)  {M1 : GM} (ht : gT 39 = 2) (hM : gMet (xl x) (xz x) yX2_empty cX2_empty 1 none 1 [.ref (gad (xz x) 39)] M (none) M1) (hd : 2 ≤ d) (hsum : (st.map fun v => v.category).sum ≤ 8) (dec : decode cc pc = .ok (.invokevirtual 315, 3)) (go : WG x M1 lv (pc + 3) (st)) : WG x M lv pc (.ref (gad (xz x) 39) :: st) := g_callV X (n := 0) (As := []) (rest := st) hM ht (by decide) (gE_2 ht) rfl q_399 q_400 q_401 q_24 q_402 (by decide +kernel) rfl hd (by decide) rfl hsum dec go
theorem gc_X10_318 {x : GX} {cc : ByteArray} {nL d pc : Nat} {M : GM} {lv : List (Nat × Value)} {st : List Value} (X : GC x cc nL RX10 d) {i0 : Int32} {M1 : GM} (ht : gT 39 = 2) (hM : gMet (xl x) (xz x) yX2_include cX2_include 6 none 0 [.ref (gad (xz x) 39), .int i0] M (none) M1) (hd : 1 ≤ d) (hsum : (st.map fun v => v.category).sum ≤ 8) (dec : decode cc pc = .ok (.invokevirtual 318, 3)) (go : WG x M1 lv (pc + 3) (st)) : WG x M lv pc (.int i0 :: .ref (gad (xz x) 39) :: st) := g_callV X (n := 1) (As := [.int i0]) (rest := st) hM ht (by decide) (gE_2 ht) rfl q_406 q_407 q_408 q_24 q_409 (by decide +kernel) rfl hd (by decide) rfl hsum dec go
theorem dX10_colours_0 : decode cX10_colours 0 = .ok (.aload_n 0, 1) := by decide +kernel
theorem dX10_colours_1 : decode cX10_colours 1 = .ok (.getfield 57, 3) := by decide +kernel
theorem dX10_colours_4 : decode cX10_colours 4 = .ok (.invokevirtual 315, 3) := by decide +kernel
theorem dX10_colours_7 : decode cX10_colours 7 = .ok (.aload_n 0, 1) := by decide +kernel
theorem dX10_colours_8 : decode cX10_colours 8 = .ok (.getfield 44, 3) := by decide +kernel
theorem dX10_colours_11 : decode cX10_colours 11 = .ok (.getfield 306, 3) := by decide +kernel
theorem dX10_colours_14 : decode cX10_colours 14 = .ok (.astore_n 1, 1) := by decide +kernel
theorem dX10_colours_15 : decode cX10_colours 15 = .ok (.aload_n 1, 1) := by decide +kernel
theorem dX10_colours_16 : decode cX10_colours 16 = .ok (.arraylength, 1) := by decide +kernel
theorem dX10_colours_17 : decode cX10_colours 17 = .ok (.istore_n 2, 1) := by decide +kernel
theorem dX10_colours_18 : decode cX10_colours 18 = .ok (.iconst 0, 1) := by decide +kernel
theorem dX10_colours_19 : decode cX10_colours 19 = .ok (.istore_n 3, 1) := by decide +kernel
theorem dX10_colours_20 : decode cX10_colours 20 = .ok (.iload_n 3, 1) := by decide +kernel
theorem dX10_colours_21 : decode cX10_colours 21 = .ok (.iload_n 2, 1) := by decide +kernel
theorem dX10_colours_22 : decode cX10_colours 22 = .ok (.if_icmp .ge 23, 3) := by decide +kernel
theorem dX10_colours_25 : decode cX10_colours 25 = .ok (.aload_n 1, 1) := by decide +kernel
theorem dX10_colours_26 : decode cX10_colours 26 = .ok (.iload_n 3, 1) := by decide +kernel
theorem dX10_colours_27 : decode cX10_colours 27 = .ok (.iaload, 1) := by decide +kernel
theorem dX10_colours_28 : decode cX10_colours 28 = .ok (.istore 4, 2) := by decide +kernel
theorem dX10_colours_30 : decode cX10_colours 30 = .ok (.aload_n 0, 1) := by decide +kernel
theorem dX10_colours_31 : decode cX10_colours 31 = .ok (.getfield 57, 3) := by decide +kernel
theorem dX10_colours_34 : decode cX10_colours 34 = .ok (.iload 4, 2) := by decide +kernel
theorem dX10_colours_36 : decode cX10_colours 36 = .ok (.invokevirtual 318, 3) := by decide +kernel
theorem dX10_colours_39 : decode cX10_colours 39 = .ok (.iinc 3 1, 3) := by decide +kernel
theorem dX10_colours_42 : decode cX10_colours 42 = .ok (.goto (-22), 3) := by decide +kernel
theorem dX10_colours_45 : decode cX10_colours 45 = .ok (.aload_n 0, 1) := by decide +kernel
theorem dX10_colours_46 : decode cX10_colours 46 = .ok (.getfield 57, 3) := by decide +kernel
theorem dX10_colours_49 : decode cX10_colours 49 = .ok (.getfield 321, 3) := by decide +kernel
theorem dX10_colours_52 : decode cX10_colours 52 = .ok (.ireturn, 1) := by decide +kernel
def st_X10_colours_20 (F : Nat) (a7 : Int32) (rec : Int32 → GM → Option GM) (a8 : Int32) (M : GM) : Option GM := if a7 ≤ a8 then (some M) else (grd (gIn a8 (gN 28)) (bnd (gI M 28 a8.toNatClampNeg) (fun v10 => bndO (f_X2_include F v10 M) (fun M13 => bnd (a8 + (1 : Int32)) (fun v14 => rec v14 M13)))))
def lp_X10_colours_20 (F : Nat) (a7 : Int32) : Nat → Int32 → GM → Option GM
  | 0 => fun _ _ => none
  | f + 1 => fun a8 M => st_X10_colours_20 F a7 (lp_X10_colours_20 F a7 f) a8 M
set_option maxHeartbeats 4000000 in
set_option maxRecDepth 100000 in
theorem lw_X10_colours_20 {x : GX} (X : GC x cX10_colours 5 RX10 2) {a7 : Int32}  {F : Nat} {r9 : GM} (hE : ∀  (M9 : GM), r9 = M9 → WG x M9 [(0, .ref (gad (xz x) 0))] 45 []) : ∀ (f : Nat) (a8 : Int32) (M : GM), lp_X10_colours_20 F a7 f a8 M = some r9 → WG x M [(0, .ref (gad (xz x) 0)), (1, .ref (gad (xz x) 28)), (2, .int a7), (3, .int a8)] 20 [] := by
  intro f
  induction f with
  | zero => intro a8 M h; cases h
  | succ f ih =>
    intro a8 M h
    have hrec := ih
    have h : st_X10_colours_20 F a7 (lp_X10_colours_20 F a7 f) a8 M = some r9 := h
    generalize lp_X10_colours_20 F a7 f = rec at h hrec
    unfold st_X10_colours_20 at h
    refine g_iload_n X (j := 3) dX10_colours_20 rfl rfl ?_
    refine g_iload_n X (j := 2) dX10_colours_21 rfl rfl ?_
    refine g_icmp_ge X (tgt := 45) dX10_colours_22 (by decide) (fun hb => ?_) (fun hb => ?_)
    · have h := ite_t hb h
      refine g_lv [0] rfl ?_
      exact hE M (Option.some.inj h).symm
    · have h := ite_f hb h
      refine g_aload_n X (j := 1) dX10_colours_25 rfl rfl ?_
      refine g_iload_n X (j := 3) dX10_colours_26 rfl rfl ?_
      obtain ⟨hg9, h⟩ := grd_e h
      refine g_iald X gT_c28 hg9 dX10_colours_27 ?_
      refine g_topi (fun v10 e11 => ?_)
      have h := bnd_e e11 h
      refine g_istore X (lv' := [(4, .int v10), (0, .ref (gad (xz x) 0)), (1, .ref (gad (xz x) 28)), (2, .int a7), (3, .int a8)]) dX10_colours_28 (by decide) rfl ?_
      refine g_aload_n X (j := 1) dX10_colours_30 rfl rfl ?_
      refine gf_X10_57 X gT_c0 dX10_colours_31 ?_
      refine g_iload X (j := 0) dX10_colours_34 rfl ?_
      obtain ⟨M13, hc12, h⟩ := bndO_e h
      refine gc_X10_318 X gT_c39 (ct_X2_include X.htr  hc12) (by decide) (Nat.le_of_ble_eq_true rfl) dX10_colours_36 ?_
      refine g_iinc X (j := 4) (w := a8 + (1 : Int32)) (lv' := [(4, .int v10), (0, .ref (gad (xz x) 0)), (1, .ref (gad (xz x) 28)), (2, .int a7)]) dX10_colours_39 rfl (by rw [ii_1]) (by decide) (fun _ => rfl) (fun v14 e15 => ?_)
      have h := bnd_e e15 h
      refine g_goto X (tgt := 20) dX10_colours_42 (by decide) ?_
      refine g_lv [2, 3, 4, 0] rfl ?_
      exact hrec v14 M13 h
def f_X10_colours (F : Nat) (M : GM) : Option (Int32 × GM) := bndO (f_X2_empty F M) (fun M2 => bnd (960 : Int32) (fun v3 => bnd (0 : Int32) (fun v5 => bndO (lp_X10_colours_20 F v3 F v5 M2) (fun M16 => some ((gI M16 39 1), M16)))))
set_option maxHeartbeats 4000000 in
set_option maxRecDepth 100000 in
theorem w_X10_colours {x : GX} (X : GC x cX10_colours 5 RX10 2)   {F : Nat} {M : GM} {r9 : (Int32 × GM)} (hR : ∀ (v9 : Int32) (M9 : GM) (lv9 : List (Nat × Value)) (pc9 : Nat), r9 = (v9, M9) → decode cX10_colours pc9 = .ok (.ireturn, 1) → WG x M9 lv9 pc9 [.int v9]) (h : f_X10_colours F M = some r9) : WG x M [(0, .ref (gad (xz x) 0))] 0 [] := by
  unfold f_X10_colours at h
  refine g_aload_n X (j := 0) dX10_colours_0 rfl rfl ?_
  refine gf_X10_57 X gT_c0 dX10_colours_1 ?_
  obtain ⟨M2, hc1, h⟩ := bndO_e h
  refine gc_X10_315 X gT_c39 (ct_X2_empty X.htr  hc1) (by decide) (Nat.le_of_ble_eq_true rfl) dX10_colours_4 ?_
  refine g_aload_n X (j := 0) dX10_colours_7 rfl rfl ?_
  refine gf_X10_44 X gT_c0 dX10_colours_8 ?_
  refine gf_X10_306 X gT_c27 dX10_colours_11 ?_
  refine g_astore_n X (lv' := [(1, .ref (gad (xz x) 28)), (0, .ref (gad (xz x) 0))]) dX10_colours_14 rfl (by decide) rfl ?_
  refine g_aload_n X (j := 0) dX10_colours_15 rfl rfl ?_
  refine g_alen_20 X gT_c28 dX10_colours_16 ?_
  rw [show Int32.ofNat (gN 28) = 960 by decide +kernel]
  refine g_topi (fun v3 e4 => ?_)
  have h := bnd_e e4 h
  refine g_istore_n X (lv' := [(2, .int v3), (1, .ref (gad (xz x) 28)), (0, .ref (gad (xz x) 0))]) dX10_colours_17 rfl (by decide) rfl ?_
  refine g_iconst X (v := 0) dX10_colours_18 (by decide) ?_
  refine g_topi (fun v5 e6 => ?_)
  have h := bnd_e e6 h
  refine g_istore_n X (lv' := [(3, .int v5), (2, .int v3), (1, .ref (gad (xz x) 28)), (0, .ref (gad (xz x) 0))]) dX10_colours_19 rfl (by decide) rfl ?_
  refine g_lv [3, 2, 1, 0] rfl ?_
  obtain ⟨M16, hl17, h⟩ := bndO_e h
  refine lw_X10_colours_20 X  (fun M16_ e9 => ?_) F v5 M2 hl17
  cases e9
  refine g_aload_n X (j := 0) dX10_colours_45 rfl rfl ?_
  refine gf_X10_57 X gT_c0 dX10_colours_46 ?_
  refine gf_X10_321 X gT_c39 dX10_colours_49 ?_
  exact hR (gI M16 39 1) M16 _ _ (Option.some.inj h).symm dX10_colours_52
theorem ct_X10_colours {l : Launch} {z : GZ} (htr : l.stackTraces = false)   {M : GM} {F : Nat} {v : Int32} {M1 : GM} (h : f_X10_colours F M = some (v, M1)) : gMet l z yX10_colours cX10_colours 5 (some .int) 2 [.ref (gad z 0)] M (some (.int v)) M1 := gMet_ofI (by decide +kernel) (Nat.le_of_ble_eq_true rfl) htr rfl (fun x X ez el hR => by subst ez; subst el; exact w_X10_colours X  (fun v9 M9 lv9 pc9 e9 d9 => by cases e9; exact hR lv9 pc9 d9) h)
theorem dX10_seenOf_0 : decode cX10_seenOf 0 = .ok (.aload_n 0, 1) := by decide +kernel
theorem dX10_seenOf_1 : decode cX10_seenOf 1 = .ok (.iload_n 1, 1) := by decide +kernel
theorem dX10_seenOf_2 : decode cX10_seenOf 2 = .ok (.invokevirtual 150, 3) := by decide +kernel
theorem dX10_seenOf_5 : decode cX10_seenOf 5 = .ok (.aload_n 0, 1) := by decide +kernel
theorem dX10_seenOf_6 : decode cX10_seenOf 6 = .ok (.getfield 17, 3) := by decide +kernel
theorem dX10_seenOf_9 : decode cX10_seenOf 9 = .ok (.iload_n 1, 1) := by decide +kernel
theorem dX10_seenOf_10 : decode cX10_seenOf 10 = .ok (.aaload, 1) := by decide +kernel
theorem dX10_seenOf_11 : decode cX10_seenOf 11 = .ok (.getfield 147, 3) := by decide +kernel
theorem dX10_seenOf_14 : decode cX10_seenOf 14 = .ok (.ifCond .ne 5, 3) := by decide +kernel
theorem dX10_seenOf_17 : decode cX10_seenOf 17 = .ok (.iconst 0, 1) := by decide +kernel
theorem dX10_seenOf_18 : decode cX10_seenOf 18 = .ok (.ireturn, 1) := by decide +kernel
theorem dX10_seenOf_19 : decode cX10_seenOf 19 = .ok (.aload_n 0, 1) := by decide +kernel
theorem dX10_seenOf_20 : decode cX10_seenOf 20 = .ok (.aload_n 0, 1) := by decide +kernel
theorem dX10_seenOf_21 : decode cX10_seenOf 21 = .ok (.getfield 48, 3) := by decide +kernel
theorem dX10_seenOf_24 : decode cX10_seenOf 24 = .ok (.aload_n 0, 1) := by decide +kernel
theorem dX10_seenOf_25 : decode cX10_seenOf 25 = .ok (.getfield 68, 3) := by decide +kernel
theorem dX10_seenOf_28 : decode cX10_seenOf 28 = .ok (.iconst (-1), 1) := by decide +kernel
theorem dX10_seenOf_29 : decode cX10_seenOf 29 = .ok (.invokevirtual 286, 3) := by decide +kernel
theorem dX10_seenOf_32 : decode cX10_seenOf 32 = .ok (.aload_n 0, 1) := by decide +kernel
theorem dX10_seenOf_33 : decode cX10_seenOf 33 = .ok (.aload_n 0, 1) := by decide +kernel
theorem dX10_seenOf_34 : decode cX10_seenOf 34 = .ok (.getfield 51, 3) := by decide +kernel
theorem dX10_seenOf_37 : decode cX10_seenOf 37 = .ok (.aload_n 0, 1) := by decide +kernel
theorem dX10_seenOf_38 : decode cX10_seenOf 38 = .ok (.getfield 68, 3) := by decide +kernel
theorem dX10_seenOf_41 : decode cX10_seenOf 41 = .ok (.iload_n 1, 1) := by decide +kernel
theorem dX10_seenOf_42 : decode cX10_seenOf 42 = .ok (.invokevirtual 286, 3) := by decide +kernel
theorem dX10_seenOf_45 : decode cX10_seenOf 45 = .ok (.iconst 0, 1) := by decide +kernel
theorem dX10_seenOf_46 : decode cX10_seenOf 46 = .ok (.istore_n 2, 1) := by decide +kernel
theorem dX10_seenOf_47 : decode cX10_seenOf 47 = .ok (.iconst 0, 1) := by decide +kernel
theorem dX10_seenOf_48 : decode cX10_seenOf 48 = .ok (.istore_n 3, 1) := by decide +kernel
theorem dX10_seenOf_49 : decode cX10_seenOf 49 = .ok (.iload_n 3, 1) := by decide +kernel
theorem dX10_seenOf_50 : decode cX10_seenOf 50 = .ok (.sipush 960, 3) := by decide +kernel
theorem dX10_seenOf_53 : decode cX10_seenOf 53 = .ok (.if_icmp .ge 33, 3) := by decide +kernel
theorem dX10_seenOf_56 : decode cX10_seenOf 56 = .ok (.aload_n 0, 1) := by decide +kernel
theorem dX10_seenOf_57 : decode cX10_seenOf 57 = .ok (.getfield 48, 3) := by decide +kernel
theorem dX10_seenOf_60 : decode cX10_seenOf 60 = .ok (.getfield 306, 3) := by decide +kernel
theorem dX10_seenOf_63 : decode cX10_seenOf 63 = .ok (.iload_n 3, 1) := by decide +kernel
theorem dX10_seenOf_64 : decode cX10_seenOf 64 = .ok (.iaload, 1) := by decide +kernel
theorem dX10_seenOf_65 : decode cX10_seenOf 65 = .ok (.aload_n 0, 1) := by decide +kernel
theorem dX10_seenOf_66 : decode cX10_seenOf 66 = .ok (.getfield 51, 3) := by decide +kernel
theorem dX10_seenOf_69 : decode cX10_seenOf 69 = .ok (.getfield 306, 3) := by decide +kernel
theorem dX10_seenOf_72 : decode cX10_seenOf 72 = .ok (.iload_n 3, 1) := by decide +kernel
theorem dX10_seenOf_73 : decode cX10_seenOf 73 = .ok (.iaload, 1) := by decide +kernel
theorem dX10_seenOf_74 : decode cX10_seenOf 74 = .ok (.if_icmp .eq 6, 3) := by decide +kernel
theorem dX10_seenOf_77 : decode cX10_seenOf 77 = .ok (.iinc 2 1, 3) := by decide +kernel
theorem dX10_seenOf_80 : decode cX10_seenOf 80 = .ok (.iinc 3 1, 3) := by decide +kernel
theorem dX10_seenOf_83 : decode cX10_seenOf 83 = .ok (.goto (-34), 3) := by decide +kernel
theorem dX10_seenOf_86 : decode cX10_seenOf 86 = .ok (.iload_n 2, 1) := by decide +kernel
theorem dX10_seenOf_87 : decode cX10_seenOf 87 = .ok (.ireturn, 1) := by decide +kernel
def st_X10_seenOf_49 (F : Nat)  (rec : Int32 → Int32 → GM → Option (Int32 × GM)) (a15 : Int32) (a16 : Int32) (M : GM) : Option (Int32 × GM) := if (960 : Int32) ≤ a16 then (some (a15, M)) else (grd (gIn a16 (gN 32)) (grd (gIn a16 (gN 36)) (if (gI M 32 a16.toNatClampNeg) = (gI M 36 a16.toNatClampNeg) then (bnd (a16 + (1 : Int32)) (fun v19 => rec a15 v19 M)) else (bnd (a15 + (1 : Int32)) (fun v21 => bnd (a16 + (1 : Int32)) (fun v23 => rec v21 v23 M))))))
def lp_X10_seenOf_49 (F : Nat)  : Nat → Int32 → Int32 → GM → Option (Int32 × GM)
  | 0 => fun _ _ _ => none
  | f + 1 => fun a15 a16 M => st_X10_seenOf_49 F  (lp_X10_seenOf_49 F  f) a15 a16 M
set_option maxHeartbeats 4000000 in
set_option maxRecDepth 100000 in
theorem lw_X10_seenOf_49 {x : GX} (X : GC x cX10_seenOf 4 RX10 7)   {F : Nat} {r9 : (Int32 × GM)} (hE : ∀ (x2_9 : Int32) (M9 : GM), r9 = (x2_9, M9) → WG x M9 [(2, .int x2_9)] 86 []) : ∀ (f : Nat) (a15 : Int32) (a16 : Int32) (M : GM), lp_X10_seenOf_49 F  f a15 a16 M = some r9 → WG x M [(0, .ref (gad (xz x) 0)), (2, .int a15), (3, .int a16)] 49 [] := by
  intro f
  induction f with
  | zero => intro a15 a16 M h; cases h
  | succ f ih =>
    intro a15 a16 M h
    have hrec := ih
    have h : st_X10_seenOf_49 F  (lp_X10_seenOf_49 F  f) a15 a16 M = some r9 := h
    generalize lp_X10_seenOf_49 F  f = rec at h hrec
    unfold st_X10_seenOf_49 at h
    refine g_iload_n X (j := 2) dX10_seenOf_49 rfl rfl ?_
    refine g_sipush X (v := 960) dX10_seenOf_50 (by decide) ?_
    refine g_icmp_ge X (tgt := 86) dX10_seenOf_53 (by decide) (fun hb => ?_) (fun hb => ?_)
    · have h := ite_t hb h
      refine g_lv [1] rfl ?_
      exact hE a15 M (Option.some.inj h).symm
    · have h := ite_f hb h
      refine g_aload_n X (j := 0) dX10_seenOf_56 rfl rfl ?_
      refine gf_X10_48 X gT_c0 dX10_seenOf_57 ?_
      refine gf_X10_306 X gT_c31 dX10_seenOf_60 ?_
      refine g_iload_n X (j := 2) dX10_seenOf_63 rfl rfl ?_
      obtain ⟨hg17, h⟩ := grd_e h
      refine g_iald X gT_c32 hg17 dX10_seenOf_64 ?_
      refine g_aload_n X (j := 0) dX10_seenOf_65 rfl rfl ?_
      refine gf_X10_51 X gT_c0 dX10_seenOf_66 ?_
      refine gf_X10_306 X gT_c35 dX10_seenOf_69 ?_
      refine g_iload_n X (j := 2) dX10_seenOf_72 rfl rfl ?_
      obtain ⟨hg18, h⟩ := grd_e h
      refine g_iald X gT_c36 hg18 dX10_seenOf_73 ?_
      refine g_icmp_eq X (tgt := 80) dX10_seenOf_74 (by decide) (fun hb => ?_) (fun hb => ?_)
      · have h := ite_t hb h
        refine g_iinc X (j := 2) (w := a16 + (1 : Int32)) (lv' := [(0, .ref (gad (xz x) 0)), (2, .int a15)]) dX10_seenOf_80 rfl (by rw [ii_1]) (by decide) (fun _ => rfl) (fun v19 e20 => ?_)
        have h := bnd_e e20 h
        refine g_goto X (tgt := 49) dX10_seenOf_83 (by decide) ?_
        refine g_lv [1, 2, 0] rfl ?_
        exact hrec a15 v19 M h
      · have h := ite_f hb h
        refine g_iinc X (j := 1) (w := a15 + (1 : Int32)) (lv' := [(0, .ref (gad (xz x) 0)), (3, .int a16)]) dX10_seenOf_77 rfl (by rw [ii_1]) (by decide) (fun _ => rfl) (fun v21 e22 => ?_)
        have h := bnd_e e22 h
        refine g_iinc X (j := 2) (w := a16 + (1 : Int32)) (lv' := [(2, .int v21), (0, .ref (gad (xz x) 0))]) dX10_seenOf_80 rfl (by rw [ii_1]) (by decide) (fun _ => rfl) (fun v23 e24 => ?_)
        have h := bnd_e e24 h
        refine g_goto X (tgt := 49) dX10_seenOf_83 (by decide) ?_
        refine g_lv [2, 1, 0] rfl ?_
        exact hrec v21 v23 M h
def f_X10_seenOf (F : Nat) (i0 : Int32) (M : GM) : Option ((Nat × GM) ⊕ (Int32 × GM)) := bndT (f_X10_requirePane F i0 M) (fun n2 => some (Sum.inl (n2, M))) (fun _ => grd (gIn i0 (gN 2)) (bnd (gR 2 i0.toNatClampNeg) (fun o4 => if (gI M o4 6) = 0 then (some (Sum.inr ((0 : Int32), M))) else (bndO (f_X10_draw F 31 42 ((-1) : Int32) M) (fun M8 => bndO (f_X10_draw F 35 42 i0 M8) (fun M10 => bnd (0 : Int32) (fun v11 => bnd (0 : Int32) (fun v13 => bndO (lp_X10_seenOf_49 F  F v11 v13 M10) (fun (v25, M26) => some (Sum.inr (v25, M26)))))))))))
set_option maxHeartbeats 4000000 in
set_option maxRecDepth 100000 in
theorem w_X10_seenOf {x : GX} (X : GC x cX10_seenOf 4 RX10 7) {i0 : Int32}  {F : Nat} {M : GM} {r9 : ((Nat × GM) ⊕ (Int32 × GM))} (hR : ∀ (v9 : Int32) (M9 : GM) (lv9 : List (Nat × Value)) (pc9 : Nat), r9 = Sum.inr (v9, M9) → decode cX10_seenOf pc9 = .ok (.ireturn, 1) → WG x M9 lv9 pc9 [.int v9]) (hX : ∀ (n9 : Nat) (M9 : GM), r9 = Sum.inl (n9, M9) → GThr x n9 M9) (h : f_X10_seenOf F i0 M = some r9) : WG x M [(0, .ref (gad (xz x) 0)), (1, .int i0)] 0 [] := by
  unfold f_X10_seenOf at h
  refine g_aload_n X (j := 0) dX10_seenOf_0 rfl rfl ?_
  refine g_iload_n X (j := 1) dX10_seenOf_1 rfl rfl ?_
  rcases bndT_e h with ⟨n2, hc1, h⟩ | ⟨⟨⟩, hc1, h⟩
  · exact gx_X10_150 X gT_c0 (cx_X10_requirePane X.htr  hc1) (by decide) (Nat.le_of_ble_eq_true rfl) dX10_seenOf_2 (hX n2 M (Option.some.inj h).symm)
  refine gc_X10_150 X gT_c0 (ct_X10_requirePane X.htr  hc1) (by decide) (Nat.le_of_ble_eq_true rfl) dX10_seenOf_2 ?_
  refine g_aload_n X (j := 0) dX10_seenOf_5 rfl rfl ?_
  refine gf_X10_17 X gT_c0 dX10_seenOf_6 ?_
  refine g_iload_n X (j := 1) dX10_seenOf_9 rfl rfl ?_
  obtain ⟨hg3, h⟩ := grd_e h
  refine g_aald_24 X gT_c2 hg3 dX10_seenOf_10 ?_
  refine g_topr (fun o4 e5 => ?_)
  have h := bnd_e e5 h
  have k6 : gT o4 = 4 := by rw [e5]; exact gR_24 gT_c2 (gIn_lt hg3)
  refine gf_X10_147 X k6 dX10_seenOf_11 ?_
  refine g_if_ne X (tgt := 19) dX10_seenOf_14 (by decide) (fun hb => ?_) (fun hb => ?_)
  · have h := ite_f hb h
    refine g_aload_n X (j := 0) dX10_seenOf_19 rfl rfl ?_
    refine g_aload_n X (j := 0) dX10_seenOf_20 rfl rfl ?_
    refine gf_X10_48 X gT_c0 dX10_seenOf_21 ?_
    refine g_aload_n X (j := 0) dX10_seenOf_24 rfl rfl ?_
    refine gf_X10_68 X gT_c0 dX10_seenOf_25 ?_
    refine g_iconst X (v := (-1)) dX10_seenOf_28 (by decide) ?_
    obtain ⟨M8, hc7, h⟩ := bndO_e h
    refine gc_X10_286 X gT_c0 (ct_X10_draw X.htr gT_c31 gT_c42 hc7) (by decide) (Nat.le_of_ble_eq_true rfl) dX10_seenOf_29 ?_
    refine g_aload_n X (j := 0) dX10_seenOf_32 rfl rfl ?_
    refine g_aload_n X (j := 0) dX10_seenOf_33 rfl rfl ?_
    refine gf_X10_51 X gT_c0 dX10_seenOf_34 ?_
    refine g_aload_n X (j := 0) dX10_seenOf_37 rfl rfl ?_
    refine gf_X10_68 X gT_c0 dX10_seenOf_38 ?_
    refine g_iload_n X (j := 1) dX10_seenOf_41 rfl rfl ?_
    obtain ⟨M10, hc9, h⟩ := bndO_e h
    refine gc_X10_286 X gT_c0 (ct_X10_draw X.htr gT_c35 gT_c42 hc9) (by decide) (Nat.le_of_ble_eq_true rfl) dX10_seenOf_42 ?_
    refine g_iconst X (v := 0) dX10_seenOf_45 (by decide) ?_
    refine g_topi (fun v11 e12 => ?_)
    have h := bnd_e e12 h
    refine g_istore_n X (lv' := [(2, .int v11), (0, .ref (gad (xz x) 0)), (1, .int i0)]) dX10_seenOf_46 rfl (by decide) rfl ?_
    refine g_iconst X (v := 0) dX10_seenOf_47 (by decide) ?_
    refine g_topi (fun v13 e14 => ?_)
    have h := bnd_e e14 h
    refine g_istore_n X (lv' := [(3, .int v13), (2, .int v11), (0, .ref (gad (xz x) 0)), (1, .int i0)]) dX10_seenOf_48 rfl (by decide) rfl ?_
    refine g_lv [2, 1, 0] rfl ?_
    obtain ⟨⟨v25, M26⟩, hl27, h⟩ := bndO_e h
    refine lw_X10_seenOf_49 X  (fun v25_ M26_ e9 => ?_) F v11 v13 M10 hl27
    cases e9
    refine g_iload_n X (j := 0) dX10_seenOf_86 rfl rfl ?_
    exact hR v25 M26 _ _ (Option.some.inj h).symm dX10_seenOf_87
  · have h := ite_t hb h
    refine g_iconst X (v := 0) dX10_seenOf_17 (by decide) ?_
    exact hR (0 : Int32) M _ _ (Option.some.inj h).symm dX10_seenOf_18
theorem ct_X10_seenOf {l : Launch} {z : GZ} (htr : l.stackTraces = false) {i0 : Int32}  {M : GM} {F : Nat} {v : Int32} {M1 : GM} (h : f_X10_seenOf F i0 M = some (Sum.inr (v, M1))) : gMet l z yX10_seenOf cX10_seenOf 4 (some .int) 7 [.ref (gad z 0), .int i0] M (some (.int v)) M1 := gMet_ofI (by decide +kernel) (Nat.le_of_ble_eq_true rfl) htr rfl (fun x X ez el hR => by subst ez; subst el; exact w_X10_seenOf X  (fun v9 M9 lv9 pc9 e9 d9 => by cases e9; exact hR lv9 pc9 d9) (by intros; rename_i e9; cases e9) h)
theorem cx_X10_seenOf {l : Launch} {z : GZ} (htr : l.stackTraces = false) {i0 : Int32}  {M : GM} {F n : Nat} {M1 : GM} (h : f_X10_seenOf F i0 M = some (Sum.inl (n, M1))) : gMetX l z yX10_seenOf cX10_seenOf 4 (some .int) 7 [.ref (gad z 0), .int i0] M n M1 := gMetX_of (by decide +kernel) (Nat.le_of_ble_eq_true rfl) htr (fun x X ez el hT => by subst ez; subst el; exact w_X10_seenOf X  (by intros; rename_i e9 _; cases e9) (fun n9 M9 e9 => by cases e9; exact hT) h)
theorem gc_X10_328 {x : GX} {cc : ByteArray} {nL d pc : Nat} {M : GM} {lv : List (Nat × Value)} {st : List Value} (X : GC x cc nL RX10 d) {i0 : Nat} {i1 : Int32} {M1 : GM} (hM : gMet (xl x) (xz x) yJ7_fill_53178 cJ7_fill_53178 4 none 0 [.ref (gad (xz x) i0), .int i1] M (none) M1) (hd : 1 ≤ d) (hsum : (st.map fun v => v.category).sum ≤ 8) (dec : decode cc pc = .ok (.invokestatic 328, 3)) (go : WG x M1 lv (pc + 3) (st)) : WG x M lv pc (.int i1 :: .ref (gad (xz x) i0) :: st) := g_callS X (n := 2) (As := [.ref (gad (xz x) i0), .int i1]) (rest := st) hM q_419 q_404 q_36 q_405 (by decide +kernel) rfl hd (by decide) rfl hsum dec go
theorem dX10_greatest_0 : decode cX10_greatest 0 = .ok (.aload_n 0, 1) := by decide +kernel
theorem dX10_greatest_1 : decode cX10_greatest 1 = .ok (.aload_n 0, 1) := by decide +kernel
theorem dX10_greatest_2 : decode cX10_greatest 2 = .ok (.getfield 48, 3) := by decide +kernel
theorem dX10_greatest_5 : decode cX10_greatest 5 = .ok (.aload_n 0, 1) := by decide +kernel
theorem dX10_greatest_6 : decode cX10_greatest 6 = .ok (.getfield 68, 3) := by decide +kernel
theorem dX10_greatest_9 : decode cX10_greatest 9 = .ok (.iconst (-1), 1) := by decide +kernel
theorem dX10_greatest_10 : decode cX10_greatest 10 = .ok (.invokevirtual 286, 3) := by decide +kernel
theorem dX10_greatest_13 : decode cX10_greatest 13 = .ok (.aload_n 0, 1) := by decide +kernel
theorem dX10_greatest_14 : decode cX10_greatest 14 = .ok (.getfield 61, 3) := by decide +kernel
theorem dX10_greatest_17 : decode cX10_greatest 17 = .ok (.iconst 0, 1) := by decide +kernel
theorem dX10_greatest_18 : decode cX10_greatest 18 = .ok (.invokestatic 328, 3) := by decide +kernel
theorem dX10_greatest_21 : decode cX10_greatest 21 = .ok (.aload_n 0, 1) := by decide +kernel
theorem dX10_greatest_22 : decode cX10_greatest 22 = .ok (.getfield 48, 3) := by decide +kernel
theorem dX10_greatest_25 : decode cX10_greatest 25 = .ok (.getfield 312, 3) := by decide +kernel
theorem dX10_greatest_28 : decode cX10_greatest 28 = .ok (.astore_n 1, 1) := by decide +kernel
theorem dX10_greatest_29 : decode cX10_greatest 29 = .ok (.aload_n 1, 1) := by decide +kernel
theorem dX10_greatest_30 : decode cX10_greatest 30 = .ok (.arraylength, 1) := by decide +kernel
theorem dX10_greatest_31 : decode cX10_greatest 31 = .ok (.istore_n 2, 1) := by decide +kernel
theorem dX10_greatest_32 : decode cX10_greatest 32 = .ok (.iconst 0, 1) := by decide +kernel
theorem dX10_greatest_33 : decode cX10_greatest 33 = .ok (.istore_n 3, 1) := by decide +kernel
theorem dX10_greatest_34 : decode cX10_greatest 34 = .ok (.iload_n 3, 1) := by decide +kernel
theorem dX10_greatest_35 : decode cX10_greatest 35 = .ok (.iload_n 2, 1) := by decide +kernel
theorem dX10_greatest_36 : decode cX10_greatest 36 = .ok (.if_icmp .ge 36, 3) := by decide +kernel
theorem dX10_greatest_39 : decode cX10_greatest 39 = .ok (.aload_n 1, 1) := by decide +kernel
theorem dX10_greatest_40 : decode cX10_greatest 40 = .ok (.iload_n 3, 1) := by decide +kernel
theorem dX10_greatest_41 : decode cX10_greatest 41 = .ok (.iaload, 1) := by decide +kernel
theorem dX10_greatest_42 : decode cX10_greatest 42 = .ok (.istore 4, 2) := by decide +kernel
theorem dX10_greatest_44 : decode cX10_greatest 44 = .ok (.iload 4, 2) := by decide +kernel
theorem dX10_greatest_46 : decode cX10_greatest 46 = .ok (.iconst 0, 1) := by decide +kernel
theorem dX10_greatest_47 : decode cX10_greatest 47 = .ok (.bipush 29, 2) := by decide +kernel
theorem dX10_greatest_49 : decode cX10_greatest 49 = .ok (.invokestatic 86, 3) := by decide +kernel
theorem dX10_greatest_52 : decode cX10_greatest 52 = .ok (.ifCond .eq 14, 3) := by decide +kernel
theorem dX10_greatest_55 : decode cX10_greatest 55 = .ok (.aload_n 0, 1) := by decide +kernel
theorem dX10_greatest_56 : decode cX10_greatest 56 = .ok (.getfield 61, 3) := by decide +kernel
theorem dX10_greatest_59 : decode cX10_greatest 59 = .ok (.iload 4, 2) := by decide +kernel
theorem dX10_greatest_61 : decode cX10_greatest 61 = .ok (.dup2, 1) := by decide +kernel
theorem dX10_greatest_62 : decode cX10_greatest 62 = .ok (.iaload, 1) := by decide +kernel
theorem dX10_greatest_63 : decode cX10_greatest 63 = .ok (.iconst 1, 1) := by decide +kernel
theorem dX10_greatest_64 : decode cX10_greatest 64 = .ok (.iadd, 1) := by decide +kernel
theorem dX10_greatest_65 : decode cX10_greatest 65 = .ok (.iastore, 1) := by decide +kernel
theorem dX10_greatest_66 : decode cX10_greatest 66 = .ok (.iinc 3 1, 3) := by decide +kernel
theorem dX10_greatest_69 : decode cX10_greatest 69 = .ok (.goto (-35), 3) := by decide +kernel
theorem dX10_greatest_72 : decode cX10_greatest 72 = .ok (.iconst (-1), 1) := by decide +kernel
theorem dX10_greatest_73 : decode cX10_greatest 73 = .ok (.istore_n 1, 1) := by decide +kernel
theorem dX10_greatest_74 : decode cX10_greatest 74 = .ok (.iconst 0, 1) := by decide +kernel
theorem dX10_greatest_75 : decode cX10_greatest 75 = .ok (.istore_n 2, 1) := by decide +kernel
theorem dX10_greatest_76 : decode cX10_greatest 76 = .ok (.iconst 0, 1) := by decide +kernel
theorem dX10_greatest_77 : decode cX10_greatest 77 = .ok (.istore_n 3, 1) := by decide +kernel
theorem dX10_greatest_78 : decode cX10_greatest 78 = .ok (.iload_n 3, 1) := by decide +kernel
theorem dX10_greatest_79 : decode cX10_greatest 79 = .ok (.bipush 30, 2) := by decide +kernel
theorem dX10_greatest_81 : decode cX10_greatest 81 = .ok (.if_icmp .ge 28, 3) := by decide +kernel
theorem dX10_greatest_84 : decode cX10_greatest 84 = .ok (.aload_n 0, 1) := by decide +kernel
theorem dX10_greatest_85 : decode cX10_greatest 85 = .ok (.getfield 61, 3) := by decide +kernel
theorem dX10_greatest_88 : decode cX10_greatest 88 = .ok (.iload_n 3, 1) := by decide +kernel
theorem dX10_greatest_89 : decode cX10_greatest 89 = .ok (.iaload, 1) := by decide +kernel
theorem dX10_greatest_90 : decode cX10_greatest 90 = .ok (.iload_n 2, 1) := by decide +kernel
theorem dX10_greatest_91 : decode cX10_greatest 91 = .ok (.if_icmp .le 12, 3) := by decide +kernel
theorem dX10_greatest_94 : decode cX10_greatest 94 = .ok (.aload_n 0, 1) := by decide +kernel
theorem dX10_greatest_95 : decode cX10_greatest 95 = .ok (.getfield 61, 3) := by decide +kernel
theorem dX10_greatest_98 : decode cX10_greatest 98 = .ok (.iload_n 3, 1) := by decide +kernel
theorem dX10_greatest_99 : decode cX10_greatest 99 = .ok (.iaload, 1) := by decide +kernel
theorem dX10_greatest_100 : decode cX10_greatest 100 = .ok (.istore_n 2, 1) := by decide +kernel
theorem dX10_greatest_101 : decode cX10_greatest 101 = .ok (.iload_n 3, 1) := by decide +kernel
theorem dX10_greatest_102 : decode cX10_greatest 102 = .ok (.istore_n 1, 1) := by decide +kernel
theorem dX10_greatest_103 : decode cX10_greatest 103 = .ok (.iinc 3 1, 3) := by decide +kernel
theorem dX10_greatest_106 : decode cX10_greatest 106 = .ok (.goto (-28), 3) := by decide +kernel
theorem dX10_greatest_109 : decode cX10_greatest 109 = .ok (.iload_n 1, 1) := by decide +kernel
theorem dX10_greatest_110 : decode cX10_greatest 110 = .ok (.ireturn, 1) := by decide +kernel
def st_X10_greatest_34 (F : Nat) (a9 : Int32) (rec : Int32 → GM → Option GM) (a10 : Int32) (M : GM) : Option GM := if a9 ≤ a10 then (some M) else (grd (gIn a10 (gN 34)) (bnd (gI M 34 a10.toNatClampNeg) (fun v12 => if (f_X10_isWithin v12 (0 : Int32) (29 : Int32)) = 0 then (bnd (a10 + (1 : Int32)) (fun v14 => rec v14 M)) else (grd (gIn v12 (gN 41)) (grd (gIn v12 (gN 41)) (bnd (sI M 41 v12.toNatClampNeg ((gI M 41 v12.toNatClampNeg) + (1 : Int32))) (fun M18 => bnd (a10 + (1 : Int32)) (fun v20 => rec v20 M18))))))))
def lp_X10_greatest_34 (F : Nat) (a9 : Int32) : Nat → Int32 → GM → Option GM
  | 0 => fun _ _ => none
  | f + 1 => fun a10 M => st_X10_greatest_34 F a9 (lp_X10_greatest_34 F a9 f) a10 M
set_option maxHeartbeats 4000000 in
set_option maxRecDepth 100000 in
theorem lw_X10_greatest_34 {x : GX} (X : GC x cX10_greatest 5 RX10 7) {a9 : Int32}  {F : Nat} {r9 : GM} (hE : ∀  (M9 : GM), r9 = M9 → WG x M9 [(0, .ref (gad (xz x) 0))] 72 []) : ∀ (f : Nat) (a10 : Int32) (M : GM), lp_X10_greatest_34 F a9 f a10 M = some r9 → WG x M [(0, .ref (gad (xz x) 0)), (1, .ref (gad (xz x) 34)), (2, .int a9), (3, .int a10)] 34 [] := by
  intro f
  induction f with
  | zero => intro a10 M h; cases h
  | succ f ih =>
    intro a10 M h
    have hrec := ih
    have h : st_X10_greatest_34 F a9 (lp_X10_greatest_34 F a9 f) a10 M = some r9 := h
    generalize lp_X10_greatest_34 F a9 f = rec at h hrec
    unfold st_X10_greatest_34 at h
    refine g_iload_n X (j := 3) dX10_greatest_34 rfl rfl ?_
    refine g_iload_n X (j := 2) dX10_greatest_35 rfl rfl ?_
    refine g_icmp_ge X (tgt := 72) dX10_greatest_36 (by decide) (fun hb => ?_) (fun hb => ?_)
    · have h := ite_t hb h
      refine g_lv [0] rfl ?_
      exact hE M (Option.some.inj h).symm
    · have h := ite_f hb h
      refine g_aload_n X (j := 1) dX10_greatest_39 rfl rfl ?_
      refine g_iload_n X (j := 3) dX10_greatest_40 rfl rfl ?_
      obtain ⟨hg11, h⟩ := grd_e h
      refine g_iald X gT_c34 hg11 dX10_greatest_41 ?_
      refine g_topi (fun v12 e13 => ?_)
      have h := bnd_e e13 h
      refine g_istore X (lv' := [(4, .int v12), (0, .ref (gad (xz x) 0)), (1, .ref (gad (xz x) 34)), (2, .int a9), (3, .int a10)]) dX10_greatest_42 (by decide) rfl ?_
      refine g_iload X (j := 0) dX10_greatest_44 rfl ?_
      refine g_iconst X (v := 0) dX10_greatest_46 (by decide) ?_
      refine g_bipush X (v := 29) dX10_greatest_47 (by decide) ?_
      refine gc_X10_86 X (ct_X10_isWithin X.htr ) (by decide) (Nat.le_of_ble_eq_true rfl) dX10_greatest_49 ?_
      refine g_if_eq X (tgt := 66) dX10_greatest_52 (by decide) (fun hb => ?_) (fun hb => ?_)
      · have h := ite_t hb h
        refine g_iinc X (j := 4) (w := a10 + (1 : Int32)) (lv' := [(4, .int v12), (0, .ref (gad (xz x) 0)), (1, .ref (gad (xz x) 34)), (2, .int a9)]) dX10_greatest_66 rfl (by rw [ii_1]) (by decide) (fun _ => rfl) (fun v14 e15 => ?_)
        have h := bnd_e e15 h
        refine g_goto X (tgt := 34) dX10_greatest_69 (by decide) ?_
        refine g_lv [2, 3, 4, 0] rfl ?_
        exact hrec v14 M h
      · have h := ite_f hb h
        refine g_aload_n X (j := 1) dX10_greatest_55 rfl rfl ?_
        refine gf_X10_61 X gT_c0 dX10_greatest_56 ?_
        refine g_iload X (j := 0) dX10_greatest_59 rfl ?_
        refine g_dup2 X dX10_greatest_61 rfl rfl ?_
        obtain ⟨hg16, h⟩ := grd_e h
        refine g_iald X gT_c41 hg16 dX10_greatest_62 ?_
        refine g_iconst X (v := 1) dX10_greatest_63 (by decide) ?_
        refine g_iadd X dX10_greatest_64 ?_
        obtain ⟨hg17, h⟩ := grd_e h
        refine g_iast X gT_c41 hg17 dX10_greatest_65 ?_
        refine g_mem (fun M18 e19 => ?_)
        have h := bnd_e e19 h
        refine g_iinc X (j := 4) (w := a10 + (1 : Int32)) (lv' := [(4, .int v12), (0, .ref (gad (xz x) 0)), (1, .ref (gad (xz x) 34)), (2, .int a9)]) dX10_greatest_66 rfl (by rw [ii_1]) (by decide) (fun _ => rfl) (fun v20 e21 => ?_)
        have h := bnd_e e21 h
        refine g_goto X (tgt := 34) dX10_greatest_69 (by decide) ?_
        refine g_lv [2, 3, 4, 0] rfl ?_
        exact hrec v20 M18 h
def st_X10_greatest_78 (F : Nat)  (rec : Int32 → Int32 → Int32 → GM → Option (Int32 × GM)) (a30 : Int32) (a31 : Int32) (a32 : Int32) (M : GM) : Option (Int32 × GM) := if (30 : Int32) ≤ a32 then (some (a30, M)) else (grd (gIn a32 (gN 41)) (if (gI M 41 a32.toNatClampNeg) ≤ a31 then (bnd (a32 + (1 : Int32)) (fun v34 => rec a30 a31 v34 M)) else (grd (gIn a32 (gN 41)) (bnd (gI M 41 a32.toNatClampNeg) (fun v37 => bnd a32 (fun v39 => bnd (a32 + (1 : Int32)) (fun v41 => rec v39 v37 v41 M)))))))
def lp_X10_greatest_78 (F : Nat)  : Nat → Int32 → Int32 → Int32 → GM → Option (Int32 × GM)
  | 0 => fun _ _ _ _ => none
  | f + 1 => fun a30 a31 a32 M => st_X10_greatest_78 F  (lp_X10_greatest_78 F  f) a30 a31 a32 M
set_option maxHeartbeats 4000000 in
set_option maxRecDepth 100000 in
theorem lw_X10_greatest_78 {x : GX} (X : GC x cX10_greatest 5 RX10 7)   {F : Nat} {r9 : (Int32 × GM)} (hE : ∀ (x1_9 : Int32) (M9 : GM), r9 = (x1_9, M9) → WG x M9 [(1, .int x1_9)] 109 []) : ∀ (f : Nat) (a30 : Int32) (a31 : Int32) (a32 : Int32) (M : GM), lp_X10_greatest_78 F  f a30 a31 a32 M = some r9 → WG x M [(0, .ref (gad (xz x) 0)), (1, .int a30), (2, .int a31), (3, .int a32)] 78 [] := by
  intro f
  induction f with
  | zero => intro a30 a31 a32 M h; cases h
  | succ f ih =>
    intro a30 a31 a32 M h
    have hrec := ih
    have h : st_X10_greatest_78 F  (lp_X10_greatest_78 F  f) a30 a31 a32 M = some r9 := h
    generalize lp_X10_greatest_78 F  f = rec at h hrec
    unfold st_X10_greatest_78 at h
    refine g_iload_n X (j := 3) dX10_greatest_78 rfl rfl ?_
    refine g_bipush X (v := 30) dX10_greatest_79 (by decide) ?_
    refine g_icmp_ge X (tgt := 109) dX10_greatest_81 (by decide) (fun hb => ?_) (fun hb => ?_)
    · have h := ite_t hb h
      refine g_lv [1] rfl ?_
      exact hE a30 M (Option.some.inj h).symm
    · have h := ite_f hb h
      refine g_aload_n X (j := 0) dX10_greatest_84 rfl rfl ?_
      refine gf_X10_61 X gT_c0 dX10_greatest_85 ?_
      refine g_iload_n X (j := 3) dX10_greatest_88 rfl rfl ?_
      obtain ⟨hg33, h⟩ := grd_e h
      refine g_iald X gT_c41 hg33 dX10_greatest_89 ?_
      refine g_iload_n X (j := 2) dX10_greatest_90 rfl rfl ?_
      refine g_icmp_le X (tgt := 103) dX10_greatest_91 (by decide) (fun hb => ?_) (fun hb => ?_)
      · have h := ite_t hb h
        refine g_iinc X (j := 3) (w := a32 + (1 : Int32)) (lv' := [(0, .ref (gad (xz x) 0)), (1, .int a30), (2, .int a31)]) dX10_greatest_103 rfl (by rw [ii_1]) (by decide) (fun _ => rfl) (fun v34 e35 => ?_)
        have h := bnd_e e35 h
        refine g_goto X (tgt := 78) dX10_greatest_106 (by decide) ?_
        refine g_lv [1, 2, 3, 0] rfl ?_
        exact hrec a30 a31 v34 M h
      · have h := ite_f hb h
        refine g_aload_n X (j := 0) dX10_greatest_94 rfl rfl ?_
        refine gf_X10_61 X gT_c0 dX10_greatest_95 ?_
        refine g_iload_n X (j := 3) dX10_greatest_98 rfl rfl ?_
        obtain ⟨hg36, h⟩ := grd_e h
        refine g_iald X gT_c41 hg36 dX10_greatest_99 ?_
        refine g_topi (fun v37 e38 => ?_)
        have h := bnd_e e38 h
        refine g_istore_n X (lv' := [(2, .int v37), (0, .ref (gad (xz x) 0)), (1, .int a30), (3, .int a32)]) dX10_greatest_100 rfl (by decide) rfl ?_
        refine g_iload_n X (j := 3) dX10_greatest_101 rfl rfl ?_
        refine g_topi (fun v39 e40 => ?_)
        have h := bnd_e e40 h
        refine g_istore_n X (lv' := [(1, .int v39), (2, .int v37), (0, .ref (gad (xz x) 0)), (3, .int a32)]) dX10_greatest_102 rfl (by decide) rfl ?_
        refine g_iinc X (j := 3) (w := a32 + (1 : Int32)) (lv' := [(1, .int v39), (2, .int v37), (0, .ref (gad (xz x) 0))]) dX10_greatest_103 rfl (by rw [ii_1]) (by decide) (fun _ => rfl) (fun v41 e42 => ?_)
        have h := bnd_e e42 h
        refine g_goto X (tgt := 78) dX10_greatest_106 (by decide) ?_
        refine g_lv [3, 1, 2, 0] rfl ?_
        exact hrec v39 v37 v41 M h
def f_X10_greatest (F : Nat) (M : GM) : Option (Int32 × GM) := bndO (f_X10_draw F 31 42 ((-1) : Int32) M) (fun M2 => bndO (f_J7_fill_53178 F 41 (0 : Int32) M2) (fun M4 => bnd (960 : Int32) (fun v5 => bnd (0 : Int32) (fun v7 => bndO (lp_X10_greatest_34 F v5 F v7 M4) (fun M22 => bnd ((-1) : Int32) (fun v24 => bnd (0 : Int32) (fun v26 => bnd (0 : Int32) (fun v28 => bndO (lp_X10_greatest_78 F  F v24 v26 v28 M22) (fun (v43, M44) => some (v43, M44))))))))))
set_option maxHeartbeats 4000000 in
set_option maxRecDepth 100000 in
theorem w_X10_greatest {x : GX} (X : GC x cX10_greatest 5 RX10 7)   {F : Nat} {M : GM} {r9 : (Int32 × GM)} (hR : ∀ (v9 : Int32) (M9 : GM) (lv9 : List (Nat × Value)) (pc9 : Nat), r9 = (v9, M9) → decode cX10_greatest pc9 = .ok (.ireturn, 1) → WG x M9 lv9 pc9 [.int v9]) (h : f_X10_greatest F M = some r9) : WG x M [(0, .ref (gad (xz x) 0))] 0 [] := by
  unfold f_X10_greatest at h
  refine g_aload_n X (j := 0) dX10_greatest_0 rfl rfl ?_
  refine g_aload_n X (j := 0) dX10_greatest_1 rfl rfl ?_
  refine gf_X10_48 X gT_c0 dX10_greatest_2 ?_
  refine g_aload_n X (j := 0) dX10_greatest_5 rfl rfl ?_
  refine gf_X10_68 X gT_c0 dX10_greatest_6 ?_
  refine g_iconst X (v := (-1)) dX10_greatest_9 (by decide) ?_
  obtain ⟨M2, hc1, h⟩ := bndO_e h
  refine gc_X10_286 X gT_c0 (ct_X10_draw X.htr gT_c31 gT_c42 hc1) (by decide) (Nat.le_of_ble_eq_true rfl) dX10_greatest_10 ?_
  refine g_aload_n X (j := 0) dX10_greatest_13 rfl rfl ?_
  refine gf_X10_61 X gT_c0 dX10_greatest_14 ?_
  refine g_iconst X (v := 0) dX10_greatest_17 (by decide) ?_
  obtain ⟨M4, hc3, h⟩ := bndO_e h
  refine gc_X10_328 X (ct_J7_fill_53178 X.htr gT_c41 hc3) (by decide) (Nat.le_of_ble_eq_true rfl) dX10_greatest_18 ?_
  refine g_aload_n X (j := 0) dX10_greatest_21 rfl rfl ?_
  refine gf_X10_48 X gT_c0 dX10_greatest_22 ?_
  refine gf_X10_312 X gT_c31 dX10_greatest_25 ?_
  refine g_astore_n X (lv' := [(1, .ref (gad (xz x) 34)), (0, .ref (gad (xz x) 0))]) dX10_greatest_28 rfl (by decide) rfl ?_
  refine g_aload_n X (j := 0) dX10_greatest_29 rfl rfl ?_
  refine g_alen_20 X gT_c34 dX10_greatest_30 ?_
  rw [show Int32.ofNat (gN 34) = 960 by decide +kernel]
  refine g_topi (fun v5 e6 => ?_)
  have h := bnd_e e6 h
  refine g_istore_n X (lv' := [(2, .int v5), (1, .ref (gad (xz x) 34)), (0, .ref (gad (xz x) 0))]) dX10_greatest_31 rfl (by decide) rfl ?_
  refine g_iconst X (v := 0) dX10_greatest_32 (by decide) ?_
  refine g_topi (fun v7 e8 => ?_)
  have h := bnd_e e8 h
  refine g_istore_n X (lv' := [(3, .int v7), (2, .int v5), (1, .ref (gad (xz x) 34)), (0, .ref (gad (xz x) 0))]) dX10_greatest_33 rfl (by decide) rfl ?_
  refine g_lv [3, 2, 1, 0] rfl ?_
  obtain ⟨M22, hl23, h⟩ := bndO_e h
  refine lw_X10_greatest_34 X  (fun M22_ e9 => ?_) F v7 M4 hl23
  cases e9
  refine g_iconst X (v := (-1)) dX10_greatest_72 (by decide) ?_
  refine g_topi (fun v24 e25 => ?_)
  have h := bnd_e e25 h
  refine g_istore_n X (lv' := [(1, .int v24), (0, .ref (gad (xz x) 0))]) dX10_greatest_73 rfl (by decide) rfl ?_
  refine g_iconst X (v := 0) dX10_greatest_74 (by decide) ?_
  refine g_topi (fun v26 e27 => ?_)
  have h := bnd_e e27 h
  refine g_istore_n X (lv' := [(2, .int v26), (1, .int v24), (0, .ref (gad (xz x) 0))]) dX10_greatest_75 rfl (by decide) rfl ?_
  refine g_iconst X (v := 0) dX10_greatest_76 (by decide) ?_
  refine g_topi (fun v28 e29 => ?_)
  have h := bnd_e e29 h
  refine g_istore_n X (lv' := [(3, .int v28), (2, .int v26), (1, .int v24), (0, .ref (gad (xz x) 0))]) dX10_greatest_77 rfl (by decide) rfl ?_
  refine g_lv [3, 2, 1, 0] rfl ?_
  obtain ⟨⟨v43, M44⟩, hl45, h⟩ := bndO_e h
  refine lw_X10_greatest_78 X  (fun v43_ M44_ e9 => ?_) F v24 v26 v28 M22 hl45
  cases e9
  refine g_iload_n X (j := 0) dX10_greatest_109 rfl rfl ?_
  exact hR v43 M44 _ _ (Option.some.inj h).symm dX10_greatest_110
theorem ct_X10_greatest {l : Launch} {z : GZ} (htr : l.stackTraces = false)   {M : GM} {F : Nat} {v : Int32} {M1 : GM} (h : f_X10_greatest F M = some (v, M1)) : gMet l z yX10_greatest cX10_greatest 5 (some .int) 7 [.ref (gad z 0)] M (some (.int v)) M1 := gMet_ofI (by decide +kernel) (Nat.le_of_ble_eq_true rfl) htr rfl (fun x X ez el hR => by subst ez; subst el; exact w_X10_greatest X  (fun v9 M9 lv9 pc9 e9 d9 => by cases e9; exact hR lv9 pc9 d9) h)
theorem gc_X10_376 {x : GX} {cc : ByteArray} {nL d pc : Nat} {M : GM} {lv : List (Nat × Value)} {st : List Value} (X : GC x cc nL RX10 d) {i0 : Int32} {M1 : GM} {r : Int32} (ht : gT 0 = 10) (hM : gMet (xl x) (xz x) yX10_polygonOf cX10_polygonOf 2 (some .int) 7 [.ref (gad (xz x) 0), .int i0] M (some (.int r)) M1) (hd : 8 ≤ d) (hsum : (st.map fun v => v.category).sum ≤ 8) (dec : decode cc pc = .ok (.invokevirtual 376, 3)) (go : WG x M1 lv (pc + 3) (.int r :: st)) : WG x M lv pc (.int i0 :: .ref (gad (xz x) 0) :: st) := g_callV X (n := 1) (As := [.int i0]) (rest := st) hM ht (by decide) (gE_10 ht) rfl q_447 q_156 q_157 q_17 q_158 (by decide +kernel) rfl hd (by decide) rfl hsum dec go
theorem gx_X10_376 {x : GX} {cc : ByteArray} {nL d pc : Nat} {M : GM} {lv : List (Nat × Value)} {st : List Value} (X : GC x cc nL RX10 d) {i0 : Int32} {M1 : GM} {n9 : Nat} (ht : gT 0 = 10) (hM : gMetX (xl x) (xz x) yX10_polygonOf cX10_polygonOf 2 (some .int) 7 [.ref (gad (xz x) 0), .int i0] M n9 M1) (hd : 8 ≤ d) (hsum : (st.map fun v => v.category).sum ≤ 8) (dec : decode cc pc = .ok (.invokevirtual 376, 3)) (hT : GThr x n9 M1) : WG x M lv pc (.int i0 :: .ref (gad (xz x) 0) :: st) := g_xV X (n := 1) (As := [.int i0]) (rest := st) hM ht (by decide) (gE_10 ht) rfl q_447 q_156 q_157 q_17 q_158 (by decide +kernel) rfl hd (by decide) rfl hsum dec hT
theorem gc_X10_379 {x : GX} {cc : ByteArray} {nL d pc : Nat} {M : GM} {lv : List (Nat × Value)} {st : List Value} (X : GC x cc nL RX10 d) {i0 : Int32} {M1 : GM} {r : Int32} (ht : gT 0 = 10) (hM : gMet (xl x) (xz x) yX10_piecesOf cX10_piecesOf 7 (some .int) 7 [.ref (gad (xz x) 0), .int i0] M (some (.int r)) M1) (hd : 8 ≤ d) (hsum : (st.map fun v => v.category).sum ≤ 8) (dec : decode cc pc = .ok (.invokevirtual 379, 3)) (go : WG x M1 lv (pc + 3) (.int r :: st)) : WG x M lv pc (.int i0 :: .ref (gad (xz x) 0) :: st) := g_callV X (n := 1) (As := [.int i0]) (rest := st) hM ht (by decide) (gE_10 ht) rfl q_448 q_251 q_252 q_17 q_253 (by decide +kernel) rfl hd (by decide) rfl hsum dec go
theorem gx_X10_379 {x : GX} {cc : ByteArray} {nL d pc : Nat} {M : GM} {lv : List (Nat × Value)} {st : List Value} (X : GC x cc nL RX10 d) {i0 : Int32} {M1 : GM} {n9 : Nat} (ht : gT 0 = 10) (hM : gMetX (xl x) (xz x) yX10_piecesOf cX10_piecesOf 7 (some .int) 7 [.ref (gad (xz x) 0), .int i0] M n9 M1) (hd : 8 ≤ d) (hsum : (st.map fun v => v.category).sum ≤ 8) (dec : decode cc pc = .ok (.invokevirtual 379, 3)) (hT : GThr x n9 M1) : WG x M lv pc (.int i0 :: .ref (gad (xz x) 0) :: st) := g_xV X (n := 1) (As := [.int i0]) (rest := st) hM ht (by decide) (gE_10 ht) rfl q_448 q_251 q_252 q_17 q_253 (by decide +kernel) rfl hd (by decide) rfl hsum dec hT
theorem gc_X10_382 {x : GX} {cc : ByteArray} {nL d pc : Nat} {M : GM} {lv : List (Nat × Value)} {st : List Value} (X : GC x cc nL RX10 d) {i0 : Int32} {M1 : GM} {r : Int32} (ht : gT 0 = 10) (hM : gMet (xl x) (xz x) yX10_pointsOf cX10_pointsOf 5 (some .int) 7 [.ref (gad (xz x) 0), .int i0] M (some (.int r)) M1) (hd : 8 ≤ d) (hsum : (st.map fun v => v.category).sum ≤ 8) (dec : decode cc pc = .ok (.invokevirtual 382, 3)) (go : WG x M1 lv (pc + 3) (.int r :: st)) : WG x M lv pc (.int i0 :: .ref (gad (xz x) 0) :: st) := g_callV X (n := 1) (As := [.int i0]) (rest := st) hM ht (by decide) (gE_10 ht) rfl q_449 q_255 q_256 q_17 q_257 (by decide +kernel) rfl hd (by decide) rfl hsum dec go
theorem gx_X10_382 {x : GX} {cc : ByteArray} {nL d pc : Nat} {M : GM} {lv : List (Nat × Value)} {st : List Value} (X : GC x cc nL RX10 d) {i0 : Int32} {M1 : GM} {n9 : Nat} (ht : gT 0 = 10) (hM : gMetX (xl x) (xz x) yX10_pointsOf cX10_pointsOf 5 (some .int) 7 [.ref (gad (xz x) 0), .int i0] M n9 M1) (hd : 8 ≤ d) (hsum : (st.map fun v => v.category).sum ≤ 8) (dec : decode cc pc = .ok (.invokevirtual 382, 3)) (hT : GThr x n9 M1) : WG x M lv pc (.int i0 :: .ref (gad (xz x) 0) :: st) := g_xV X (n := 1) (As := [.int i0]) (rest := st) hM ht (by decide) (gE_10 ht) rfl q_449 q_255 q_256 q_17 q_257 (by decide +kernel) rfl hd (by decide) rfl hsum dec hT
theorem gc_X10_385 {x : GX} {cc : ByteArray} {nL d pc : Nat} {M : GM} {lv : List (Nat × Value)} {st : List Value} (X : GC x cc nL RX10 d) {i0 : Int32} {M1 : GM} {r : Int32} (ht : gT 0 = 10) (hM : gMet (xl x) (xz x) yX10_pointsWith cX10_pointsWith 7 (some .int) 7 [.ref (gad (xz x) 0), .int i0] M (some (.int r)) M1) (hd : 8 ≤ d) (hsum : (st.map fun v => v.category).sum ≤ 8) (dec : decode cc pc = .ok (.invokevirtual 385, 3)) (go : WG x M1 lv (pc + 3) (.int r :: st)) : WG x M lv pc (.int i0 :: .ref (gad (xz x) 0) :: st) := g_callV X (n := 1) (As := [.int i0]) (rest := st) hM ht (by decide) (gE_10 ht) rfl q_450 q_392 q_393 q_17 q_394 (by decide +kernel) rfl hd (by decide) rfl hsum dec go
theorem gx_X10_385 {x : GX} {cc : ByteArray} {nL d pc : Nat} {M : GM} {lv : List (Nat × Value)} {st : List Value} (X : GC x cc nL RX10 d) {i0 : Int32} {M1 : GM} {n9 : Nat} (ht : gT 0 = 10) (hM : gMetX (xl x) (xz x) yX10_pointsWith cX10_pointsWith 7 (some .int) 7 [.ref (gad (xz x) 0), .int i0] M n9 M1) (hd : 8 ≤ d) (hsum : (st.map fun v => v.category).sum ≤ 8) (dec : decode cc pc = .ok (.invokevirtual 385, 3)) (hT : GThr x n9 M1) : WG x M lv pc (.int i0 :: .ref (gad (xz x) 0) :: st) := g_xV X (n := 1) (As := [.int i0]) (rest := st) hM ht (by decide) (gE_10 ht) rfl q_450 q_392 q_393 q_17 q_394 (by decide +kernel) rfl hd (by decide) rfl hsum dec hT
theorem gc_X10_388 {x : GX} {cc : ByteArray} {nL d pc : Nat} {M : GM} {lv : List (Nat × Value)} {st : List Value} (X : GC x cc nL RX10 d) {i0 : Int32} {i1 : Int32} {i2 : Int32} {M1 : GM} {r : Int32} (ht : gT 0 = 10) (hM : gMet (xl x) (xz x) yX10_screenOf cX10_screenOf 5 (some .int) 7 [.ref (gad (xz x) 0), .int i0, .int i1, .int i2] M (some (.int r)) M1) (hd : 8 ≤ d) (hsum : (st.map fun v => v.category).sum ≤ 8) (dec : decode cc pc = .ok (.invokevirtual 388, 3)) (go : WG x M1 lv (pc + 3) (.int r :: st)) : WG x M lv pc (.int i2 :: .int i1 :: .int i0 :: .ref (gad (xz x) 0) :: st) := g_callV X (n := 3) (As := [.int i0, .int i1, .int i2]) (rest := st) hM ht (by decide) (gE_10 ht) rfl q_451 q_452 q_453 q_17 q_454 (by decide +kernel) rfl hd (by decide) rfl hsum dec go
theorem gx_X10_388 {x : GX} {cc : ByteArray} {nL d pc : Nat} {M : GM} {lv : List (Nat × Value)} {st : List Value} (X : GC x cc nL RX10 d) {i0 : Int32} {i1 : Int32} {i2 : Int32} {M1 : GM} {n9 : Nat} (ht : gT 0 = 10) (hM : gMetX (xl x) (xz x) yX10_screenOf cX10_screenOf 5 (some .int) 7 [.ref (gad (xz x) 0), .int i0, .int i1, .int i2] M n9 M1) (hd : 8 ≤ d) (hsum : (st.map fun v => v.category).sum ≤ 8) (dec : decode cc pc = .ok (.invokevirtual 388, 3)) (hT : GThr x n9 M1) : WG x M lv pc (.int i2 :: .int i1 :: .int i0 :: .ref (gad (xz x) 0) :: st) := g_xV X (n := 3) (As := [.int i0, .int i1, .int i2]) (rest := st) hM ht (by decide) (gE_10 ht) rfl q_451 q_452 q_453 q_17 q_454 (by decide +kernel) rfl hd (by decide) rfl hsum dec hT
theorem dX10_digestPane_0 : decode cX10_digestPane 0 = .ok (.lload_n 1, 1) := by decide +kernel
theorem dX10_digestPane_1 : decode cX10_digestPane 1 = .ok (.lstore 4, 2) := by decide +kernel
theorem dX10_digestPane_3 : decode cX10_digestPane 3 = .ok (.aload_n 0, 1) := by decide +kernel
theorem dX10_digestPane_4 : decode cX10_digestPane 4 = .ok (.iload_n 3, 1) := by decide +kernel
theorem dX10_digestPane_5 : decode cX10_digestPane 5 = .ok (.invokevirtual 376, 3) := by decide +kernel
theorem dX10_digestPane_8 : decode cX10_digestPane 8 = .ok (.istore 6, 2) := by decide +kernel
theorem dX10_digestPane_10 : decode cX10_digestPane 10 = .ok (.lload 4, 2) := by decide +kernel
theorem dX10_digestPane_12 : decode cX10_digestPane 12 = .ok (.ldc2_w 351, 3) := by decide +kernel
theorem dX10_digestPane_15 : decode cX10_digestPane 15 = .ok (.lmul, 1) := by decide +kernel
theorem dX10_digestPane_16 : decode cX10_digestPane 16 = .ok (.iload 6, 2) := by decide +kernel
theorem dX10_digestPane_18 : decode cX10_digestPane 18 = .ok (.i2l, 1) := by decide +kernel
theorem dX10_digestPane_19 : decode cX10_digestPane 19 = .ok (.ladd, 1) := by decide +kernel
theorem dX10_digestPane_20 : decode cX10_digestPane 20 = .ok (.lstore 4, 2) := by decide +kernel
theorem dX10_digestPane_22 : decode cX10_digestPane 22 = .ok (.lload 4, 2) := by decide +kernel
theorem dX10_digestPane_24 : decode cX10_digestPane 24 = .ok (.ldc2_w 351, 3) := by decide +kernel
theorem dX10_digestPane_27 : decode cX10_digestPane 27 = .ok (.lmul, 1) := by decide +kernel
theorem dX10_digestPane_28 : decode cX10_digestPane 28 = .ok (.aload_n 0, 1) := by decide +kernel
theorem dX10_digestPane_29 : decode cX10_digestPane 29 = .ok (.iload_n 3, 1) := by decide +kernel
theorem dX10_digestPane_30 : decode cX10_digestPane 30 = .ok (.invokevirtual 379, 3) := by decide +kernel
theorem dX10_digestPane_33 : decode cX10_digestPane 33 = .ok (.i2l, 1) := by decide +kernel
theorem dX10_digestPane_34 : decode cX10_digestPane 34 = .ok (.ladd, 1) := by decide +kernel
theorem dX10_digestPane_35 : decode cX10_digestPane 35 = .ok (.lstore 4, 2) := by decide +kernel
theorem dX10_digestPane_37 : decode cX10_digestPane 37 = .ok (.lload 4, 2) := by decide +kernel
theorem dX10_digestPane_39 : decode cX10_digestPane 39 = .ok (.ldc2_w 351, 3) := by decide +kernel
theorem dX10_digestPane_42 : decode cX10_digestPane 42 = .ok (.lmul, 1) := by decide +kernel
theorem dX10_digestPane_43 : decode cX10_digestPane 43 = .ok (.aload_n 0, 1) := by decide +kernel
theorem dX10_digestPane_44 : decode cX10_digestPane 44 = .ok (.iload_n 3, 1) := by decide +kernel
theorem dX10_digestPane_45 : decode cX10_digestPane 45 = .ok (.invokevirtual 382, 3) := by decide +kernel
theorem dX10_digestPane_48 : decode cX10_digestPane 48 = .ok (.i2l, 1) := by decide +kernel
theorem dX10_digestPane_49 : decode cX10_digestPane 49 = .ok (.ladd, 1) := by decide +kernel
theorem dX10_digestPane_50 : decode cX10_digestPane 50 = .ok (.lstore 4, 2) := by decide +kernel
theorem dX10_digestPane_52 : decode cX10_digestPane 52 = .ok (.lload 4, 2) := by decide +kernel
theorem dX10_digestPane_54 : decode cX10_digestPane 54 = .ok (.ldc2_w 351, 3) := by decide +kernel
theorem dX10_digestPane_57 : decode cX10_digestPane 57 = .ok (.lmul, 1) := by decide +kernel
theorem dX10_digestPane_58 : decode cX10_digestPane 58 = .ok (.aload_n 0, 1) := by decide +kernel
theorem dX10_digestPane_59 : decode cX10_digestPane 59 = .ok (.iload_n 3, 1) := by decide +kernel
theorem dX10_digestPane_60 : decode cX10_digestPane 60 = .ok (.invokevirtual 385, 3) := by decide +kernel
theorem dX10_digestPane_63 : decode cX10_digestPane 63 = .ok (.i2l, 1) := by decide +kernel
theorem dX10_digestPane_64 : decode cX10_digestPane 64 = .ok (.ladd, 1) := by decide +kernel
theorem dX10_digestPane_65 : decode cX10_digestPane 65 = .ok (.lstore 4, 2) := by decide +kernel
theorem dX10_digestPane_67 : decode cX10_digestPane 67 = .ok (.iconst 0, 1) := by decide +kernel
theorem dX10_digestPane_68 : decode cX10_digestPane 68 = .ok (.istore 7, 2) := by decide +kernel
theorem dX10_digestPane_70 : decode cX10_digestPane 70 = .ok (.iload 7, 2) := by decide +kernel
theorem dX10_digestPane_72 : decode cX10_digestPane 72 = .ok (.iload 6, 2) := by decide +kernel
theorem dX10_digestPane_74 : decode cX10_digestPane 74 = .ok (.if_icmp .ge 43, 3) := by decide +kernel
theorem dX10_digestPane_77 : decode cX10_digestPane 77 = .ok (.iconst 0, 1) := by decide +kernel
theorem dX10_digestPane_78 : decode cX10_digestPane 78 = .ok (.istore 8, 2) := by decide +kernel
theorem dX10_digestPane_80 : decode cX10_digestPane 80 = .ok (.iload 8, 2) := by decide +kernel
theorem dX10_digestPane_82 : decode cX10_digestPane 82 = .ok (.iconst 4, 1) := by decide +kernel
theorem dX10_digestPane_83 : decode cX10_digestPane 83 = .ok (.if_icmp .ge 28, 3) := by decide +kernel
theorem dX10_digestPane_86 : decode cX10_digestPane 86 = .ok (.lload 4, 2) := by decide +kernel
theorem dX10_digestPane_88 : decode cX10_digestPane 88 = .ok (.ldc2_w 351, 3) := by decide +kernel
theorem dX10_digestPane_91 : decode cX10_digestPane 91 = .ok (.lmul, 1) := by decide +kernel
theorem dX10_digestPane_92 : decode cX10_digestPane 92 = .ok (.aload_n 0, 1) := by decide +kernel
theorem dX10_digestPane_93 : decode cX10_digestPane 93 = .ok (.iload_n 3, 1) := by decide +kernel
theorem dX10_digestPane_94 : decode cX10_digestPane 94 = .ok (.iload 7, 2) := by decide +kernel
theorem dX10_digestPane_96 : decode cX10_digestPane 96 = .ok (.iload 8, 2) := by decide +kernel
theorem dX10_digestPane_98 : decode cX10_digestPane 98 = .ok (.invokevirtual 388, 3) := by decide +kernel
theorem dX10_digestPane_101 : decode cX10_digestPane 101 = .ok (.i2l, 1) := by decide +kernel
theorem dX10_digestPane_102 : decode cX10_digestPane 102 = .ok (.ladd, 1) := by decide +kernel
theorem dX10_digestPane_103 : decode cX10_digestPane 103 = .ok (.lstore 4, 2) := by decide +kernel
theorem dX10_digestPane_105 : decode cX10_digestPane 105 = .ok (.iinc 8 1, 3) := by decide +kernel
theorem dX10_digestPane_108 : decode cX10_digestPane 108 = .ok (.goto (-28), 3) := by decide +kernel
theorem dX10_digestPane_111 : decode cX10_digestPane 111 = .ok (.iinc 7 1, 3) := by decide +kernel
theorem dX10_digestPane_114 : decode cX10_digestPane 114 = .ok (.goto (-44), 3) := by decide +kernel
theorem dX10_digestPane_117 : decode cX10_digestPane 117 = .ok (.lload 4, 2) := by decide +kernel
theorem dX10_digestPane_119 : decode cX10_digestPane 119 = .ok (.lreturn, 1) := by decide +kernel
def st_X10_digestPane_80 (F : Nat) (a39 : Int32) (a41 : Int32) (a42 : Int32) (rec : Int64 → Int32 → GM → Option ((Int64 × GM) ⊕ ((Nat × GM) ⊕ (Int64 × GM)))) (b40 : Int64) (a43 : Int32) (M : GM) : Option ((Int64 × GM) ⊕ ((Nat × GM) ⊕ (Int64 × GM))) := if (4 : Int32) ≤ a43 then (some (Sum.inl (b40, M))) else (bndT (f_X10_screenOf F a39 a42 a43 M) (fun (n47, M48) => some (Sum.inr (Sum.inl (n47, M48)))) (fun (v45, M46) => bnd ((b40 * (31 : Int64)) + v45.toInt64) (fun w49 => bnd (a43 + (1 : Int32)) (fun v51 => rec w49 v51 M46))))
def lp_X10_digestPane_80 (F : Nat) (a39 : Int32) (a41 : Int32) (a42 : Int32) : Nat → Int64 → Int32 → GM → Option ((Int64 × GM) ⊕ ((Nat × GM) ⊕ (Int64 × GM)))
  | 0 => fun _ _ _ => none
  | f + 1 => fun b40 a43 M => st_X10_digestPane_80 F a39 a41 a42 (lp_X10_digestPane_80 F a39 a41 a42 f) b40 a43 M
set_option maxHeartbeats 4000000 in
set_option maxRecDepth 100000 in
theorem lw_X10_digestPane_80 {x : GX} (X : GC x cX10_digestPane 9 RX10 8) {a39 : Int32} {a41 : Int32} {a42 : Int32}  {F : Nat} {r9 : ((Int64 × GM) ⊕ ((Nat × GM) ⊕ (Int64 × GM)))} (hR : ∀ (v9 : Int64) (M9 : GM) (lv9 : List (Nat × Value)) (pc9 : Nat), r9 = Sum.inr (Sum.inr (v9, M9)) → decode cX10_digestPane pc9 = .ok (.lreturn, 1) → WG x M9 lv9 pc9 [.long v9]) (hX : ∀ (n9 : Nat) (M9 : GM), r9 = Sum.inr (Sum.inl (n9, M9)) → GThr x n9 M9) (hE : ∀ (x4_9 : Int64) (M9 : GM), r9 = Sum.inl (x4_9, M9) → WG x M9 [(0, .ref (gad (xz x) 0)), (3, .int a39), (4, .long x4_9), (6, .int a41), (7, .int a42)] 111 []) : ∀ (f : Nat) (b40 : Int64) (a43 : Int32) (M : GM), lp_X10_digestPane_80 F a39 a41 a42 f b40 a43 M = some r9 → WG x M [(0, .ref (gad (xz x) 0)), (3, .int a39), (4, .long b40), (6, .int a41), (7, .int a42), (8, .int a43)] 80 [] := by
  intro f
  induction f with
  | zero => intro b40 a43 M h; cases h
  | succ f ih =>
    intro b40 a43 M h
    have hrec := ih
    have h : st_X10_digestPane_80 F a39 a41 a42 (lp_X10_digestPane_80 F a39 a41 a42 f) b40 a43 M = some r9 := h
    generalize lp_X10_digestPane_80 F a39 a41 a42 f = rec at h hrec
    unfold st_X10_digestPane_80 at h
    refine g_iload X (j := 5) dX10_digestPane_80 rfl ?_
    refine g_iconst X (v := 4) dX10_digestPane_82 (by decide) ?_
    refine g_icmp_ge X (tgt := 111) dX10_digestPane_83 (by decide) (fun hb => ?_) (fun hb => ?_)
    · have h := ite_t hb h
      refine g_lv [0, 1, 2, 3, 4] rfl ?_
      exact hE b40 M (Option.some.inj h).symm
    · have h := ite_f hb h
      refine g_lload X (j := 2) dX10_digestPane_86 rfl ?_
      refine g_ldc2 X q_425 dX10_digestPane_88 ?_
      refine g_lmul X dX10_digestPane_91 ?_
      refine g_aload_n X (j := 0) dX10_digestPane_92 rfl rfl ?_
      refine g_iload_n X (j := 1) dX10_digestPane_93 rfl rfl ?_
      refine g_iload X (j := 4) dX10_digestPane_94 rfl ?_
      refine g_iload X (j := 5) dX10_digestPane_96 rfl ?_
      rcases bndT_e h with ⟨⟨n47, M48⟩, hc44, h⟩ | ⟨⟨v45, M46⟩, hc44, h⟩
      · exact gx_X10_388 X gT_c0 (cx_X10_screenOf X.htr  hc44) (by decide) (Nat.le_of_ble_eq_true rfl) dX10_digestPane_98 (hX n47 M48 (Option.some.inj h).symm)
      refine gc_X10_388 X gT_c0 (ct_X10_screenOf X.htr  hc44) (by decide) (Nat.le_of_ble_eq_true rfl) dX10_digestPane_98 ?_
      refine g_i2l X dX10_digestPane_101 ?_
      refine g_ladd X dX10_digestPane_102 ?_
      refine g_topl (fun w49 e50 => ?_)
      have h := bnd_e e50 h
      refine g_lstore X (lv' := [(4, .long w49), (0, .ref (gad (xz x) 0)), (3, .int a39), (6, .int a41), (7, .int a42), (8, .int a43)]) dX10_digestPane_103 (by decide) rfl ?_
      refine g_iinc X (j := 5) (w := a43 + (1 : Int32)) (lv' := [(4, .long w49), (0, .ref (gad (xz x) 0)), (3, .int a39), (6, .int a41), (7, .int a42)]) dX10_digestPane_105 rfl (by rw [ii_1]) (by decide) (fun _ => rfl) (fun v51 e52 => ?_)
      have h := bnd_e e52 h
      refine g_goto X (tgt := 80) dX10_digestPane_108 (by decide) ?_
      refine g_lv [2, 3, 1, 4, 5, 0] rfl ?_
      exact hrec w49 v51 M46 h
def st_X10_digestPane_70 (F : Nat) (a33 : Int32) (a35 : Int32) (rec : Int64 → Int32 → GM → Option ((Int64 × GM) ⊕ ((Nat × GM) ⊕ (Int64 × GM)))) (b34 : Int64) (a36 : Int32) (M : GM) : Option ((Int64 × GM) ⊕ ((Nat × GM) ⊕ (Int64 × GM))) := if a35 ≤ a36 then (some (Sum.inl (b34, M))) else (bnd (0 : Int32) (fun v37 => bndT (lp_X10_digestPane_80 F a33 a35 a36 F b34 v37 M) (fun (w53, M54) => bnd (a36 + (1 : Int32)) (fun v57 => rec w53 v57 M54)) (fun r56 => some (Sum.inr r56))))
def lp_X10_digestPane_70 (F : Nat) (a33 : Int32) (a35 : Int32) : Nat → Int64 → Int32 → GM → Option ((Int64 × GM) ⊕ ((Nat × GM) ⊕ (Int64 × GM)))
  | 0 => fun _ _ _ => none
  | f + 1 => fun b34 a36 M => st_X10_digestPane_70 F a33 a35 (lp_X10_digestPane_70 F a33 a35 f) b34 a36 M
set_option maxHeartbeats 4000000 in
set_option maxRecDepth 100000 in
theorem lw_X10_digestPane_70 {x : GX} (X : GC x cX10_digestPane 9 RX10 8) {a33 : Int32} {a35 : Int32}  {F : Nat} {r9 : ((Int64 × GM) ⊕ ((Nat × GM) ⊕ (Int64 × GM)))} (hR : ∀ (v9 : Int64) (M9 : GM) (lv9 : List (Nat × Value)) (pc9 : Nat), r9 = Sum.inr (Sum.inr (v9, M9)) → decode cX10_digestPane pc9 = .ok (.lreturn, 1) → WG x M9 lv9 pc9 [.long v9]) (hX : ∀ (n9 : Nat) (M9 : GM), r9 = Sum.inr (Sum.inl (n9, M9)) → GThr x n9 M9) (hE : ∀ (x4_9 : Int64) (M9 : GM), r9 = Sum.inl (x4_9, M9) → WG x M9 [(4, .long x4_9)] 117 []) : ∀ (f : Nat) (b34 : Int64) (a36 : Int32) (M : GM), lp_X10_digestPane_70 F a33 a35 f b34 a36 M = some r9 → WG x M [(0, .ref (gad (xz x) 0)), (3, .int a33), (4, .long b34), (6, .int a35), (7, .int a36)] 70 [] := by
  intro f
  induction f with
  | zero => intro b34 a36 M h; cases h
  | succ f ih =>
    intro b34 a36 M h
    have hrec := ih
    have h : st_X10_digestPane_70 F a33 a35 (lp_X10_digestPane_70 F a33 a35 f) b34 a36 M = some r9 := h
    generalize lp_X10_digestPane_70 F a33 a35 f = rec at h hrec
    unfold st_X10_digestPane_70 at h
    refine g_iload X (j := 4) dX10_digestPane_70 rfl ?_
    refine g_iload X (j := 3) dX10_digestPane_72 rfl ?_
    refine g_icmp_ge X (tgt := 117) dX10_digestPane_74 (by decide) (fun hb => ?_) (fun hb => ?_)
    · have h := ite_t hb h
      refine g_lv [2] rfl ?_
      exact hE b34 M (Option.some.inj h).symm
    · have h := ite_f hb h
      refine g_iconst X (v := 0) dX10_digestPane_77 (by decide) ?_
      refine g_topi (fun v37 e38 => ?_)
      have h := bnd_e e38 h
      refine g_istore X (lv' := [(8, .int v37), (0, .ref (gad (xz x) 0)), (3, .int a33), (4, .long b34), (6, .int a35), (7, .int a36)]) dX10_digestPane_78 (by decide) rfl ?_
      refine g_lv [1, 2, 3, 4, 5, 0] rfl ?_
      rcases bndT_e h with ⟨⟨w53, M54⟩, hl55, h⟩ | ⟨r56, hl55, h⟩
      · refine lw_X10_digestPane_80 X  (by intros; rename_i e9 _ ; cases e9) (by intros; rename_i e9; cases e9) (fun w53_ M54_  e9 => ?_) F b34 v37 M hl55
        cases e9
        refine g_iinc X (j := 4) (w := a36 + (1 : Int32)) (lv' := [(0, .ref (gad (xz x) 0)), (3, .int a33), (4, .long w53), (6, .int a35)]) dX10_digestPane_111 rfl (by rw [ii_1]) (by decide) (fun _ => rfl) (fun v57 e58 => ?_)
        have h := bnd_e e58 h
        refine g_goto X (tgt := 70) dX10_digestPane_114 (by decide) ?_
        refine g_lv [1, 2, 3, 4, 0] rfl ?_
        exact hrec w53 v57 M54 h
      · exact lw_X10_digestPane_80 X  (fun v9 M9 lv9 pc9 e9 d9 => by cases e9; exact hR _ _ lv9 pc9 (Option.some.inj h).symm d9) (fun n9 M9 e9 => by cases e9; exact hX _ _ (Option.some.inj h).symm) (by intros; rename_i e9; cases e9) F b34 v37 M hl55
def f_X10_digestPane (F : Nat) (j0 : Int64) (i1 : Int32) (M : GM) : Option ((Nat × GM) ⊕ (Int64 × GM)) := bnd j0 (fun w1 => bndT (f_X10_polygonOf F i1 M) (fun (n6, M7) => some (Sum.inl (n6, M7))) (fun (v4, M5) => bnd v4 (fun v8 => bnd ((w1 * (31 : Int64)) + v8.toInt64) (fun w10 => bndT (f_X10_piecesOf F i1 M5) (fun (n15, M16) => some (Sum.inl (n15, M16))) (fun (v13, M14) => bnd ((w10 * (31 : Int64)) + v13.toInt64) (fun w17 => bndT (f_X10_pointsOf F i1 M14) (fun (n22, M23) => some (Sum.inl (n22, M23))) (fun (v20, M21) => bnd ((w17 * (31 : Int64)) + v20.toInt64) (fun w24 => bndT (f_X10_pointsWith F i1 M21) (fun n28 => some (Sum.inl (n28, M21))) (fun v27 => bnd ((w24 * (31 : Int64)) + v27.toInt64) (fun w29 => bnd (0 : Int32) (fun v31 => bndT (lp_X10_digestPane_70 F i1 v8 F w29 v31 M21) (fun (w59, M60) => some (Sum.inr (w59, M60))) (fun r62 => some r62))))))))))))
set_option maxHeartbeats 4000000 in
set_option maxRecDepth 100000 in
theorem w_X10_digestPane {x : GX} (X : GC x cX10_digestPane 9 RX10 8) {j0 : Int64} {i1 : Int32}  {F : Nat} {M : GM} {r9 : ((Nat × GM) ⊕ (Int64 × GM))} (hR : ∀ (v9 : Int64) (M9 : GM) (lv9 : List (Nat × Value)) (pc9 : Nat), r9 = Sum.inr (v9, M9) → decode cX10_digestPane pc9 = .ok (.lreturn, 1) → WG x M9 lv9 pc9 [.long v9]) (hX : ∀ (n9 : Nat) (M9 : GM), r9 = Sum.inl (n9, M9) → GThr x n9 M9) (h : f_X10_digestPane F j0 i1 M = some r9) : WG x M [(0, .ref (gad (xz x) 0)), (1, .long j0), (3, .int i1)] 0 [] := by
  unfold f_X10_digestPane at h
  refine g_lload_n X (j := 1) dX10_digestPane_0 rfl rfl ?_
  refine g_topl (fun w1 e2 => ?_)
  have h := bnd_e e2 h
  refine g_lstore X (lv' := [(4, .long w1), (0, .ref (gad (xz x) 0)), (1, .long j0), (3, .int i1)]) dX10_digestPane_1 (by decide) rfl ?_
  refine g_aload_n X (j := 1) dX10_digestPane_3 rfl rfl ?_
  refine g_iload_n X (j := 3) dX10_digestPane_4 rfl rfl ?_
  rcases bndT_e h with ⟨⟨n6, M7⟩, hc3, h⟩ | ⟨⟨v4, M5⟩, hc3, h⟩
  · exact gx_X10_376 X gT_c0 (cx_X10_polygonOf X.htr  hc3) (by decide) (Nat.le_of_ble_eq_true rfl) dX10_digestPane_5 (hX n6 M7 (Option.some.inj h).symm)
  refine gc_X10_376 X gT_c0 (ct_X10_polygonOf X.htr  hc3) (by decide) (Nat.le_of_ble_eq_true rfl) dX10_digestPane_5 ?_
  refine g_topi (fun v8 e9 => ?_)
  have h := bnd_e e9 h
  refine g_istore X (lv' := [(6, .int v8), (4, .long w1), (0, .ref (gad (xz x) 0)), (1, .long j0), (3, .int i1)]) dX10_digestPane_8 (by decide) rfl ?_
  refine g_lload X (j := 1) dX10_digestPane_10 rfl ?_
  refine g_ldc2 X q_425 dX10_digestPane_12 ?_
  refine g_lmul X dX10_digestPane_15 ?_
  refine g_iload X (j := 0) dX10_digestPane_16 rfl ?_
  refine g_i2l X dX10_digestPane_18 ?_
  refine g_ladd X dX10_digestPane_19 ?_
  refine g_topl (fun w10 e11 => ?_)
  have h := bnd_e e11 h
  refine g_lstore X (lv' := [(4, .long w10), (6, .int v8), (0, .ref (gad (xz x) 0)), (1, .long j0), (3, .int i1)]) dX10_digestPane_20 (by decide) rfl ?_
  refine g_lload X (j := 0) dX10_digestPane_22 rfl ?_
  refine g_ldc2 X q_425 dX10_digestPane_24 ?_
  refine g_lmul X dX10_digestPane_27 ?_
  refine g_aload_n X (j := 2) dX10_digestPane_28 rfl rfl ?_
  refine g_iload_n X (j := 4) dX10_digestPane_29 rfl rfl ?_
  rcases bndT_e h with ⟨⟨n15, M16⟩, hc12, h⟩ | ⟨⟨v13, M14⟩, hc12, h⟩
  · exact gx_X10_379 X gT_c0 (cx_X10_piecesOf X.htr  hc12) (by decide) (Nat.le_of_ble_eq_true rfl) dX10_digestPane_30 (hX n15 M16 (Option.some.inj h).symm)
  refine gc_X10_379 X gT_c0 (ct_X10_piecesOf X.htr  hc12) (by decide) (Nat.le_of_ble_eq_true rfl) dX10_digestPane_30 ?_
  refine g_i2l X dX10_digestPane_33 ?_
  refine g_ladd X dX10_digestPane_34 ?_
  refine g_topl (fun w17 e18 => ?_)
  have h := bnd_e e18 h
  refine g_lstore X (lv' := [(4, .long w17), (6, .int v8), (0, .ref (gad (xz x) 0)), (1, .long j0), (3, .int i1)]) dX10_digestPane_35 (by decide) rfl ?_
  refine g_lload X (j := 0) dX10_digestPane_37 rfl ?_
  refine g_ldc2 X q_425 dX10_digestPane_39 ?_
  refine g_lmul X dX10_digestPane_42 ?_
  refine g_aload_n X (j := 2) dX10_digestPane_43 rfl rfl ?_
  refine g_iload_n X (j := 4) dX10_digestPane_44 rfl rfl ?_
  rcases bndT_e h with ⟨⟨n22, M23⟩, hc19, h⟩ | ⟨⟨v20, M21⟩, hc19, h⟩
  · exact gx_X10_382 X gT_c0 (cx_X10_pointsOf X.htr  hc19) (by decide) (Nat.le_of_ble_eq_true rfl) dX10_digestPane_45 (hX n22 M23 (Option.some.inj h).symm)
  refine gc_X10_382 X gT_c0 (ct_X10_pointsOf X.htr  hc19) (by decide) (Nat.le_of_ble_eq_true rfl) dX10_digestPane_45 ?_
  refine g_i2l X dX10_digestPane_48 ?_
  refine g_ladd X dX10_digestPane_49 ?_
  refine g_topl (fun w24 e25 => ?_)
  have h := bnd_e e25 h
  refine g_lstore X (lv' := [(4, .long w24), (6, .int v8), (0, .ref (gad (xz x) 0)), (1, .long j0), (3, .int i1)]) dX10_digestPane_50 (by decide) rfl ?_
  refine g_lload X (j := 0) dX10_digestPane_52 rfl ?_
  refine g_ldc2 X q_425 dX10_digestPane_54 ?_
  refine g_lmul X dX10_digestPane_57 ?_
  refine g_aload_n X (j := 2) dX10_digestPane_58 rfl rfl ?_
  refine g_iload_n X (j := 4) dX10_digestPane_59 rfl rfl ?_
  rcases bndT_e h with ⟨n28, hc26, h⟩ | ⟨v27, hc26, h⟩
  · exact gx_X10_385 X gT_c0 (cx_X10_pointsWith X.htr  hc26) (by decide) (Nat.le_of_ble_eq_true rfl) dX10_digestPane_60 (hX n28 M21 (Option.some.inj h).symm)
  refine gc_X10_385 X gT_c0 (ct_X10_pointsWith X.htr  hc26) (by decide) (Nat.le_of_ble_eq_true rfl) dX10_digestPane_60 ?_
  refine g_i2l X dX10_digestPane_63 ?_
  refine g_ladd X dX10_digestPane_64 ?_
  refine g_topl (fun w29 e30 => ?_)
  have h := bnd_e e30 h
  refine g_lstore X (lv' := [(4, .long w29), (6, .int v8), (0, .ref (gad (xz x) 0)), (1, .long j0), (3, .int i1)]) dX10_digestPane_65 (by decide) rfl ?_
  refine g_iconst X (v := 0) dX10_digestPane_67 (by decide) ?_
  refine g_topi (fun v31 e32 => ?_)
  have h := bnd_e e32 h
  refine g_istore X (lv' := [(7, .int v31), (4, .long w29), (6, .int v8), (0, .ref (gad (xz x) 0)), (1, .long j0), (3, .int i1)]) dX10_digestPane_68 (by decide) rfl ?_
  refine g_lv [3, 5, 1, 2, 0] rfl ?_
  rcases bndT_e h with ⟨⟨w59, M60⟩, hl61, h⟩ | ⟨r62, hl61, h⟩
  · refine lw_X10_digestPane_70 X  (by intros; rename_i e9 _ ; cases e9) (by intros; rename_i e9; cases e9) (fun w59_ M60_  e9 => ?_) F w29 v31 M21 hl61
    cases e9
    refine g_lload X (j := 0) dX10_digestPane_117 rfl ?_
    exact hR w59 M60 _ _ (Option.some.inj h).symm dX10_digestPane_119
  · exact lw_X10_digestPane_70 X  (fun v9 M9 lv9 pc9 e9 d9 => by cases e9; exact hR _ _ lv9 pc9 (Option.some.inj h).symm d9) (fun n9 M9 e9 => by cases e9; exact hX _ _ (Option.some.inj h).symm) (by intros; rename_i e9; cases e9) F w29 v31 M21 hl61
theorem ct_X10_digestPane {l : Launch} {z : GZ} (htr : l.stackTraces = false) {j0 : Int64} {i1 : Int32}  {M : GM} {F : Nat} {v : Int64} {M1 : GM} (h : f_X10_digestPane F j0 i1 M = some (Sum.inr (v, M1))) : gMet l z yX10_digestPane cX10_digestPane 9 (some .long) 8 [.ref (gad z 0), .long j0, .int i1] M (some (.long v)) M1 := gMet_ofL (by decide +kernel) (Nat.le_of_ble_eq_true rfl) htr (fun x X ez el hR => by subst ez; subst el; exact w_X10_digestPane X  (fun v9 M9 lv9 pc9 e9 d9 => by cases e9; exact hR lv9 pc9 d9) (by intros; rename_i e9; cases e9) h)
theorem cx_X10_digestPane {l : Launch} {z : GZ} (htr : l.stackTraces = false) {j0 : Int64} {i1 : Int32}  {M : GM} {F n : Nat} {M1 : GM} (h : f_X10_digestPane F j0 i1 M = some (Sum.inl (n, M1))) : gMetX l z yX10_digestPane cX10_digestPane 9 (some .long) 8 [.ref (gad z 0), .long j0, .int i1] M n M1 := gMetX_of (by decide +kernel) (Nat.le_of_ble_eq_true rfl) htr (fun x X ez el hT => by subst ez; subst el; exact w_X10_digestPane X  (by intros; rename_i e9 _; cases e9) (fun n9 M9 e9 => by cases e9; exact hT) h)
