/-! 25.m -/
theorem gc_X11_111 {x : GX} {cc : ByteArray} {nL d pc : Nat} {M : GM} {lv : List (Nat × Value)} {st : List Value} (X : GC x cc nL RX11 d)  {M1 : GM} (ht : gT 122 = 11) (hM : gMet (xl x) (xz x) yX11_empty cX11_empty 2 none 0 [.ref (gad (xz x) 122)] M (none) M1) (hd : 1 ≤ d) (hsum : (st.map fun v => v.category).sum ≤ 8) (dec : decode cc pc = .ok (.invokevirtual 111, 3)) (go : WG x M1 lv (pc + 3) (st)) : WG x M lv pc (.ref (gad (xz x) 122) :: st) := g_callV X (n := 0) (As := []) (rest := st) hM ht (by decide) (gE_11 ht) rfl q_1054 q_1056 q_15 q_63 q_1057 (by decide +kernel) rfl hd (by decide) rfl hsum dec go
theorem gc_X11_344 {x : GX} {cc : ByteArray} {nL d pc : Nat} {M : GM} {lv : List (Nat × Value)} {st : List Value} (X : GC x cc nL RX11 d)  {M1 : GM} {r : Int32} (ht : gT 122 = 11) (hM : gMet (xl x) (xz x) yX11_look cX11_look 6 (some .int) 5 [.ref (gad (xz x) 122)] M (some (.int r)) M1) (hd : 6 ≤ d) (hsum : (st.map fun v => v.category).sum ≤ 8) (dec : decode cc pc = .ok (.invokevirtual 344, 3)) (go : WG x M1 lv (pc + 3) (.int r :: st)) : WG x M lv pc (.ref (gad (xz x) 122) :: st) := g_callV X (n := 0) (As := []) (rest := st) hM ht (by decide) (gE_11 ht) rfl q_1448 q_1450 q_45 q_63 q_1451 (by decide +kernel) rfl hd (by decide) rfl hsum dec go
theorem dX11_clear_0 : decode cX11_clear 0 = .ok (.aload_n 0, 1) := by decide +kernel
theorem dX11_clear_1 : decode cX11_clear 1 = .ok (.invokevirtual 111, 3) := by decide +kernel
theorem dX11_clear_4 : decode cX11_clear 4 = .ok (.aload_n 0, 1) := by decide +kernel
theorem dX11_clear_5 : decode cX11_clear 5 = .ok (.aload_n 0, 1) := by decide +kernel
theorem dX11_clear_6 : decode cX11_clear 6 = .ok (.invokevirtual 344, 3) := by decide +kernel
theorem dX11_clear_9 : decode cX11_clear 9 = .ok (.invokevirtual 167, 3) := by decide +kernel
theorem dX11_clear_12 : decode cX11_clear 12 = .ok (.ireturn, 1) := by decide +kernel
def f_X11_clear (F : Nat) (M : GM) : Option (Int32 × GM) := bndO (f_X11_empty F M) (fun M2 => bndO (f_X11_look F M2) (fun (v4, M5) => bndO (f_X11_ok F v4 M5) (fun (v7, M8) => some (v7, M8))))
set_option maxHeartbeats 4000000 in
set_option maxRecDepth 100000 in
theorem w_X11_clear {x : GX} (X : GC x cX11_clear 1 RX11 6)   {F : Nat} {M : GM} {r9 : (Int32 × GM)} (hR : ∀ (v9 : Int32) (M9 : GM) (lv9 : List (Nat × Value)) (pc9 : Nat), r9 = (v9, M9) → decode cX11_clear pc9 = .ok (.ireturn, 1) → WG x M9 lv9 pc9 [.int v9]) (h : f_X11_clear F M = some r9) : WG x M [(0, .ref (gad (xz x) 122))] 0 [] := by
  unfold f_X11_clear at h
  refine g_aload_n X (j := 0) dX11_clear_0 rfl rfl ?_
  obtain ⟨M2, hc1, h⟩ := bndO_e h
  refine gc_X11_111 X gT_c122 (ct_X11_empty X.htr  hc1) (by decide) (Nat.le_of_ble_eq_true rfl) dX11_clear_1 ?_
  refine g_aload_n X (j := 0) dX11_clear_4 rfl rfl ?_
  refine g_aload_n X (j := 0) dX11_clear_5 rfl rfl ?_
  obtain ⟨⟨v4, M5⟩, hc3, h⟩ := bndO_e h
  refine gc_X11_344 X gT_c122 (ct_X11_look X.htr  hc3) (by decide) (Nat.le_of_ble_eq_true rfl) dX11_clear_6 ?_
  obtain ⟨⟨v7, M8⟩, hc6, h⟩ := bndO_e h
  refine gc_X11_167 X gT_c122 (ct_X11_ok X.htr  hc6) (by decide) (Nat.le_of_ble_eq_true rfl) dX11_clear_9 ?_
  exact hR v7 M8 _ _ (Option.some.inj h).symm dX11_clear_12
theorem ct_X11_clear {l : Launch} {z : GZ} (htr : l.stackTraces = false)   {M : GM} {F : Nat} {v : Int32} {M1 : GM} (h : f_X11_clear F M = some (v, M1)) : gMet l z yX11_clear cX11_clear 1 (some .int) 6 [.ref (gad z 122)] M (some (.int v)) M1 := gMet_ofI (by decide +kernel) (Nat.le_of_ble_eq_true rfl) htr rfl (fun x X ez el hR => by subst ez; subst el; exact w_X11_clear X  (fun v9 M9 lv9 pc9 e9 d9 => by cases e9; exact hR lv9 pc9 d9) h)
theorem dX11_paint_0 : decode cX11_paint 0 = .ok (.aload_n 0, 1) := by decide +kernel
theorem dX11_paint_1 : decode cX11_paint 1 = .ok (.invokevirtual 344, 3) := by decide +kernel
theorem dX11_paint_4 : decode cX11_paint 4 = .ok (.istore_n 1, 1) := by decide +kernel
theorem dX11_paint_5 : decode cX11_paint 5 = .ok (.iconst 0, 1) := by decide +kernel
theorem dX11_paint_6 : decode cX11_paint 6 = .ok (.istore_n 2, 1) := by decide +kernel
theorem dX11_paint_7 : decode cX11_paint 7 = .ok (.iload_n 2, 1) := by decide +kernel
theorem dX11_paint_8 : decode cX11_paint 8 = .ok (.sipush 960, 3) := by decide +kernel
theorem dX11_paint_11 : decode cX11_paint 11 = .ok (.if_icmp .ge 45, 3) := by decide +kernel
theorem dX11_paint_14 : decode cX11_paint 14 = .ok (.aload_n 0, 1) := by decide +kernel
theorem dX11_paint_15 : decode cX11_paint 15 = .ok (.getfield 56, 3) := by decide +kernel
theorem dX11_paint_18 : decode cX11_paint 18 = .ok (.iload_n 2, 1) := by decide +kernel
theorem dX11_paint_19 : decode cX11_paint 19 = .ok (.aload_n 0, 1) := by decide +kernel
theorem dX11_paint_20 : decode cX11_paint 20 = .ok (.getfield 65, 3) := by decide +kernel
theorem dX11_paint_23 : decode cX11_paint 23 = .ok (.iload_n 2, 1) := by decide +kernel
theorem dX11_paint_24 : decode cX11_paint 24 = .ok (.iaload, 1) := by decide +kernel
theorem dX11_paint_25 : decode cX11_paint 25 = .ok (.iastore, 1) := by decide +kernel
theorem dX11_paint_26 : decode cX11_paint 26 = .ok (.aload_n 0, 1) := by decide +kernel
theorem dX11_paint_27 : decode cX11_paint 27 = .ok (.getfield 59, 3) := by decide +kernel
theorem dX11_paint_30 : decode cX11_paint 30 = .ok (.iload_n 2, 1) := by decide +kernel
theorem dX11_paint_31 : decode cX11_paint 31 = .ok (.aload_n 0, 1) := by decide +kernel
theorem dX11_paint_32 : decode cX11_paint 32 = .ok (.getfield 68, 3) := by decide +kernel
theorem dX11_paint_35 : decode cX11_paint 35 = .ok (.iload_n 2, 1) := by decide +kernel
theorem dX11_paint_36 : decode cX11_paint 36 = .ok (.iaload, 1) := by decide +kernel
theorem dX11_paint_37 : decode cX11_paint 37 = .ok (.iastore, 1) := by decide +kernel
theorem dX11_paint_38 : decode cX11_paint 38 = .ok (.aload_n 0, 1) := by decide +kernel
theorem dX11_paint_39 : decode cX11_paint 39 = .ok (.getfield 62, 3) := by decide +kernel
theorem dX11_paint_42 : decode cX11_paint 42 = .ok (.iload_n 2, 1) := by decide +kernel
theorem dX11_paint_43 : decode cX11_paint 43 = .ok (.aload_n 0, 1) := by decide +kernel
theorem dX11_paint_44 : decode cX11_paint 44 = .ok (.getfield 71, 3) := by decide +kernel
theorem dX11_paint_47 : decode cX11_paint 47 = .ok (.iload_n 2, 1) := by decide +kernel
theorem dX11_paint_48 : decode cX11_paint 48 = .ok (.iaload, 1) := by decide +kernel
theorem dX11_paint_49 : decode cX11_paint 49 = .ok (.iastore, 1) := by decide +kernel
theorem dX11_paint_50 : decode cX11_paint 50 = .ok (.iinc 2 1, 3) := by decide +kernel
theorem dX11_paint_53 : decode cX11_paint 53 = .ok (.goto (-46), 3) := by decide +kernel
theorem dX11_paint_56 : decode cX11_paint 56 = .ok (.aload_n 0, 1) := by decide +kernel
theorem dX11_paint_57 : decode cX11_paint 57 = .ok (.iload_n 1, 1) := by decide +kernel
theorem dX11_paint_58 : decode cX11_paint 58 = .ok (.invokevirtual 167, 3) := by decide +kernel
theorem dX11_paint_61 : decode cX11_paint 61 = .ok (.ireturn, 1) := by decide +kernel
def st_X11_paint_7 (F : Nat) (a8 : Int32) (rec : Int32 → GM → Option GM) (a9 : Int32) (M : GM) : Option GM := if (960 : Int32) ≤ a9 then (some M) else (grd (gIn a9 (gN 141)) (grd (gIn a9 (gN 138)) (bnd (sI M 138 a9.toNatClampNeg (gI M 141 a9.toNatClampNeg)) (fun M12 => grd (gIn a9 (gN 142)) (grd (gIn a9 (gN 139)) (bnd (sI M12 139 a9.toNatClampNeg (gI M12 142 a9.toNatClampNeg)) (fun M16 => grd (gIn a9 (gN 143)) (grd (gIn a9 (gN 140)) (bnd (sI M16 140 a9.toNatClampNeg (gI M16 143 a9.toNatClampNeg)) (fun M20 => bnd (a9 + (1 : Int32)) (fun v22 => rec v22 M20)))))))))))
def lp_X11_paint_7 (F : Nat) (a8 : Int32) : Nat → Int32 → GM → Option GM
  | 0 => fun _ _ => none
  | f + 1 => fun a9 M => st_X11_paint_7 F a8 (lp_X11_paint_7 F a8 f) a9 M
set_option maxHeartbeats 4000000 in
set_option maxRecDepth 100000 in
theorem lw_X11_paint_7 {x : GX} (X : GC x cX11_paint 3 RX11 6) {a8 : Int32}  {F : Nat} {r9 : GM} (hE : ∀  (M9 : GM), r9 = M9 → WG x M9 [(0, .ref (gad (xz x) 122)), (1, .int a8)] 56 []) : ∀ (f : Nat) (a9 : Int32) (M : GM), lp_X11_paint_7 F a8 f a9 M = some r9 → WG x M [(0, .ref (gad (xz x) 122)), (1, .int a8), (2, .int a9)] 7 [] := by
  intro f
  induction f with
  | zero => intro a9 M h; cases h
  | succ f ih =>
    intro a9 M h
    have hrec := ih
    have h : st_X11_paint_7 F a8 (lp_X11_paint_7 F a8 f) a9 M = some r9 := h
    generalize lp_X11_paint_7 F a8 f = rec at h hrec
    unfold st_X11_paint_7 at h
    refine g_iload_n X (j := 2) dX11_paint_7 rfl rfl ?_
    refine g_sipush X (v := 960) dX11_paint_8 (by decide) ?_
    refine g_icmp_ge X (tgt := 56) dX11_paint_11 (by decide) (fun hb => ?_) (fun hb => ?_)
    · have h := ite_t hb h
      refine g_lv [0, 1] rfl ?_
      exact hE M (Option.some.inj h).symm
    · have h := ite_f hb h
      refine g_aload_n X (j := 0) dX11_paint_14 rfl rfl ?_
      refine gf_X11_56 X gT_c122 dX11_paint_15 ?_
      refine g_iload_n X (j := 2) dX11_paint_18 rfl rfl ?_
      refine g_aload_n X (j := 0) dX11_paint_19 rfl rfl ?_
      refine gf_X11_65 X gT_c122 dX11_paint_20 ?_
      refine g_iload_n X (j := 2) dX11_paint_23 rfl rfl ?_
      obtain ⟨hg10, h⟩ := grd_e h
      refine g_iald X gT_c141 hg10 dX11_paint_24 ?_
      obtain ⟨hg11, h⟩ := grd_e h
      refine g_iast X gT_c138 hg11 dX11_paint_25 ?_
      refine g_mem (fun M12 e13 => ?_)
      have h := bnd_e e13 h
      refine g_aload_n X (j := 0) dX11_paint_26 rfl rfl ?_
      refine gf_X11_59 X gT_c122 dX11_paint_27 ?_
      refine g_iload_n X (j := 2) dX11_paint_30 rfl rfl ?_
      refine g_aload_n X (j := 0) dX11_paint_31 rfl rfl ?_
      refine gf_X11_68 X gT_c122 dX11_paint_32 ?_
      refine g_iload_n X (j := 2) dX11_paint_35 rfl rfl ?_
      obtain ⟨hg14, h⟩ := grd_e h
      refine g_iald X gT_c142 hg14 dX11_paint_36 ?_
      obtain ⟨hg15, h⟩ := grd_e h
      refine g_iast X gT_c139 hg15 dX11_paint_37 ?_
      refine g_mem (fun M16 e17 => ?_)
      have h := bnd_e e17 h
      refine g_aload_n X (j := 0) dX11_paint_38 rfl rfl ?_
      refine gf_X11_62 X gT_c122 dX11_paint_39 ?_
      refine g_iload_n X (j := 2) dX11_paint_42 rfl rfl ?_
      refine g_aload_n X (j := 0) dX11_paint_43 rfl rfl ?_
      refine gf_X11_71 X gT_c122 dX11_paint_44 ?_
      refine g_iload_n X (j := 2) dX11_paint_47 rfl rfl ?_
      obtain ⟨hg18, h⟩ := grd_e h
      refine g_iald X gT_c143 hg18 dX11_paint_48 ?_
      obtain ⟨hg19, h⟩ := grd_e h
      refine g_iast X gT_c140 hg19 dX11_paint_49 ?_
      refine g_mem (fun M20 e21 => ?_)
      have h := bnd_e e21 h
      refine g_iinc X (j := 2) (w := a9 + (1 : Int32)) (lv' := [(0, .ref (gad (xz x) 122)), (1, .int a8)]) dX11_paint_50 rfl (by rw [ii_1]) (by decide) (fun _ => rfl) (fun v22 e23 => ?_)
      have h := bnd_e e23 h
      refine g_goto X (tgt := 7) dX11_paint_53 (by decide) ?_
      refine g_lv [1, 2, 0] rfl ?_
      exact hrec v22 M20 h
def f_X11_paint (F : Nat) (M : GM) : Option (Int32 × GM) := bndO (f_X11_look F M) (fun (v2, M3) => bnd v2 (fun v4 => bnd (0 : Int32) (fun v6 => bndO (lp_X11_paint_7 F v4 F v6 M3) (fun M24 => bndO (f_X11_ok F v4 M24) (fun (v27, M28) => some (v27, M28))))))
set_option maxHeartbeats 4000000 in
set_option maxRecDepth 100000 in
theorem w_X11_paint {x : GX} (X : GC x cX11_paint 3 RX11 6)   {F : Nat} {M : GM} {r9 : (Int32 × GM)} (hR : ∀ (v9 : Int32) (M9 : GM) (lv9 : List (Nat × Value)) (pc9 : Nat), r9 = (v9, M9) → decode cX11_paint pc9 = .ok (.ireturn, 1) → WG x M9 lv9 pc9 [.int v9]) (h : f_X11_paint F M = some r9) : WG x M [(0, .ref (gad (xz x) 122))] 0 [] := by
  unfold f_X11_paint at h
  refine g_aload_n X (j := 0) dX11_paint_0 rfl rfl ?_
  obtain ⟨⟨v2, M3⟩, hc1, h⟩ := bndO_e h
  refine gc_X11_344 X gT_c122 (ct_X11_look X.htr  hc1) (by decide) (Nat.le_of_ble_eq_true rfl) dX11_paint_1 ?_
  refine g_topi (fun v4 e5 => ?_)
  have h := bnd_e e5 h
  refine g_istore_n X (lv' := [(1, .int v4), (0, .ref (gad (xz x) 122))]) dX11_paint_4 rfl (by decide) rfl ?_
  refine g_iconst X (v := 0) dX11_paint_5 (by decide) ?_
  refine g_topi (fun v6 e7 => ?_)
  have h := bnd_e e7 h
  refine g_istore_n X (lv' := [(2, .int v6), (1, .int v4), (0, .ref (gad (xz x) 122))]) dX11_paint_6 rfl (by decide) rfl ?_
  refine g_lv [2, 1, 0] rfl ?_
  obtain ⟨M24, hl25, h⟩ := bndO_e h
  refine lw_X11_paint_7 X  (fun M24_ e9 => ?_) F v6 M3 hl25
  cases e9
  refine g_aload_n X (j := 0) dX11_paint_56 rfl rfl ?_
  refine g_iload_n X (j := 1) dX11_paint_57 rfl rfl ?_
  obtain ⟨⟨v27, M28⟩, hc26, h⟩ := bndO_e h
  refine gc_X11_167 X gT_c122 (ct_X11_ok X.htr  hc26) (by decide) (Nat.le_of_ble_eq_true rfl) dX11_paint_58 ?_
  exact hR v27 M28 _ _ (Option.some.inj h).symm dX11_paint_61
theorem ct_X11_paint {l : Launch} {z : GZ} (htr : l.stackTraces = false)   {M : GM} {F : Nat} {v : Int32} {M1 : GM} (h : f_X11_paint F M = some (v, M1)) : gMet l z yX11_paint cX11_paint 3 (some .int) 6 [.ref (gad z 122)] M (some (.int v)) M1 := gMet_ofI (by decide +kernel) (Nat.le_of_ble_eq_true rfl) htr rfl (fun x X ez el hR => by subst ez; subst el; exact w_X11_paint X  (fun v9 M9 lv9 pc9 e9 d9 => by cases e9; exact hR lv9 pc9 d9) h)
theorem dX11_stale_0 : decode cX11_stale 0 = .ok (.aload_n 0, 1) := by decide +kernel
theorem dX11_stale_1 : decode cX11_stale 1 = .ok (.aload_n 0, 1) := by decide +kernel
theorem dX11_stale_2 : decode cX11_stale 2 = .ok (.invokevirtual 344, 3) := by decide +kernel
theorem dX11_stale_5 : decode cX11_stale 5 = .ok (.invokevirtual 167, 3) := by decide +kernel
theorem dX11_stale_8 : decode cX11_stale 8 = .ok (.ireturn, 1) := by decide +kernel
def f_X11_stale (F : Nat) (M : GM) : Option (Int32 × GM) := bndO (f_X11_look F M) (fun (v2, M3) => bndO (f_X11_ok F v2 M3) (fun (v5, M6) => some (v5, M6)))
set_option maxHeartbeats 4000000 in
set_option maxRecDepth 100000 in
theorem w_X11_stale {x : GX} (X : GC x cX11_stale 1 RX11 6)   {F : Nat} {M : GM} {r9 : (Int32 × GM)} (hR : ∀ (v9 : Int32) (M9 : GM) (lv9 : List (Nat × Value)) (pc9 : Nat), r9 = (v9, M9) → decode cX11_stale pc9 = .ok (.ireturn, 1) → WG x M9 lv9 pc9 [.int v9]) (h : f_X11_stale F M = some r9) : WG x M [(0, .ref (gad (xz x) 122))] 0 [] := by
  unfold f_X11_stale at h
  refine g_aload_n X (j := 0) dX11_stale_0 rfl rfl ?_
  refine g_aload_n X (j := 0) dX11_stale_1 rfl rfl ?_
  obtain ⟨⟨v2, M3⟩, hc1, h⟩ := bndO_e h
  refine gc_X11_344 X gT_c122 (ct_X11_look X.htr  hc1) (by decide) (Nat.le_of_ble_eq_true rfl) dX11_stale_2 ?_
  obtain ⟨⟨v5, M6⟩, hc4, h⟩ := bndO_e h
  refine gc_X11_167 X gT_c122 (ct_X11_ok X.htr  hc4) (by decide) (Nat.le_of_ble_eq_true rfl) dX11_stale_5 ?_
  exact hR v5 M6 _ _ (Option.some.inj h).symm dX11_stale_8
theorem ct_X11_stale {l : Launch} {z : GZ} (htr : l.stackTraces = false)   {M : GM} {F : Nat} {v : Int32} {M1 : GM} (h : f_X11_stale F M = some (v, M1)) : gMet l z yX11_stale cX11_stale 1 (some .int) 6 [.ref (gad z 122)] M (some (.int v)) M1 := gMet_ofI (by decide +kernel) (Nat.le_of_ble_eq_true rfl) htr rfl (fun x X ez el hR => by subst ez; subst el; exact w_X11_stale X  (fun v9 M9 lv9 pc9 e9 d9 => by cases e9; exact hR lv9 pc9 d9) h)
theorem dX11_isStale_0 : decode cX11_isStale 0 = .ok (.aload_n 0, 1) := by decide +kernel
theorem dX11_isStale_1 : decode cX11_isStale 1 = .ok (.iconst 0, 1) := by decide +kernel
theorem dX11_isStale_2 : decode cX11_isStale 2 = .ok (.putfield 114, 3) := by decide +kernel
theorem dX11_isStale_5 : decode cX11_isStale 5 = .ok (.iload_n 1, 1) := by decide +kernel
theorem dX11_isStale_6 : decode cX11_isStale 6 = .ok (.iconst 0, 1) := by decide +kernel
theorem dX11_isStale_7 : decode cX11_isStale 7 = .ok (.bipush 14, 2) := by decide +kernel
theorem dX11_isStale_9 : decode cX11_isStale 9 = .ok (.invokestatic 118, 3) := by decide +kernel
theorem dX11_isStale_12 : decode cX11_isStale 12 = .ok (.ifCond .ne 9, 3) := by decide +kernel
theorem dX11_isStale_15 : decode cX11_isStale 15 = .ok (.aload_n 0, 1) := by decide +kernel
theorem dX11_isStale_16 : decode cX11_isStale 16 = .ok (.iconst 1, 1) := by decide +kernel
theorem dX11_isStale_17 : decode cX11_isStale 17 = .ok (.invokevirtual 153, 3) := by decide +kernel
theorem dX11_isStale_20 : decode cX11_isStale 20 = .ok (.ireturn, 1) := by decide +kernel
theorem dX11_isStale_21 : decode cX11_isStale 21 = .ok (.aload_n 0, 1) := by decide +kernel
theorem dX11_isStale_22 : decode cX11_isStale 22 = .ok (.invokevirtual 344, 3) := by decide +kernel
theorem dX11_isStale_25 : decode cX11_isStale 25 = .ok (.pop, 1) := by decide +kernel
theorem dX11_isStale_26 : decode cX11_isStale 26 = .ok (.aload_n 0, 1) := by decide +kernel
theorem dX11_isStale_27 : decode cX11_isStale 27 = .ok (.getfield 105, 3) := by decide +kernel
theorem dX11_isStale_30 : decode cX11_isStale 30 = .ok (.iload_n 1, 1) := by decide +kernel
theorem dX11_isStale_31 : decode cX11_isStale 31 = .ok (.baload, 1) := by decide +kernel
theorem dX11_isStale_32 : decode cX11_isStale 32 = .ok (.ireturn, 1) := by decide +kernel
def f_X11_isStale (F : Nat) (i0 : Int32) (M : GM) : Option (Int32 × GM) := bnd (sI M 122 0 (0 : Int32)) (fun M1 => if (f_X11_isIn i0 (0 : Int32) (14 : Int32)) = 0 then (bndO (f_X11_isNot F (1 : Int32) M1) (fun (v9, M10) => grd (gTf v9) (some (v9, M10)))) else (bndO (f_X11_look F M1) (fun (v4, M5) => grd (gIn i0 (gN 160)) (grd (gTf (gI M5 160 i0.toNatClampNeg)) (some ((gI M5 160 i0.toNatClampNeg), M5))))))
set_option maxHeartbeats 4000000 in
set_option maxRecDepth 100000 in
theorem w_X11_isStale {x : GX} (X : GC x cX11_isStale 2 RX11 6) {i0 : Int32}  {F : Nat} {M : GM} {r9 : (Int32 × GM)} (hR : ∀ (v9 : Int32) (M9 : GM) (lv9 : List (Nat × Value)) (pc9 : Nat), r9 = (v9, M9) → (v9 = 0 ∨ v9 = 1) → decode cX11_isStale pc9 = .ok (.ireturn, 1) → WG x M9 lv9 pc9 [.int v9]) (h : f_X11_isStale F i0 M = some r9) : WG x M [(0, .ref (gad (xz x) 122)), (1, .int i0)] 0 [] := by
  unfold f_X11_isStale at h
  refine g_aload_n X (j := 0) dX11_isStale_0 rfl rfl ?_
  refine g_iconst X (v := 0) dX11_isStale_1 (by decide) ?_
  refine gp_X11_114 X gT_c122 dX11_isStale_2 ?_
  refine g_mem (fun M1 e2 => ?_)
  have h := bnd_e e2 h
  refine g_iload_n X (j := 1) dX11_isStale_5 rfl rfl ?_
  refine g_iconst X (v := 0) dX11_isStale_6 (by decide) ?_
  refine g_bipush X (v := 14) dX11_isStale_7 (by decide) ?_
  refine gc_X11_118 X (ct_X11_isIn X.htr ) (by decide) (Nat.le_of_ble_eq_true rfl) dX11_isStale_9 ?_
  refine g_if_ne X (tgt := 21) dX11_isStale_12 (by decide) (fun hb => ?_) (fun hb => ?_)
  · have h := ite_f hb h
    refine g_aload_n X (j := 0) dX11_isStale_21 rfl rfl ?_
    obtain ⟨⟨v4, M5⟩, hc3, h⟩ := bndO_e h
    refine gc_X11_344 X gT_c122 (ct_X11_look X.htr  hc3) (by decide) (Nat.le_of_ble_eq_true rfl) dX11_isStale_22 ?_
    refine g_pop X dX11_isStale_25 rfl ?_
    refine g_aload_n X (j := 0) dX11_isStale_26 rfl rfl ?_
    refine gf_X11_105 X gT_c122 dX11_isStale_27 ?_
    refine g_iload_n X (j := 1) dX11_isStale_30 rfl rfl ?_
    obtain ⟨hg6, h⟩ := grd_e h
    refine g_zald X gT_c160 hg6 dX11_isStale_31 ?_
    obtain ⟨hg7, h⟩ := grd_e h
    exact hR (gI M5 160 i0.toNatClampNeg) M5 _ _ (Option.some.inj h).symm (gTf_of hg7) dX11_isStale_32
  · have h := ite_t hb h
    refine g_aload_n X (j := 0) dX11_isStale_15 rfl rfl ?_
    refine g_iconst X (v := 1) dX11_isStale_16 (by decide) ?_
    obtain ⟨⟨v9, M10⟩, hc8, h⟩ := bndO_e h
    refine gc_X11_153 X gT_c122 (ct_X11_isNot X.htr  hc8) (by decide) (Nat.le_of_ble_eq_true rfl) dX11_isStale_17 ?_
    obtain ⟨hg11, h⟩ := grd_e h
    exact hR v9 M10 _ _ (Option.some.inj h).symm (gTf_of hg11) dX11_isStale_20
theorem ct_X11_isStale {l : Launch} {z : GZ} (htr : l.stackTraces = false) {i0 : Int32}  {M : GM} {F : Nat} {v : Int32} {M1 : GM} (h : f_X11_isStale F i0 M = some (v, M1)) : gMet l z yX11_isStale cX11_isStale 2 (some .boolean) 6 [.ref (gad z 122), .int i0] M (some (.int v)) M1 := gMet_ofZ (by decide +kernel) (Nat.le_of_ble_eq_true rfl) htr (fun x X ez el hR => by subst ez; subst el; exact w_X11_isStale X  (fun v9 M9 lv9 pc9 e9 z9 d9 => by cases e9; exact hR lv9 pc9 z9 d9) h)
theorem dX11_inPicture_0 : decode cX11_inPicture 0 = .ok (.aload_n 0, 1) := by decide +kernel
theorem dX11_inPicture_1 : decode cX11_inPicture 1 = .ok (.iconst 0, 1) := by decide +kernel
theorem dX11_inPicture_2 : decode cX11_inPicture 2 = .ok (.putfield 114, 3) := by decide +kernel
theorem dX11_inPicture_5 : decode cX11_inPicture 5 = .ok (.iload_n 1, 1) := by decide +kernel
theorem dX11_inPicture_6 : decode cX11_inPicture 6 = .ok (.iload_n 2, 1) := by decide +kernel
theorem dX11_inPicture_7 : decode cX11_inPicture 7 = .ok (.invokestatic 332, 3) := by decide +kernel
theorem dX11_inPicture_10 : decode cX11_inPicture 10 = .ok (.ifCond .eq 14, 3) := by decide +kernel
theorem dX11_inPicture_13 : decode cX11_inPicture 13 = .ok (.aload_n 3, 1) := by decide +kernel
theorem dX11_inPicture_14 : decode cX11_inPicture 14 = .ok (.iload_n 2, 1) := by decide +kernel
theorem dX11_inPicture_15 : decode cX11_inPicture 15 = .ok (.bipush 40, 2) := by decide +kernel
theorem dX11_inPicture_17 : decode cX11_inPicture 17 = .ok (.imul, 1) := by decide +kernel
theorem dX11_inPicture_18 : decode cX11_inPicture 18 = .ok (.iload_n 1, 1) := by decide +kernel
theorem dX11_inPicture_19 : decode cX11_inPicture 19 = .ok (.iadd, 1) := by decide +kernel
theorem dX11_inPicture_20 : decode cX11_inPicture 20 = .ok (.iaload, 1) := by decide +kernel
theorem dX11_inPicture_21 : decode cX11_inPicture 21 = .ok (.goto 8, 3) := by decide +kernel
theorem dX11_inPicture_24 : decode cX11_inPicture 24 = .ok (.aload_n 0, 1) := by decide +kernel
theorem dX11_inPicture_25 : decode cX11_inPicture 25 = .ok (.iconst 1, 1) := by decide +kernel
theorem dX11_inPicture_26 : decode cX11_inPicture 26 = .ok (.invokevirtual 139, 3) := by decide +kernel
theorem dX11_inPicture_29 : decode cX11_inPicture 29 = .ok (.ireturn, 1) := by decide +kernel
def f_X11_inPicture (F : Nat) (i0 : Int32) (i1 : Int32) (p2 : Nat) (M : GM) : Option (Int32 × GM) := bnd (sI M 122 0 (0 : Int32)) (fun M1 => if (f_X11_isPoint i0 i1) = 0 then (bndO (f_X11_no F (1 : Int32) M1) (fun (v4, M5) => some (v4, M5))) else (grd (gIn ((i1 * (40 : Int32)) + i0) (gN p2)) (some ((gI M1 p2 (((i1 * (40 : Int32)) + i0).toNatClampNeg)), M1))))
set_option maxHeartbeats 4000000 in
set_option maxRecDepth 100000 in
theorem w_X11_inPicture {x : GX} (X : GC x cX11_inPicture 4 RX11 2) {i0 : Int32} {i1 : Int32} {p2 : Nat} (h3 : gT p2 = 20) {F : Nat} {M : GM} {r9 : (Int32 × GM)} (hR : ∀ (v9 : Int32) (M9 : GM) (lv9 : List (Nat × Value)) (pc9 : Nat), r9 = (v9, M9) → decode cX11_inPicture pc9 = .ok (.ireturn, 1) → WG x M9 lv9 pc9 [.int v9]) (h : f_X11_inPicture F i0 i1 p2 M = some r9) : WG x M [(0, .ref (gad (xz x) 122)), (1, .int i0), (2, .int i1), (3, .ref (gad (xz x) p2))] 0 [] := by
  unfold f_X11_inPicture at h
  refine g_aload_n X (j := 0) dX11_inPicture_0 rfl rfl ?_
  refine g_iconst X (v := 0) dX11_inPicture_1 (by decide) ?_
  refine gp_X11_114 X gT_c122 dX11_inPicture_2 ?_
  refine g_mem (fun M1 e2 => ?_)
  have h := bnd_e e2 h
  refine g_iload_n X (j := 1) dX11_inPicture_5 rfl rfl ?_
  refine g_iload_n X (j := 2) dX11_inPicture_6 rfl rfl ?_
  refine gc_X11_332 X (ct_X11_isPoint X.htr ) (by decide) (Nat.le_of_ble_eq_true rfl) dX11_inPicture_7 ?_
  refine g_if_eq X (tgt := 24) dX11_inPicture_10 (by decide) (fun hb => ?_) (fun hb => ?_)
  · have h := ite_t hb h
    refine g_aload_n X (j := 0) dX11_inPicture_24 rfl rfl ?_
    refine g_iconst X (v := 1) dX11_inPicture_25 (by decide) ?_
    obtain ⟨⟨v4, M5⟩, hc3, h⟩ := bndO_e h
    refine gc_X11_139 X gT_c122 (ct_X11_no X.htr  hc3) (by decide) (Nat.le_of_ble_eq_true rfl) dX11_inPicture_26 ?_
    exact hR v4 M5 _ _ (Option.some.inj h).symm dX11_inPicture_29
  · have h := ite_f hb h
    refine g_aload_n X (j := 3) dX11_inPicture_13 rfl rfl ?_
    refine g_iload_n X (j := 2) dX11_inPicture_14 rfl rfl ?_
    refine g_bipush X (v := 40) dX11_inPicture_15 (by decide) ?_
    refine g_imul X dX11_inPicture_17 ?_
    refine g_iload_n X (j := 1) dX11_inPicture_18 rfl rfl ?_
    refine g_iadd X dX11_inPicture_19 ?_
    obtain ⟨hg6, h⟩ := grd_e h
    refine g_iald X h3 hg6 dX11_inPicture_20 ?_
    refine g_goto X (tgt := 29) dX11_inPicture_21 (by decide) ?_
    exact hR (gI M1 p2 (((i1 * (40 : Int32)) + i0).toNatClampNeg)) M1 _ _ (Option.some.inj h).symm dX11_inPicture_29
theorem ct_X11_inPicture {l : Launch} {z : GZ} (htr : l.stackTraces = false) {i0 : Int32} {i1 : Int32} {p2 : Nat} (h3 : gT p2 = 20) {M : GM} {F : Nat} {v : Int32} {M1 : GM} (h : f_X11_inPicture F i0 i1 p2 M = some (v, M1)) : gMet l z yX11_inPicture cX11_inPicture 4 (some .int) 2 [.ref (gad z 122), .int i0, .int i1, .ref (gad z p2)] M (some (.int v)) M1 := gMet_ofI (by decide +kernel) (Nat.le_of_ble_eq_true rfl) htr rfl (fun x X ez el hR => by subst ez; subst el; exact w_X11_inPicture X h3 (fun v9 M9 lv9 pc9 e9 d9 => by cases e9; exact hR lv9 pc9 d9) h)
theorem gc_X11_347 {x : GX} {cc : ByteArray} {nL d pc : Nat} {M : GM} {lv : List (Nat × Value)} {st : List Value} (X : GC x cc nL RX11 d) {i0 : Int32} {i1 : Int32} {i2 : Nat} {M1 : GM} {r : Int32} (ht : gT 122 = 11) (hM : gMet (xl x) (xz x) yX11_inPicture cX11_inPicture 4 (some .int) 2 [.ref (gad (xz x) 122), .int i0, .int i1, .ref (gad (xz x) i2)] M (some (.int r)) M1) (hd : 3 ≤ d) (hsum : (st.map fun v => v.category).sum ≤ 8) (dec : decode cc pc = .ok (.invokevirtual 347, 3)) (go : WG x M1 lv (pc + 3) (.int r :: st)) : WG x M lv pc (.ref (gad (xz x) i2) :: .int i1 :: .int i0 :: .ref (gad (xz x) 122) :: st) := g_callV X (n := 3) (As := [.int i0, .int i1, .ref (gad (xz x) i2)]) (rest := st) hM ht (by decide) (gE_11 ht) rfl q_1495 q_1497 q_49 q_63 q_1498 (by decide +kernel) rfl hd (by decide) rfl hsum dec go
theorem dX11_colourAt_0 : decode cX11_colourAt 0 = .ok (.aload_n 0, 1) := by decide +kernel
theorem dX11_colourAt_1 : decode cX11_colourAt 1 = .ok (.iload_n 1, 1) := by decide +kernel
theorem dX11_colourAt_2 : decode cX11_colourAt 2 = .ok (.iload_n 2, 1) := by decide +kernel
theorem dX11_colourAt_3 : decode cX11_colourAt 3 = .ok (.aload_n 0, 1) := by decide +kernel
theorem dX11_colourAt_4 : decode cX11_colourAt 4 = .ok (.getfield 56, 3) := by decide +kernel
theorem dX11_colourAt_7 : decode cX11_colourAt 7 = .ok (.invokevirtual 347, 3) := by decide +kernel
theorem dX11_colourAt_10 : decode cX11_colourAt 10 = .ok (.ireturn, 1) := by decide +kernel
def f_X11_colourAt (F : Nat) (i0 : Int32) (i1 : Int32) (M : GM) : Option (Int32 × GM) := bndO (f_X11_inPicture F i0 i1 138 M) (fun (v2, M3) => some (v2, M3))
set_option maxHeartbeats 4000000 in
set_option maxRecDepth 100000 in
theorem w_X11_colourAt {x : GX} (X : GC x cX11_colourAt 3 RX11 3) {i0 : Int32} {i1 : Int32}  {F : Nat} {M : GM} {r9 : (Int32 × GM)} (hR : ∀ (v9 : Int32) (M9 : GM) (lv9 : List (Nat × Value)) (pc9 : Nat), r9 = (v9, M9) → decode cX11_colourAt pc9 = .ok (.ireturn, 1) → WG x M9 lv9 pc9 [.int v9]) (h : f_X11_colourAt F i0 i1 M = some r9) : WG x M [(0, .ref (gad (xz x) 122)), (1, .int i0), (2, .int i1)] 0 [] := by
  unfold f_X11_colourAt at h
  refine g_aload_n X (j := 0) dX11_colourAt_0 rfl rfl ?_
  refine g_iload_n X (j := 1) dX11_colourAt_1 rfl rfl ?_
  refine g_iload_n X (j := 2) dX11_colourAt_2 rfl rfl ?_
  refine g_aload_n X (j := 0) dX11_colourAt_3 rfl rfl ?_
  refine gf_X11_56 X gT_c122 dX11_colourAt_4 ?_
  obtain ⟨⟨v2, M3⟩, hc1, h⟩ := bndO_e h
  refine gc_X11_347 X gT_c122 (ct_X11_inPicture X.htr gT_c138 hc1) (by decide) (Nat.le_of_ble_eq_true rfl) dX11_colourAt_7 ?_
  exact hR v2 M3 _ _ (Option.some.inj h).symm dX11_colourAt_10
theorem ct_X11_colourAt {l : Launch} {z : GZ} (htr : l.stackTraces = false) {i0 : Int32} {i1 : Int32}  {M : GM} {F : Nat} {v : Int32} {M1 : GM} (h : f_X11_colourAt F i0 i1 M = some (v, M1)) : gMet l z yX11_colourAt cX11_colourAt 3 (some .int) 3 [.ref (gad z 122), .int i0, .int i1] M (some (.int v)) M1 := gMet_ofI (by decide +kernel) (Nat.le_of_ble_eq_true rfl) htr rfl (fun x X ez el hR => by subst ez; subst el; exact w_X11_colourAt X  (fun v9 M9 lv9 pc9 e9 d9 => by cases e9; exact hR lv9 pc9 d9) h)
theorem dX11_depthAt__0 : decode cX11_depthAt_ 0 = .ok (.aload_n 0, 1) := by decide +kernel
theorem dX11_depthAt__1 : decode cX11_depthAt_ 1 = .ok (.iload_n 1, 1) := by decide +kernel
theorem dX11_depthAt__2 : decode cX11_depthAt_ 2 = .ok (.iload_n 2, 1) := by decide +kernel
theorem dX11_depthAt__3 : decode cX11_depthAt_ 3 = .ok (.aload_n 0, 1) := by decide +kernel
theorem dX11_depthAt__4 : decode cX11_depthAt_ 4 = .ok (.getfield 59, 3) := by decide +kernel
theorem dX11_depthAt__7 : decode cX11_depthAt_ 7 = .ok (.invokevirtual 347, 3) := by decide +kernel
theorem dX11_depthAt__10 : decode cX11_depthAt_ 10 = .ok (.ireturn, 1) := by decide +kernel
def f_X11_depthAt_ (F : Nat) (i0 : Int32) (i1 : Int32) (M : GM) : Option (Int32 × GM) := bndO (f_X11_inPicture F i0 i1 139 M) (fun (v2, M3) => some (v2, M3))
set_option maxHeartbeats 4000000 in
set_option maxRecDepth 100000 in
theorem w_X11_depthAt_ {x : GX} (X : GC x cX11_depthAt_ 3 RX11 3) {i0 : Int32} {i1 : Int32}  {F : Nat} {M : GM} {r9 : (Int32 × GM)} (hR : ∀ (v9 : Int32) (M9 : GM) (lv9 : List (Nat × Value)) (pc9 : Nat), r9 = (v9, M9) → decode cX11_depthAt_ pc9 = .ok (.ireturn, 1) → WG x M9 lv9 pc9 [.int v9]) (h : f_X11_depthAt_ F i0 i1 M = some r9) : WG x M [(0, .ref (gad (xz x) 122)), (1, .int i0), (2, .int i1)] 0 [] := by
  unfold f_X11_depthAt_ at h
  refine g_aload_n X (j := 0) dX11_depthAt__0 rfl rfl ?_
  refine g_iload_n X (j := 1) dX11_depthAt__1 rfl rfl ?_
  refine g_iload_n X (j := 2) dX11_depthAt__2 rfl rfl ?_
  refine g_aload_n X (j := 0) dX11_depthAt__3 rfl rfl ?_
  refine gf_X11_59 X gT_c122 dX11_depthAt__4 ?_
  obtain ⟨⟨v2, M3⟩, hc1, h⟩ := bndO_e h
  refine gc_X11_347 X gT_c122 (ct_X11_inPicture X.htr gT_c139 hc1) (by decide) (Nat.le_of_ble_eq_true rfl) dX11_depthAt__7 ?_
  exact hR v2 M3 _ _ (Option.some.inj h).symm dX11_depthAt__10
theorem ct_X11_depthAt_ {l : Launch} {z : GZ} (htr : l.stackTraces = false) {i0 : Int32} {i1 : Int32}  {M : GM} {F : Nat} {v : Int32} {M1 : GM} (h : f_X11_depthAt_ F i0 i1 M = some (v, M1)) : gMet l z yX11_depthAt_ cX11_depthAt_ 3 (some .int) 3 [.ref (gad z 122), .int i0, .int i1] M (some (.int v)) M1 := gMet_ofI (by decide +kernel) (Nat.le_of_ble_eq_true rfl) htr rfl (fun x X ez el hR => by subst ez; subst el; exact w_X11_depthAt_ X  (fun v9 M9 lv9 pc9 e9 d9 => by cases e9; exact hR lv9 pc9 d9) h)
theorem dX11_paneAt_0 : decode cX11_paneAt 0 = .ok (.aload_n 0, 1) := by decide +kernel
theorem dX11_paneAt_1 : decode cX11_paneAt 1 = .ok (.iload_n 1, 1) := by decide +kernel
theorem dX11_paneAt_2 : decode cX11_paneAt 2 = .ok (.iload_n 2, 1) := by decide +kernel
theorem dX11_paneAt_3 : decode cX11_paneAt 3 = .ok (.aload_n 0, 1) := by decide +kernel
theorem dX11_paneAt_4 : decode cX11_paneAt 4 = .ok (.getfield 62, 3) := by decide +kernel
theorem dX11_paneAt_7 : decode cX11_paneAt 7 = .ok (.invokevirtual 347, 3) := by decide +kernel
theorem dX11_paneAt_10 : decode cX11_paneAt 10 = .ok (.ireturn, 1) := by decide +kernel
def f_X11_paneAt (F : Nat) (i0 : Int32) (i1 : Int32) (M : GM) : Option (Int32 × GM) := bndO (f_X11_inPicture F i0 i1 140 M) (fun (v2, M3) => some (v2, M3))
set_option maxHeartbeats 4000000 in
set_option maxRecDepth 100000 in
theorem w_X11_paneAt {x : GX} (X : GC x cX11_paneAt 3 RX11 3) {i0 : Int32} {i1 : Int32}  {F : Nat} {M : GM} {r9 : (Int32 × GM)} (hR : ∀ (v9 : Int32) (M9 : GM) (lv9 : List (Nat × Value)) (pc9 : Nat), r9 = (v9, M9) → decode cX11_paneAt pc9 = .ok (.ireturn, 1) → WG x M9 lv9 pc9 [.int v9]) (h : f_X11_paneAt F i0 i1 M = some r9) : WG x M [(0, .ref (gad (xz x) 122)), (1, .int i0), (2, .int i1)] 0 [] := by
  unfold f_X11_paneAt at h
  refine g_aload_n X (j := 0) dX11_paneAt_0 rfl rfl ?_
  refine g_iload_n X (j := 1) dX11_paneAt_1 rfl rfl ?_
  refine g_iload_n X (j := 2) dX11_paneAt_2 rfl rfl ?_
  refine g_aload_n X (j := 0) dX11_paneAt_3 rfl rfl ?_
  refine gf_X11_62 X gT_c122 dX11_paneAt_4 ?_
  obtain ⟨⟨v2, M3⟩, hc1, h⟩ := bndO_e h
  refine gc_X11_347 X gT_c122 (ct_X11_inPicture X.htr gT_c140 hc1) (by decide) (Nat.le_of_ble_eq_true rfl) dX11_paneAt_7 ?_
  exact hR v2 M3 _ _ (Option.some.inj h).symm dX11_paneAt_10
theorem ct_X11_paneAt {l : Launch} {z : GZ} (htr : l.stackTraces = false) {i0 : Int32} {i1 : Int32}  {M : GM} {F : Nat} {v : Int32} {M1 : GM} (h : f_X11_paneAt F i0 i1 M = some (v, M1)) : gMet l z yX11_paneAt cX11_paneAt 3 (some .int) 3 [.ref (gad z 122), .int i0, .int i1] M (some (.int v)) M1 := gMet_ofI (by decide +kernel) (Nat.le_of_ble_eq_true rfl) htr rfl (fun x X ez el hR => by subst ez; subst el; exact w_X11_paneAt X  (fun v9 M9 lv9 pc9 e9 d9 => by cases e9; exact hR lv9 pc9 d9) h)
theorem dX11_count_0 : decode cX11_count 0 = .ok (.iconst 0, 1) := by decide +kernel
theorem dX11_count_1 : decode cX11_count 1 = .ok (.istore_n 2, 1) := by decide +kernel
theorem dX11_count_2 : decode cX11_count 2 = .ok (.iconst 0, 1) := by decide +kernel
theorem dX11_count_3 : decode cX11_count 3 = .ok (.istore_n 3, 1) := by decide +kernel
theorem dX11_count_4 : decode cX11_count 4 = .ok (.iload_n 3, 1) := by decide +kernel
theorem dX11_count_5 : decode cX11_count 5 = .ok (.sipush 960, 3) := by decide +kernel
theorem dX11_count_8 : decode cX11_count 8 = .ok (.if_icmp .ge 24, 3) := by decide +kernel
theorem dX11_count_11 : decode cX11_count 11 = .ok (.iload_n 2, 1) := by decide +kernel
theorem dX11_count_12 : decode cX11_count 12 = .ok (.aload_n 0, 1) := by decide +kernel
theorem dX11_count_13 : decode cX11_count 13 = .ok (.iload_n 3, 1) := by decide +kernel
theorem dX11_count_14 : decode cX11_count 14 = .ok (.iaload, 1) := by decide +kernel
theorem dX11_count_15 : decode cX11_count 15 = .ok (.iload_n 1, 1) := by decide +kernel
theorem dX11_count_16 : decode cX11_count 16 = .ok (.if_icmp .ne 7, 3) := by decide +kernel
theorem dX11_count_19 : decode cX11_count 19 = .ok (.iconst 1, 1) := by decide +kernel
theorem dX11_count_20 : decode cX11_count 20 = .ok (.goto 4, 3) := by decide +kernel
theorem dX11_count_23 : decode cX11_count 23 = .ok (.iconst 0, 1) := by decide +kernel
theorem dX11_count_24 : decode cX11_count 24 = .ok (.iadd, 1) := by decide +kernel
theorem dX11_count_25 : decode cX11_count 25 = .ok (.istore_n 2, 1) := by decide +kernel
theorem dX11_count_26 : decode cX11_count 26 = .ok (.iinc 3 1, 3) := by decide +kernel
theorem dX11_count_29 : decode cX11_count 29 = .ok (.goto (-25), 3) := by decide +kernel
theorem dX11_count_32 : decode cX11_count 32 = .ok (.iload_n 2, 1) := by decide +kernel
theorem dX11_count_33 : decode cX11_count 33 = .ok (.ireturn, 1) := by decide +kernel
def st_X11_count_4 (F : Nat) (p5 : Nat) (a7 : Int32) (rec : Int32 → Int32 → Option Int32) (a8 : Int32) (a9 : Int32) (M : GM) : Option Int32 := if (960 : Int32) ≤ a9 then (some a8) else (grd (gIn a9 (gN p5)) (if (gI M p5 a9.toNatClampNeg) = a7 then (bnd (a8 + (1 : Int32)) (fun v15 => bnd (a9 + (1 : Int32)) (fun v17 => rec v15 v17))) else (bnd (a8 + (0 : Int32)) (fun v11 => bnd (a9 + (1 : Int32)) (fun v13 => rec v11 v13)))))
def lp_X11_count_4 (F : Nat) (p5 : Nat) (a7 : Int32) (M : GM) : Nat → Int32 → Int32 → Option Int32
  | 0 => fun _ _ => none
  | f + 1 => fun a8 a9 => st_X11_count_4 F p5 a7 (lp_X11_count_4 F p5 a7 M f) a8 a9 M
set_option maxHeartbeats 4000000 in
set_option maxRecDepth 100000 in
theorem lw_X11_count_4 {x : GX} (X : GC x cX11_count 4 RX11 0) {p5 : Nat} {a7 : Int32} (k6 : gT p5 = 20) {F : Nat} {M : GM} {r9 : Int32} (hE : ∀ (x2_9 : Int32), r9 = x2_9 → WG x M [(2, .int x2_9)] 32 []) : ∀ (f : Nat) (a8 : Int32) (a9 : Int32), lp_X11_count_4 F p5 a7 M f a8 a9 = some r9 → WG x M [(0, .ref (gad (xz x) p5)), (1, .int a7), (2, .int a8), (3, .int a9)] 4 [] := by
  intro f
  induction f with
  | zero => intro a8 a9 h; cases h
  | succ f ih =>
    intro a8 a9 h
    have hrec := ih
    have h : st_X11_count_4 F p5 a7 (lp_X11_count_4 F p5 a7 M f) a8 a9 M = some r9 := h
    generalize lp_X11_count_4 F p5 a7 M f = rec at h hrec
    unfold st_X11_count_4 at h
    refine g_iload_n X (j := 3) dX11_count_4 rfl rfl ?_
    refine g_sipush X (v := 960) dX11_count_5 (by decide) ?_
    refine g_icmp_ge X (tgt := 32) dX11_count_8 (by decide) (fun hb => ?_) (fun hb => ?_)
    · have h := ite_t hb h
      refine g_lv [2] rfl ?_
      exact hE a8 (Option.some.inj h).symm
    · have h := ite_f hb h
      refine g_iload_n X (j := 2) dX11_count_11 rfl rfl ?_
      refine g_aload_n X (j := 0) dX11_count_12 rfl rfl ?_
      refine g_iload_n X (j := 3) dX11_count_13 rfl rfl ?_
      obtain ⟨hg10, h⟩ := grd_e h
      refine g_iald X k6 hg10 dX11_count_14 ?_
      refine g_iload_n X (j := 1) dX11_count_15 rfl rfl ?_
      refine g_icmp_ne X (tgt := 23) dX11_count_16 (by decide) (fun hb => ?_) (fun hb => ?_)
      · have h := ite_f hb h
        refine g_iconst X (v := 0) dX11_count_23 (by decide) ?_
        refine g_iadd X dX11_count_24 ?_
        refine g_topi (fun v11 e12 => ?_)
        have h := bnd_e e12 h
        refine g_istore_n X (lv' := [(2, .int v11), (0, .ref (gad (xz x) p5)), (1, .int a7), (3, .int a9)]) dX11_count_25 rfl (by decide) rfl ?_
        refine g_iinc X (j := 3) (w := a9 + (1 : Int32)) (lv' := [(2, .int v11), (0, .ref (gad (xz x) p5)), (1, .int a7)]) dX11_count_26 rfl (by rw [ii_1]) (by decide) (fun _ => rfl) (fun v13 e14 => ?_)
        have h := bnd_e e14 h
        refine g_goto X (tgt := 4) dX11_count_29 (by decide) ?_
        refine g_lv [2, 3, 1, 0] rfl ?_
        exact hrec v11 v13 h
      · have h := ite_t hb h
        refine g_iconst X (v := 1) dX11_count_19 (by decide) ?_
        refine g_goto X (tgt := 24) dX11_count_20 (by decide) ?_
        refine g_iadd X dX11_count_24 ?_
        refine g_topi (fun v15 e16 => ?_)
        have h := bnd_e e16 h
        refine g_istore_n X (lv' := [(2, .int v15), (0, .ref (gad (xz x) p5)), (1, .int a7), (3, .int a9)]) dX11_count_25 rfl (by decide) rfl ?_
        refine g_iinc X (j := 3) (w := a9 + (1 : Int32)) (lv' := [(2, .int v15), (0, .ref (gad (xz x) p5)), (1, .int a7)]) dX11_count_26 rfl (by rw [ii_1]) (by decide) (fun _ => rfl) (fun v17 e18 => ?_)
        have h := bnd_e e18 h
        refine g_goto X (tgt := 4) dX11_count_29 (by decide) ?_
        refine g_lv [2, 3, 1, 0] rfl ?_
        exact hrec v15 v17 h
def f_X11_count (F : Nat) (p0 : Nat) (i1 : Int32) (M : GM) : Option Int32 := bnd (0 : Int32) (fun v1 => bnd (0 : Int32) (fun v3 => bndO (lp_X11_count_4 F p0 i1 M F v1 v3) (fun v19 => some v19)))
set_option maxHeartbeats 4000000 in
set_option maxRecDepth 100000 in
theorem w_X11_count {x : GX} (X : GC x cX11_count 4 RX11 0) {p0 : Nat} {i1 : Int32} (h1 : gT p0 = 20) {F : Nat} {M : GM} {r9 : Int32} (hR : ∀ (v9 : Int32) (lv9 : List (Nat × Value)) (pc9 : Nat), r9 = v9 → decode cX11_count pc9 = .ok (.ireturn, 1) → WG x M lv9 pc9 [.int v9]) (h : f_X11_count F p0 i1 M = some r9) : WG x M [(0, .ref (gad (xz x) p0)), (1, .int i1)] 0 [] := by
  unfold f_X11_count at h
  refine g_iconst X (v := 0) dX11_count_0 (by decide) ?_
  refine g_topi (fun v1 e2 => ?_)
  have h := bnd_e e2 h
  refine g_istore_n X (lv' := [(2, .int v1), (0, .ref (gad (xz x) p0)), (1, .int i1)]) dX11_count_1 rfl (by decide) rfl ?_
  refine g_iconst X (v := 0) dX11_count_2 (by decide) ?_
  refine g_topi (fun v3 e4 => ?_)
  have h := bnd_e e4 h
  refine g_istore_n X (lv' := [(3, .int v3), (2, .int v1), (0, .ref (gad (xz x) p0)), (1, .int i1)]) dX11_count_3 rfl (by decide) rfl ?_
  refine g_lv [2, 3, 1, 0] rfl ?_
  obtain ⟨v19, hl20, h⟩ := bndO_e h
  refine lw_X11_count_4 X h1 (fun v19_ e9 => ?_) F v1 v3 hl20
  cases e9
  refine g_iload_n X (j := 0) dX11_count_32 rfl rfl ?_
  exact hR v19 _ _ (Option.some.inj h).symm dX11_count_33
theorem ct_X11_count {l : Launch} {z : GZ} (htr : l.stackTraces = false) {p0 : Nat} {i1 : Int32} (h1 : gT p0 = 20) {M : GM} {F : Nat} {v : Int32} (h : f_X11_count F p0 i1 M = some v) : gMet l z yX11_count cX11_count 4 (some .int) 0 [.ref (gad z p0), .int i1] M (some (.int v)) M := gMet_ofI (by decide +kernel) (Nat.le_of_ble_eq_true rfl) htr rfl (fun x X ez el hR => by subst ez; subst el; exact w_X11_count X h1 (fun v9 lv9 pc9 e9 d9 => by cases e9; exact hR lv9 pc9 d9) h)
theorem gc_X11_351 {x : GX} {cc : ByteArray} {nL d pc : Nat} {M : GM} {lv : List (Nat × Value)} {st : List Value} (X : GC x cc nL RX11 d) {i0 : Nat} {i1 : Int32} {M1 : GM} {r : Int32} (hM : gMet (xl x) (xz x) yX11_count cX11_count 4 (some .int) 0 [.ref (gad (xz x) i0), .int i1] M (some (.int r)) M1) (hd : 1 ≤ d) (hsum : (st.map fun v => v.category).sum ≤ 8) (dec : decode cc pc = .ok (.invokestatic 351, 3)) (go : WG x M1 lv (pc + 3) (.int r :: st)) : WG x M lv pc (.int i1 :: .ref (gad (xz x) i0) :: st) := g_callS X (n := 2) (As := [.ref (gad (xz x) i0), .int i1]) (rest := st) hM q_1511 q_1512 q_63 q_1513 (by decide +kernel) rfl hd (by decide) rfl hsum dec go
theorem dX11_pointsWith_0 : decode cX11_pointsWith 0 = .ok (.aload_n 0, 1) := by decide +kernel
theorem dX11_pointsWith_1 : decode cX11_pointsWith 1 = .ok (.iconst 0, 1) := by decide +kernel
theorem dX11_pointsWith_2 : decode cX11_pointsWith 2 = .ok (.putfield 114, 3) := by decide +kernel
theorem dX11_pointsWith_5 : decode cX11_pointsWith 5 = .ok (.aload_n 0, 1) := by decide +kernel
theorem dX11_pointsWith_6 : decode cX11_pointsWith 6 = .ok (.iload_n 1, 1) := by decide +kernel
theorem dX11_pointsWith_7 : decode cX11_pointsWith 7 = .ok (.invokevirtual 150, 3) := by decide +kernel
theorem dX11_pointsWith_10 : decode cX11_pointsWith 10 = .ok (.ifCond .eq 14, 3) := by decide +kernel
theorem dX11_pointsWith_13 : decode cX11_pointsWith 13 = .ok (.aload_n 0, 1) := by decide +kernel
theorem dX11_pointsWith_14 : decode cX11_pointsWith 14 = .ok (.getfield 62, 3) := by decide +kernel
theorem dX11_pointsWith_17 : decode cX11_pointsWith 17 = .ok (.iload_n 1, 1) := by decide +kernel
theorem dX11_pointsWith_18 : decode cX11_pointsWith 18 = .ok (.invokestatic 351, 3) := by decide +kernel
theorem dX11_pointsWith_21 : decode cX11_pointsWith 21 = .ok (.goto 8, 3) := by decide +kernel
theorem dX11_pointsWith_24 : decode cX11_pointsWith 24 = .ok (.aload_n 0, 1) := by decide +kernel
theorem dX11_pointsWith_25 : decode cX11_pointsWith 25 = .ok (.iconst 1, 1) := by decide +kernel
theorem dX11_pointsWith_26 : decode cX11_pointsWith 26 = .ok (.invokevirtual 139, 3) := by decide +kernel
theorem dX11_pointsWith_29 : decode cX11_pointsWith 29 = .ok (.ireturn, 1) := by decide +kernel
def f_X11_pointsWith (F : Nat) (i0 : Int32) (M : GM) : Option (Int32 × GM) := bnd (sI M 122 0 (0 : Int32)) (fun M1 => if (f_X11_isPane i0 M1) = 0 then (bndO (f_X11_no F (1 : Int32) M1) (fun (v4, M5) => some (v4, M5))) else (bndO (f_X11_count F 140 i0 M1) (fun v7 => some (v7, M1))))
set_option maxHeartbeats 4000000 in
set_option maxRecDepth 100000 in
theorem w_X11_pointsWith {x : GX} (X : GC x cX11_pointsWith 2 RX11 2) {i0 : Int32}  {F : Nat} {M : GM} {r9 : (Int32 × GM)} (hR : ∀ (v9 : Int32) (M9 : GM) (lv9 : List (Nat × Value)) (pc9 : Nat), r9 = (v9, M9) → decode cX11_pointsWith pc9 = .ok (.ireturn, 1) → WG x M9 lv9 pc9 [.int v9]) (h : f_X11_pointsWith F i0 M = some r9) : WG x M [(0, .ref (gad (xz x) 122)), (1, .int i0)] 0 [] := by
  unfold f_X11_pointsWith at h
  refine g_aload_n X (j := 0) dX11_pointsWith_0 rfl rfl ?_
  refine g_iconst X (v := 0) dX11_pointsWith_1 (by decide) ?_
  refine gp_X11_114 X gT_c122 dX11_pointsWith_2 ?_
  refine g_mem (fun M1 e2 => ?_)
  have h := bnd_e e2 h
  refine g_aload_n X (j := 0) dX11_pointsWith_5 rfl rfl ?_
  refine g_iload_n X (j := 1) dX11_pointsWith_6 rfl rfl ?_
  refine gc_X11_150 X gT_c122 (ct_X11_isPane X.htr ) (by decide) (Nat.le_of_ble_eq_true rfl) dX11_pointsWith_7 ?_
  refine g_if_eq X (tgt := 24) dX11_pointsWith_10 (by decide) (fun hb => ?_) (fun hb => ?_)
  · have h := ite_t hb h
    refine g_aload_n X (j := 0) dX11_pointsWith_24 rfl rfl ?_
    refine g_iconst X (v := 1) dX11_pointsWith_25 (by decide) ?_
    obtain ⟨⟨v4, M5⟩, hc3, h⟩ := bndO_e h
    refine gc_X11_139 X gT_c122 (ct_X11_no X.htr  hc3) (by decide) (Nat.le_of_ble_eq_true rfl) dX11_pointsWith_26 ?_
    exact hR v4 M5 _ _ (Option.some.inj h).symm dX11_pointsWith_29
  · have h := ite_f hb h
    refine g_aload_n X (j := 0) dX11_pointsWith_13 rfl rfl ?_
    refine gf_X11_62 X gT_c122 dX11_pointsWith_14 ?_
    refine g_iload_n X (j := 1) dX11_pointsWith_17 rfl rfl ?_
    obtain ⟨v7, hc6, h⟩ := bndO_e h
    refine gc_X11_351 X (ct_X11_count X.htr gT_c140 hc6) (by decide) (Nat.le_of_ble_eq_true rfl) dX11_pointsWith_18 ?_
    refine g_goto X (tgt := 29) dX11_pointsWith_21 (by decide) ?_
    exact hR v7 M1 _ _ (Option.some.inj h).symm dX11_pointsWith_29
theorem ct_X11_pointsWith {l : Launch} {z : GZ} (htr : l.stackTraces = false) {i0 : Int32}  {M : GM} {F : Nat} {v : Int32} {M1 : GM} (h : f_X11_pointsWith F i0 M = some (v, M1)) : gMet l z yX11_pointsWith cX11_pointsWith 2 (some .int) 2 [.ref (gad z 122), .int i0] M (some (.int v)) M1 := gMet_ofI (by decide +kernel) (Nat.le_of_ble_eq_true rfl) htr rfl (fun x X ez el hR => by subst ez; subst el; exact w_X11_pointsWith X  (fun v9 M9 lv9 pc9 e9 d9 => by cases e9; exact hR lv9 pc9 d9) h)
theorem dX11_different_0 : decode cX11_different 0 = .ok (.iconst 0, 1) := by decide +kernel
theorem dX11_different_1 : decode cX11_different 1 = .ok (.istore_n 1, 1) := by decide +kernel
theorem dX11_different_2 : decode cX11_different 2 = .ok (.iconst 0, 1) := by decide +kernel
theorem dX11_different_3 : decode cX11_different 3 = .ok (.istore_n 2, 1) := by decide +kernel
theorem dX11_different_4 : decode cX11_different 4 = .ok (.iload_n 2, 1) := by decide +kernel
theorem dX11_different_5 : decode cX11_different 5 = .ok (.sipush 960, 3) := by decide +kernel
theorem dX11_different_8 : decode cX11_different 8 = .ok (.if_icmp .ge 45, 3) := by decide +kernel
theorem dX11_different_11 : decode cX11_different 11 = .ok (.iconst 0, 1) := by decide +kernel
theorem dX11_different_12 : decode cX11_different 12 = .ok (.istore_n 3, 1) := by decide +kernel
theorem dX11_different_13 : decode cX11_different 13 = .ok (.aload_n 0, 1) := by decide +kernel
theorem dX11_different_14 : decode cX11_different 14 = .ok (.getfield 56, 3) := by decide +kernel
theorem dX11_different_17 : decode cX11_different 17 = .ok (.iload_n 3, 1) := by decide +kernel
theorem dX11_different_18 : decode cX11_different 18 = .ok (.iaload, 1) := by decide +kernel
theorem dX11_different_19 : decode cX11_different 19 = .ok (.aload_n 0, 1) := by decide +kernel
theorem dX11_different_20 : decode cX11_different 20 = .ok (.getfield 56, 3) := by decide +kernel
theorem dX11_different_23 : decode cX11_different 23 = .ok (.iload_n 2, 1) := by decide +kernel
theorem dX11_different_24 : decode cX11_different 24 = .ok (.iaload, 1) := by decide +kernel
theorem dX11_different_25 : decode cX11_different 25 = .ok (.if_icmp .eq 9, 3) := by decide +kernel
theorem dX11_different_28 : decode cX11_different 28 = .ok (.iinc 3 1, 3) := by decide +kernel
theorem dX11_different_31 : decode cX11_different 31 = .ok (.goto (-18), 3) := by decide +kernel
theorem dX11_different_34 : decode cX11_different 34 = .ok (.iload_n 1, 1) := by decide +kernel
theorem dX11_different_35 : decode cX11_different 35 = .ok (.iload_n 3, 1) := by decide +kernel
theorem dX11_different_36 : decode cX11_different 36 = .ok (.iload_n 2, 1) := by decide +kernel
theorem dX11_different_37 : decode cX11_different 37 = .ok (.if_icmp .ne 7, 3) := by decide +kernel
theorem dX11_different_40 : decode cX11_different 40 = .ok (.iconst 1, 1) := by decide +kernel
theorem dX11_different_41 : decode cX11_different 41 = .ok (.goto 4, 3) := by decide +kernel
theorem dX11_different_44 : decode cX11_different 44 = .ok (.iconst 0, 1) := by decide +kernel
theorem dX11_different_45 : decode cX11_different 45 = .ok (.iadd, 1) := by decide +kernel
theorem dX11_different_46 : decode cX11_different 46 = .ok (.istore_n 1, 1) := by decide +kernel
theorem dX11_different_47 : decode cX11_different 47 = .ok (.iinc 2 1, 3) := by decide +kernel
theorem dX11_different_50 : decode cX11_different 50 = .ok (.goto (-46), 3) := by decide +kernel
theorem dX11_different_53 : decode cX11_different 53 = .ok (.iload_n 1, 1) := by decide +kernel
theorem dX11_different_54 : decode cX11_different 54 = .ok (.ireturn, 1) := by decide +kernel
def st_X11_different_13 (F : Nat) (a9 : Int32) (a10 : Int32) (rec : Int32 → Option Int32) (a11 : Int32) (M : GM) : Option Int32 := grd (gIn a11 (gN 138)) (grd (gIn a10 (gN 138)) (if (gI M 138 a11.toNatClampNeg) = (gI M 138 a10.toNatClampNeg) then (some a11) else (bnd (a11 + (1 : Int32)) (fun v14 => rec v14))))
def lp_X11_different_13 (F : Nat) (a9 : Int32) (a10 : Int32) (M : GM) : Nat → Int32 → Option Int32
  | 0 => fun _ => none
  | f + 1 => fun a11 => st_X11_different_13 F a9 a10 (lp_X11_different_13 F a9 a10 M f) a11 M
set_option maxHeartbeats 4000000 in
set_option maxRecDepth 100000 in
theorem lw_X11_different_13 {x : GX} (X : GC x cX11_different 4 RX11 0) {a9 : Int32} {a10 : Int32}  {F : Nat} {M : GM} {r9 : Int32} (hE : ∀ (x3_9 : Int32), r9 = x3_9 → WG x M [(0, .ref (gad (xz x) 122)), (1, .int a9), (2, .int a10), (3, .int x3_9)] 34 []) : ∀ (f : Nat) (a11 : Int32), lp_X11_different_13 F a9 a10 M f a11 = some r9 → WG x M [(0, .ref (gad (xz x) 122)), (1, .int a9), (2, .int a10), (3, .int a11)] 13 [] := by
  intro f
  induction f with
  | zero => intro a11 h; cases h
  | succ f ih =>
    intro a11 h
    have hrec := ih
    have h : st_X11_different_13 F a9 a10 (lp_X11_different_13 F a9 a10 M f) a11 M = some r9 := h
    generalize lp_X11_different_13 F a9 a10 M f = rec at h hrec
    unfold st_X11_different_13 at h
    refine g_aload_n X (j := 0) dX11_different_13 rfl rfl ?_
    refine gf_X11_56 X gT_c122 dX11_different_14 ?_
    refine g_iload_n X (j := 3) dX11_different_17 rfl rfl ?_
    obtain ⟨hg12, h⟩ := grd_e h
    refine g_iald X gT_c138 hg12 dX11_different_18 ?_
    refine g_aload_n X (j := 0) dX11_different_19 rfl rfl ?_
    refine gf_X11_56 X gT_c122 dX11_different_20 ?_
    refine g_iload_n X (j := 2) dX11_different_23 rfl rfl ?_
    obtain ⟨hg13, h⟩ := grd_e h
    refine g_iald X gT_c138 hg13 dX11_different_24 ?_
    refine g_icmp_eq X (tgt := 34) dX11_different_25 (by decide) (fun hb => ?_) (fun hb => ?_)
    · have h := ite_t hb h
      refine g_lv [0, 1, 2, 3] rfl ?_
      exact hE a11 (Option.some.inj h).symm
    · have h := ite_f hb h
      refine g_iinc X (j := 3) (w := a11 + (1 : Int32)) (lv' := [(0, .ref (gad (xz x) 122)), (1, .int a9), (2, .int a10)]) dX11_different_28 rfl (by rw [ii_1]) (by decide) (fun _ => rfl) (fun v14 e15 => ?_)
      have h := bnd_e e15 h
      refine g_goto X (tgt := 13) dX11_different_31 (by decide) ?_
      refine g_lv [1, 2, 3, 0] rfl ?_
      exact hrec v14 h
def st_X11_different_4 (F : Nat)  (rec : Int32 → Int32 → Option Int32) (a5 : Int32) (a6 : Int32) (M : GM) : Option Int32 := if (960 : Int32) ≤ a6 then (some a5) else (bnd (0 : Int32) (fun v7 => bndO (lp_X11_different_13 F a5 a6 M F v7) (fun v16 => if v16 = a6 then (bnd (a5 + (1 : Int32)) (fun v22 => bnd (a6 + (1 : Int32)) (fun v24 => rec v22 v24))) else (bnd (a5 + (0 : Int32)) (fun v18 => bnd (a6 + (1 : Int32)) (fun v20 => rec v18 v20))))))
def lp_X11_different_4 (F : Nat)  (M : GM) : Nat → Int32 → Int32 → Option Int32
  | 0 => fun _ _ => none
  | f + 1 => fun a5 a6 => st_X11_different_4 F  (lp_X11_different_4 F  M f) a5 a6 M
set_option maxHeartbeats 4000000 in
set_option maxRecDepth 100000 in
theorem lw_X11_different_4 {x : GX} (X : GC x cX11_different 4 RX11 0)   {F : Nat} {M : GM} {r9 : Int32} (hE : ∀ (x1_9 : Int32), r9 = x1_9 → WG x M [(1, .int x1_9)] 53 []) : ∀ (f : Nat) (a5 : Int32) (a6 : Int32), lp_X11_different_4 F  M f a5 a6 = some r9 → WG x M [(0, .ref (gad (xz x) 122)), (1, .int a5), (2, .int a6)] 4 [] := by
  intro f
  induction f with
  | zero => intro a5 a6 h; cases h
  | succ f ih =>
    intro a5 a6 h
    have hrec := ih
    have h : st_X11_different_4 F  (lp_X11_different_4 F  M f) a5 a6 M = some r9 := h
    generalize lp_X11_different_4 F  M f = rec at h hrec
    unfold st_X11_different_4 at h
    refine g_iload_n X (j := 2) dX11_different_4 rfl rfl ?_
    refine g_sipush X (v := 960) dX11_different_5 (by decide) ?_
    refine g_icmp_ge X (tgt := 53) dX11_different_8 (by decide) (fun hb => ?_) (fun hb => ?_)
    · have h := ite_t hb h
      refine g_lv [1] rfl ?_
      exact hE a5 (Option.some.inj h).symm
    · have h := ite_f hb h
      refine g_iconst X (v := 0) dX11_different_11 (by decide) ?_
      refine g_topi (fun v7 e8 => ?_)
      have h := bnd_e e8 h
      refine g_istore_n X (lv' := [(3, .int v7), (0, .ref (gad (xz x) 122)), (1, .int a5), (2, .int a6)]) dX11_different_12 rfl (by decide) rfl ?_
      refine g_lv [1, 2, 3, 0] rfl ?_
      obtain ⟨v16, hl17, h⟩ := bndO_e h
      refine lw_X11_different_13 X  (fun v16_ e9 => ?_) F v7 hl17
      cases e9
      refine g_iload_n X (j := 1) dX11_different_34 rfl rfl ?_
      refine g_iload_n X (j := 3) dX11_different_35 rfl rfl ?_
      refine g_iload_n X (j := 2) dX11_different_36 rfl rfl ?_
      refine g_icmp_ne X (tgt := 44) dX11_different_37 (by decide) (fun hb => ?_) (fun hb => ?_)
      · have h := ite_f hb h
        refine g_iconst X (v := 0) dX11_different_44 (by decide) ?_
        refine g_iadd X dX11_different_45 ?_
        refine g_topi (fun v18 e19 => ?_)
        have h := bnd_e e19 h
        refine g_istore_n X (lv' := [(1, .int v18), (0, .ref (gad (xz x) 122)), (2, .int a6), (3, .int v16)]) dX11_different_46 rfl (by decide) rfl ?_
        refine g_iinc X (j := 2) (w := a6 + (1 : Int32)) (lv' := [(1, .int v18), (0, .ref (gad (xz x) 122)), (3, .int v16)]) dX11_different_47 rfl (by rw [ii_1]) (by decide) (fun _ => rfl) (fun v20 e21 => ?_)
        have h := bnd_e e21 h
        refine g_goto X (tgt := 4) dX11_different_50 (by decide) ?_
        refine g_lv [2, 1, 0] rfl ?_
        exact hrec v18 v20 h
      · have h := ite_t hb h
        refine g_iconst X (v := 1) dX11_different_40 (by decide) ?_
        refine g_goto X (tgt := 45) dX11_different_41 (by decide) ?_
        refine g_iadd X dX11_different_45 ?_
        refine g_topi (fun v22 e23 => ?_)
        have h := bnd_e e23 h
        refine g_istore_n X (lv' := [(1, .int v22), (0, .ref (gad (xz x) 122)), (2, .int a6), (3, .int v16)]) dX11_different_46 rfl (by decide) rfl ?_
        refine g_iinc X (j := 2) (w := a6 + (1 : Int32)) (lv' := [(1, .int v22), (0, .ref (gad (xz x) 122)), (3, .int v16)]) dX11_different_47 rfl (by rw [ii_1]) (by decide) (fun _ => rfl) (fun v24 e25 => ?_)
        have h := bnd_e e25 h
        refine g_goto X (tgt := 4) dX11_different_50 (by decide) ?_
        refine g_lv [2, 1, 0] rfl ?_
        exact hrec v22 v24 h
def f_X11_different (F : Nat) (M : GM) : Option Int32 := bnd (0 : Int32) (fun v1 => bnd (0 : Int32) (fun v3 => bndO (lp_X11_different_4 F  M F v1 v3) (fun v26 => some v26)))
set_option maxHeartbeats 4000000 in
set_option maxRecDepth 100000 in
theorem w_X11_different {x : GX} (X : GC x cX11_different 4 RX11 0)   {F : Nat} {M : GM} {r9 : Int32} (hR : ∀ (v9 : Int32) (lv9 : List (Nat × Value)) (pc9 : Nat), r9 = v9 → decode cX11_different pc9 = .ok (.ireturn, 1) → WG x M lv9 pc9 [.int v9]) (h : f_X11_different F M = some r9) : WG x M [(0, .ref (gad (xz x) 122))] 0 [] := by
  unfold f_X11_different at h
  refine g_iconst X (v := 0) dX11_different_0 (by decide) ?_
  refine g_topi (fun v1 e2 => ?_)
  have h := bnd_e e2 h
  refine g_istore_n X (lv' := [(1, .int v1), (0, .ref (gad (xz x) 122))]) dX11_different_1 rfl (by decide) rfl ?_
  refine g_iconst X (v := 0) dX11_different_2 (by decide) ?_
  refine g_topi (fun v3 e4 => ?_)
  have h := bnd_e e4 h
  refine g_istore_n X (lv' := [(2, .int v3), (1, .int v1), (0, .ref (gad (xz x) 122))]) dX11_different_3 rfl (by decide) rfl ?_
  refine g_lv [2, 1, 0] rfl ?_
  obtain ⟨v26, hl27, h⟩ := bndO_e h
  refine lw_X11_different_4 X  (fun v26_ e9 => ?_) F v1 v3 hl27
  cases e9
  refine g_iload_n X (j := 0) dX11_different_53 rfl rfl ?_
  exact hR v26 _ _ (Option.some.inj h).symm dX11_different_54
theorem ct_X11_different {l : Launch} {z : GZ} (htr : l.stackTraces = false)   {M : GM} {F : Nat} {v : Int32} (h : f_X11_different F M = some v) : gMet l z yX11_different cX11_different 4 (some .int) 0 [.ref (gad z 122)] M (some (.int v)) M := gMet_ofI (by decide +kernel) (Nat.le_of_ble_eq_true rfl) htr rfl (fun x X ez el hR => by subst ez; subst el; exact w_X11_different X  (fun v9 lv9 pc9 e9 d9 => by cases e9; exact hR lv9 pc9 d9) h)
theorem gc_X11_354 {x : GX} {cc : ByteArray} {nL d pc : Nat} {M : GM} {lv : List (Nat × Value)} {st : List Value} (X : GC x cc nL RX11 d)  {M1 : GM} {r : Int32} (ht : gT 122 = 11) (hM : gMet (xl x) (xz x) yX11_different cX11_different 4 (some .int) 0 [.ref (gad (xz x) 122)] M (some (.int r)) M1) (hd : 1 ≤ d) (hsum : (st.map fun v => v.category).sum ≤ 8) (dec : decode cc pc = .ok (.invokevirtual 354, 3)) (go : WG x M1 lv (pc + 3) (.int r :: st)) : WG x M lv pc (.ref (gad (xz x) 122) :: st) := g_callV X (n := 0) (As := []) (rest := st) hM ht (by decide) (gE_11 ht) rfl q_1518 q_1520 q_50 q_63 q_1521 (by decide +kernel) rfl hd (by decide) rfl hsum dec go
theorem dX11_colours_0 : decode cX11_colours 0 = .ok (.aload_n 0, 1) := by decide +kernel
theorem dX11_colours_1 : decode cX11_colours 1 = .ok (.aload_n 0, 1) := by decide +kernel
theorem dX11_colours_2 : decode cX11_colours 2 = .ok (.invokevirtual 354, 3) := by decide +kernel
theorem dX11_colours_5 : decode cX11_colours 5 = .ok (.invokevirtual 167, 3) := by decide +kernel
theorem dX11_colours_8 : decode cX11_colours 8 = .ok (.ireturn, 1) := by decide +kernel
def f_X11_colours (F : Nat) (M : GM) : Option (Int32 × GM) := bndO (f_X11_different F M) (fun v2 => bndO (f_X11_ok F v2 M) (fun (v4, M5) => some (v4, M5)))
set_option maxHeartbeats 4000000 in
set_option maxRecDepth 100000 in
theorem w_X11_colours {x : GX} (X : GC x cX11_colours 1 RX11 1)   {F : Nat} {M : GM} {r9 : (Int32 × GM)} (hR : ∀ (v9 : Int32) (M9 : GM) (lv9 : List (Nat × Value)) (pc9 : Nat), r9 = (v9, M9) → decode cX11_colours pc9 = .ok (.ireturn, 1) → WG x M9 lv9 pc9 [.int v9]) (h : f_X11_colours F M = some r9) : WG x M [(0, .ref (gad (xz x) 122))] 0 [] := by
  unfold f_X11_colours at h
  refine g_aload_n X (j := 0) dX11_colours_0 rfl rfl ?_
  refine g_aload_n X (j := 0) dX11_colours_1 rfl rfl ?_
  obtain ⟨v2, hc1, h⟩ := bndO_e h
  refine gc_X11_354 X gT_c122 (ct_X11_different X.htr  hc1) (by decide) (Nat.le_of_ble_eq_true rfl) dX11_colours_2 ?_
  obtain ⟨⟨v4, M5⟩, hc3, h⟩ := bndO_e h
  refine gc_X11_167 X gT_c122 (ct_X11_ok X.htr  hc3) (by decide) (Nat.le_of_ble_eq_true rfl) dX11_colours_5 ?_
  exact hR v4 M5 _ _ (Option.some.inj h).symm dX11_colours_8
theorem ct_X11_colours {l : Launch} {z : GZ} (htr : l.stackTraces = false)   {M : GM} {F : Nat} {v : Int32} {M1 : GM} (h : f_X11_colours F M = some (v, M1)) : gMet l z yX11_colours cX11_colours 1 (some .int) 1 [.ref (gad z 122)] M (some (.int v)) M1 := gMet_ofI (by decide +kernel) (Nat.le_of_ble_eq_true rfl) htr rfl (fun x X ez el hR => by subst ez; subst el; exact w_X11_colours X  (fun v9 M9 lv9 pc9 e9 d9 => by cases e9; exact hR lv9 pc9 d9) h)
theorem dX11_colourNow_0 : decode cX11_colourNow 0 = .ok (.aload_n 0, 1) := by decide +kernel
theorem dX11_colourNow_1 : decode cX11_colourNow 1 = .ok (.iconst 0, 1) := by decide +kernel
theorem dX11_colourNow_2 : decode cX11_colourNow 2 = .ok (.putfield 114, 3) := by decide +kernel
theorem dX11_colourNow_5 : decode cX11_colourNow 5 = .ok (.iload_n 1, 1) := by decide +kernel
theorem dX11_colourNow_6 : decode cX11_colourNow 6 = .ok (.iload_n 2, 1) := by decide +kernel
theorem dX11_colourNow_7 : decode cX11_colourNow 7 = .ok (.invokestatic 332, 3) := by decide +kernel
theorem dX11_colourNow_10 : decode cX11_colourNow 10 = .ok (.ifCond .ne 9, 3) := by decide +kernel
theorem dX11_colourNow_13 : decode cX11_colourNow 13 = .ok (.aload_n 0, 1) := by decide +kernel
theorem dX11_colourNow_14 : decode cX11_colourNow 14 = .ok (.iconst 1, 1) := by decide +kernel
theorem dX11_colourNow_15 : decode cX11_colourNow 15 = .ok (.invokevirtual 139, 3) := by decide +kernel
theorem dX11_colourNow_18 : decode cX11_colourNow 18 = .ok (.ireturn, 1) := by decide +kernel
theorem dX11_colourNow_19 : decode cX11_colourNow 19 = .ok (.aload_n 0, 1) := by decide +kernel
theorem dX11_colourNow_20 : decode cX11_colourNow 20 = .ok (.iconst (-1), 1) := by decide +kernel
theorem dX11_colourNow_21 : decode cX11_colourNow 21 = .ok (.invokevirtual 338, 3) := by decide +kernel
theorem dX11_colourNow_24 : decode cX11_colourNow 24 = .ok (.aload_n 0, 1) := by decide +kernel
theorem dX11_colourNow_25 : decode cX11_colourNow 25 = .ok (.getfield 65, 3) := by decide +kernel
theorem dX11_colourNow_28 : decode cX11_colourNow 28 = .ok (.iload_n 2, 1) := by decide +kernel
theorem dX11_colourNow_29 : decode cX11_colourNow 29 = .ok (.bipush 40, 2) := by decide +kernel
theorem dX11_colourNow_31 : decode cX11_colourNow 31 = .ok (.imul, 1) := by decide +kernel
theorem dX11_colourNow_32 : decode cX11_colourNow 32 = .ok (.iload_n 1, 1) := by decide +kernel
theorem dX11_colourNow_33 : decode cX11_colourNow 33 = .ok (.iadd, 1) := by decide +kernel
theorem dX11_colourNow_34 : decode cX11_colourNow 34 = .ok (.iaload, 1) := by decide +kernel
theorem dX11_colourNow_35 : decode cX11_colourNow 35 = .ok (.ireturn, 1) := by decide +kernel
def f_X11_colourNow (F : Nat) (i0 : Int32) (i1 : Int32) (M : GM) : Option (Int32 × GM) := bnd (sI M 122 0 (0 : Int32)) (fun M1 => if (f_X11_isPoint i0 i1) = 0 then (bndO (f_X11_no F (1 : Int32) M1) (fun (v7, M8) => some (v7, M8))) else (bndO (f_X11_draw F ((-1) : Int32) M1) (fun M4 => grd (gIn ((i1 * (40 : Int32)) + i0) (gN 141)) (some ((gI M4 141 (((i1 * (40 : Int32)) + i0).toNatClampNeg)), M4)))))
set_option maxHeartbeats 4000000 in
set_option maxRecDepth 100000 in
theorem w_X11_colourNow {x : GX} (X : GC x cX11_colourNow 3 RX11 5) {i0 : Int32} {i1 : Int32}  {F : Nat} {M : GM} {r9 : (Int32 × GM)} (hR : ∀ (v9 : Int32) (M9 : GM) (lv9 : List (Nat × Value)) (pc9 : Nat), r9 = (v9, M9) → decode cX11_colourNow pc9 = .ok (.ireturn, 1) → WG x M9 lv9 pc9 [.int v9]) (h : f_X11_colourNow F i0 i1 M = some r9) : WG x M [(0, .ref (gad (xz x) 122)), (1, .int i0), (2, .int i1)] 0 [] := by
  unfold f_X11_colourNow at h
  refine g_aload_n X (j := 0) dX11_colourNow_0 rfl rfl ?_
  refine g_iconst X (v := 0) dX11_colourNow_1 (by decide) ?_
  refine gp_X11_114 X gT_c122 dX11_colourNow_2 ?_
  refine g_mem (fun M1 e2 => ?_)
  have h := bnd_e e2 h
  refine g_iload_n X (j := 1) dX11_colourNow_5 rfl rfl ?_
  refine g_iload_n X (j := 2) dX11_colourNow_6 rfl rfl ?_
  refine gc_X11_332 X (ct_X11_isPoint X.htr ) (by decide) (Nat.le_of_ble_eq_true rfl) dX11_colourNow_7 ?_
  refine g_if_ne X (tgt := 19) dX11_colourNow_10 (by decide) (fun hb => ?_) (fun hb => ?_)
  · have h := ite_f hb h
    refine g_aload_n X (j := 0) dX11_colourNow_19 rfl rfl ?_
    refine g_iconst X (v := (-1)) dX11_colourNow_20 (by decide) ?_
    obtain ⟨M4, hc3, h⟩ := bndO_e h
    refine gc_X11_338 X gT_c122 (ct_X11_draw X.htr  hc3) (by decide) (Nat.le_of_ble_eq_true rfl) dX11_colourNow_21 ?_
    refine g_aload_n X (j := 0) dX11_colourNow_24 rfl rfl ?_
    refine gf_X11_65 X gT_c122 dX11_colourNow_25 ?_
    refine g_iload_n X (j := 2) dX11_colourNow_28 rfl rfl ?_
    refine g_bipush X (v := 40) dX11_colourNow_29 (by decide) ?_
    refine g_imul X dX11_colourNow_31 ?_
    refine g_iload_n X (j := 1) dX11_colourNow_32 rfl rfl ?_
    refine g_iadd X dX11_colourNow_33 ?_
    obtain ⟨hg5, h⟩ := grd_e h
    refine g_iald X gT_c141 hg5 dX11_colourNow_34 ?_
    exact hR (gI M4 141 (((i1 * (40 : Int32)) + i0).toNatClampNeg)) M4 _ _ (Option.some.inj h).symm dX11_colourNow_35
  · have h := ite_t hb h
    refine g_aload_n X (j := 0) dX11_colourNow_13 rfl rfl ?_
    refine g_iconst X (v := 1) dX11_colourNow_14 (by decide) ?_
    obtain ⟨⟨v7, M8⟩, hc6, h⟩ := bndO_e h
    refine gc_X11_139 X gT_c122 (ct_X11_no X.htr  hc6) (by decide) (Nat.le_of_ble_eq_true rfl) dX11_colourNow_15 ?_
    exact hR v7 M8 _ _ (Option.some.inj h).symm dX11_colourNow_18
theorem ct_X11_colourNow {l : Launch} {z : GZ} (htr : l.stackTraces = false) {i0 : Int32} {i1 : Int32}  {M : GM} {F : Nat} {v : Int32} {M1 : GM} (h : f_X11_colourNow F i0 i1 M = some (v, M1)) : gMet l z yX11_colourNow cX11_colourNow 3 (some .int) 5 [.ref (gad z 122), .int i0, .int i1] M (some (.int v)) M1 := gMet_ofI (by decide +kernel) (Nat.le_of_ble_eq_true rfl) htr rfl (fun x X ez el hR => by subst ez; subst el; exact w_X11_colourNow X  (fun v9 M9 lv9 pc9 e9 d9 => by cases e9; exact hR lv9 pc9 d9) h)
theorem dX11_seenOf_0 : decode cX11_seenOf 0 = .ok (.aload_n 0, 1) := by decide +kernel
theorem dX11_seenOf_1 : decode cX11_seenOf 1 = .ok (.iconst 0, 1) := by decide +kernel
theorem dX11_seenOf_2 : decode cX11_seenOf 2 = .ok (.putfield 114, 3) := by decide +kernel
theorem dX11_seenOf_5 : decode cX11_seenOf 5 = .ok (.aload_n 0, 1) := by decide +kernel
theorem dX11_seenOf_6 : decode cX11_seenOf 6 = .ok (.iload_n 1, 1) := by decide +kernel
theorem dX11_seenOf_7 : decode cX11_seenOf 7 = .ok (.invokevirtual 150, 3) := by decide +kernel
theorem dX11_seenOf_10 : decode cX11_seenOf 10 = .ok (.ifCond .ne 9, 3) := by decide +kernel
theorem dX11_seenOf_13 : decode cX11_seenOf 13 = .ok (.aload_n 0, 1) := by decide +kernel
theorem dX11_seenOf_14 : decode cX11_seenOf 14 = .ok (.iconst 1, 1) := by decide +kernel
theorem dX11_seenOf_15 : decode cX11_seenOf 15 = .ok (.invokevirtual 139, 3) := by decide +kernel
theorem dX11_seenOf_18 : decode cX11_seenOf 18 = .ok (.ireturn, 1) := by decide +kernel
theorem dX11_seenOf_19 : decode cX11_seenOf 19 = .ok (.aload_n 0, 1) := by decide +kernel
theorem dX11_seenOf_20 : decode cX11_seenOf 20 = .ok (.iconst (-1), 1) := by decide +kernel
theorem dX11_seenOf_21 : decode cX11_seenOf 21 = .ok (.invokevirtual 338, 3) := by decide +kernel
theorem dX11_seenOf_24 : decode cX11_seenOf 24 = .ok (.aload_n 0, 1) := by decide +kernel
theorem dX11_seenOf_25 : decode cX11_seenOf 25 = .ok (.getfield 65, 3) := by decide +kernel
theorem dX11_seenOf_28 : decode cX11_seenOf 28 = .ok (.iconst 0, 1) := by decide +kernel
theorem dX11_seenOf_29 : decode cX11_seenOf 29 = .ok (.aload_n 0, 1) := by decide +kernel
theorem dX11_seenOf_30 : decode cX11_seenOf 30 = .ok (.getfield 108, 3) := by decide +kernel
theorem dX11_seenOf_33 : decode cX11_seenOf 33 = .ok (.iconst 0, 1) := by decide +kernel
theorem dX11_seenOf_34 : decode cX11_seenOf 34 = .ok (.sipush 960, 3) := by decide +kernel
theorem dX11_seenOf_37 : decode cX11_seenOf 37 = .ok (.invokestatic 190, 3) := by decide +kernel
theorem dX11_seenOf_40 : decode cX11_seenOf 40 = .ok (.aload_n 0, 1) := by decide +kernel
theorem dX11_seenOf_41 : decode cX11_seenOf 41 = .ok (.iload_n 1, 1) := by decide +kernel
theorem dX11_seenOf_42 : decode cX11_seenOf 42 = .ok (.invokevirtual 338, 3) := by decide +kernel
theorem dX11_seenOf_45 : decode cX11_seenOf 45 = .ok (.iconst 0, 1) := by decide +kernel
theorem dX11_seenOf_46 : decode cX11_seenOf 46 = .ok (.istore_n 2, 1) := by decide +kernel
theorem dX11_seenOf_47 : decode cX11_seenOf 47 = .ok (.iconst 0, 1) := by decide +kernel
theorem dX11_seenOf_48 : decode cX11_seenOf 48 = .ok (.istore_n 3, 1) := by decide +kernel
theorem dX11_seenOf_49 : decode cX11_seenOf 49 = .ok (.iload_n 3, 1) := by decide +kernel
theorem dX11_seenOf_50 : decode cX11_seenOf 50 = .ok (.sipush 960, 3) := by decide +kernel
theorem dX11_seenOf_53 : decode cX11_seenOf 53 = .ok (.if_icmp .ge 32, 3) := by decide +kernel
theorem dX11_seenOf_56 : decode cX11_seenOf 56 = .ok (.iload_n 2, 1) := by decide +kernel
theorem dX11_seenOf_57 : decode cX11_seenOf 57 = .ok (.aload_n 0, 1) := by decide +kernel
theorem dX11_seenOf_58 : decode cX11_seenOf 58 = .ok (.getfield 65, 3) := by decide +kernel
theorem dX11_seenOf_61 : decode cX11_seenOf 61 = .ok (.iload_n 3, 1) := by decide +kernel
theorem dX11_seenOf_62 : decode cX11_seenOf 62 = .ok (.iaload, 1) := by decide +kernel
theorem dX11_seenOf_63 : decode cX11_seenOf 63 = .ok (.aload_n 0, 1) := by decide +kernel
theorem dX11_seenOf_64 : decode cX11_seenOf 64 = .ok (.getfield 108, 3) := by decide +kernel
theorem dX11_seenOf_67 : decode cX11_seenOf 67 = .ok (.iload_n 3, 1) := by decide +kernel
theorem dX11_seenOf_68 : decode cX11_seenOf 68 = .ok (.iaload, 1) := by decide +kernel
theorem dX11_seenOf_69 : decode cX11_seenOf 69 = .ok (.if_icmp .eq 7, 3) := by decide +kernel
theorem dX11_seenOf_72 : decode cX11_seenOf 72 = .ok (.iconst 1, 1) := by decide +kernel
theorem dX11_seenOf_73 : decode cX11_seenOf 73 = .ok (.goto 4, 3) := by decide +kernel
theorem dX11_seenOf_76 : decode cX11_seenOf 76 = .ok (.iconst 0, 1) := by decide +kernel
theorem dX11_seenOf_77 : decode cX11_seenOf 77 = .ok (.iadd, 1) := by decide +kernel
theorem dX11_seenOf_78 : decode cX11_seenOf 78 = .ok (.istore_n 2, 1) := by decide +kernel
theorem dX11_seenOf_79 : decode cX11_seenOf 79 = .ok (.iinc 3 1, 3) := by decide +kernel
theorem dX11_seenOf_82 : decode cX11_seenOf 82 = .ok (.goto (-33), 3) := by decide +kernel
theorem dX11_seenOf_85 : decode cX11_seenOf 85 = .ok (.iload_n 2, 1) := by decide +kernel
theorem dX11_seenOf_86 : decode cX11_seenOf 86 = .ok (.ireturn, 1) := by decide +kernel
def st_X11_seenOf_49 (F : Nat)  (rec : Int32 → Int32 → GM → Option (Int32 × GM)) (a15 : Int32) (a16 : Int32) (M : GM) : Option (Int32 × GM) := if (960 : Int32) ≤ a16 then (some (a15, M)) else (grd (gIn a16 (gN 141)) (grd (gIn a16 (gN 161)) (if (gI M 141 a16.toNatClampNeg) = (gI M 161 a16.toNatClampNeg) then (bnd (a15 + (0 : Int32)) (fun v19 => bnd (a16 + (1 : Int32)) (fun v21 => rec v19 v21 M))) else (bnd (a15 + (1 : Int32)) (fun v23 => bnd (a16 + (1 : Int32)) (fun v25 => rec v23 v25 M))))))
def lp_X11_seenOf_49 (F : Nat)  : Nat → Int32 → Int32 → GM → Option (Int32 × GM)
  | 0 => fun _ _ _ => none
  | f + 1 => fun a15 a16 M => st_X11_seenOf_49 F  (lp_X11_seenOf_49 F  f) a15 a16 M
set_option maxHeartbeats 4000000 in
set_option maxRecDepth 100000 in
theorem lw_X11_seenOf_49 {x : GX} (X : GC x cX11_seenOf 4 RX11 5)   {F : Nat} {r9 : (Int32 × GM)} (hE : ∀ (x2_9 : Int32) (M9 : GM), r9 = (x2_9, M9) → WG x M9 [(2, .int x2_9)] 85 []) : ∀ (f : Nat) (a15 : Int32) (a16 : Int32) (M : GM), lp_X11_seenOf_49 F  f a15 a16 M = some r9 → WG x M [(0, .ref (gad (xz x) 122)), (2, .int a15), (3, .int a16)] 49 [] := by
  intro f
  induction f with
  | zero => intro a15 a16 M h; cases h
  | succ f ih =>
    intro a15 a16 M h
    have hrec := ih
    have h : st_X11_seenOf_49 F  (lp_X11_seenOf_49 F  f) a15 a16 M = some r9 := h
    generalize lp_X11_seenOf_49 F  f = rec at h hrec
    unfold st_X11_seenOf_49 at h
    refine g_iload_n X (j := 2) dX11_seenOf_49 rfl rfl ?_
    refine g_sipush X (v := 960) dX11_seenOf_50 (by decide) ?_
    refine g_icmp_ge X (tgt := 85) dX11_seenOf_53 (by decide) (fun hb => ?_) (fun hb => ?_)
    · have h := ite_t hb h
      refine g_lv [1] rfl ?_
      exact hE a15 M (Option.some.inj h).symm
    · have h := ite_f hb h
      refine g_iload_n X (j := 1) dX11_seenOf_56 rfl rfl ?_
      refine g_aload_n X (j := 0) dX11_seenOf_57 rfl rfl ?_
      refine gf_X11_65 X gT_c122 dX11_seenOf_58 ?_
      refine g_iload_n X (j := 2) dX11_seenOf_61 rfl rfl ?_
      obtain ⟨hg17, h⟩ := grd_e h
      refine g_iald X gT_c141 hg17 dX11_seenOf_62 ?_
      refine g_aload_n X (j := 0) dX11_seenOf_63 rfl rfl ?_
      refine gf_X11_108 X gT_c122 dX11_seenOf_64 ?_
      refine g_iload_n X (j := 2) dX11_seenOf_67 rfl rfl ?_
      obtain ⟨hg18, h⟩ := grd_e h
      refine g_iald X gT_c161 hg18 dX11_seenOf_68 ?_
      refine g_icmp_eq X (tgt := 76) dX11_seenOf_69 (by decide) (fun hb => ?_) (fun hb => ?_)
      · have h := ite_t hb h
        refine g_iconst X (v := 0) dX11_seenOf_76 (by decide) ?_
        refine g_iadd X dX11_seenOf_77 ?_
        refine g_topi (fun v19 e20 => ?_)
        have h := bnd_e e20 h
        refine g_istore_n X (lv' := [(2, .int v19), (0, .ref (gad (xz x) 122)), (3, .int a16)]) dX11_seenOf_78 rfl (by decide) rfl ?_
        refine g_iinc X (j := 2) (w := a16 + (1 : Int32)) (lv' := [(2, .int v19), (0, .ref (gad (xz x) 122))]) dX11_seenOf_79 rfl (by rw [ii_1]) (by decide) (fun _ => rfl) (fun v21 e22 => ?_)
        have h := bnd_e e22 h
        refine g_goto X (tgt := 49) dX11_seenOf_82 (by decide) ?_
        refine g_lv [2, 1, 0] rfl ?_
        exact hrec v19 v21 M h
      · have h := ite_f hb h
        refine g_iconst X (v := 1) dX11_seenOf_72 (by decide) ?_
        refine g_goto X (tgt := 77) dX11_seenOf_73 (by decide) ?_
        refine g_iadd X dX11_seenOf_77 ?_
        refine g_topi (fun v23 e24 => ?_)
        have h := bnd_e e24 h
        refine g_istore_n X (lv' := [(2, .int v23), (0, .ref (gad (xz x) 122)), (3, .int a16)]) dX11_seenOf_78 rfl (by decide) rfl ?_
        refine g_iinc X (j := 2) (w := a16 + (1 : Int32)) (lv' := [(2, .int v23), (0, .ref (gad (xz x) 122))]) dX11_seenOf_79 rfl (by rw [ii_1]) (by decide) (fun _ => rfl) (fun v25 e26 => ?_)
        have h := bnd_e e26 h
        refine g_goto X (tgt := 49) dX11_seenOf_82 (by decide) ?_
        refine g_lv [2, 1, 0] rfl ?_
        exact hrec v23 v25 M h
def f_X11_seenOf (F : Nat) (i0 : Int32) (M : GM) : Option (Int32 × GM) := bnd (sI M 122 0 (0 : Int32)) (fun M1 => if (f_X11_isPane i0 M1) = 0 then (bndO (f_X11_no F (1 : Int32) M1) (fun (v31, M32) => some (v31, M32))) else (bndO (f_X11_draw F ((-1) : Int32) M1) (fun M4 => grd (decide (960 ≤ gN 141)) (grd (decide (960 ≤ gN 161)) (bnd (sC M4 161 0 960 (fun j => gI M4 141 j)) (fun M7 => bndO (f_X11_draw F i0 M7) (fun M10 => bnd (0 : Int32) (fun v11 => bnd (0 : Int32) (fun v13 => bndO (lp_X11_seenOf_49 F  F v11 v13 M10) (fun (v27, M28) => some (v27, M28)))))))))))
set_option maxHeartbeats 4000000 in
set_option maxRecDepth 100000 in
theorem w_X11_seenOf {x : GX} (X : GC x cX11_seenOf 4 RX11 5) {i0 : Int32}  {F : Nat} {M : GM} {r9 : (Int32 × GM)} (hR : ∀ (v9 : Int32) (M9 : GM) (lv9 : List (Nat × Value)) (pc9 : Nat), r9 = (v9, M9) → decode cX11_seenOf pc9 = .ok (.ireturn, 1) → WG x M9 lv9 pc9 [.int v9]) (h : f_X11_seenOf F i0 M = some r9) : WG x M [(0, .ref (gad (xz x) 122)), (1, .int i0)] 0 [] := by
  unfold f_X11_seenOf at h
  refine g_aload_n X (j := 0) dX11_seenOf_0 rfl rfl ?_
  refine g_iconst X (v := 0) dX11_seenOf_1 (by decide) ?_
  refine gp_X11_114 X gT_c122 dX11_seenOf_2 ?_
  refine g_mem (fun M1 e2 => ?_)
  have h := bnd_e e2 h
  refine g_aload_n X (j := 0) dX11_seenOf_5 rfl rfl ?_
  refine g_iload_n X (j := 1) dX11_seenOf_6 rfl rfl ?_
  refine gc_X11_150 X gT_c122 (ct_X11_isPane X.htr ) (by decide) (Nat.le_of_ble_eq_true rfl) dX11_seenOf_7 ?_
  refine g_if_ne X (tgt := 19) dX11_seenOf_10 (by decide) (fun hb => ?_) (fun hb => ?_)
  · have h := ite_f hb h
    refine g_aload_n X (j := 0) dX11_seenOf_19 rfl rfl ?_
    refine g_iconst X (v := (-1)) dX11_seenOf_20 (by decide) ?_
    obtain ⟨M4, hc3, h⟩ := bndO_e h
    refine gc_X11_338 X gT_c122 (ct_X11_draw X.htr  hc3) (by decide) (Nat.le_of_ble_eq_true rfl) dX11_seenOf_21 ?_
    refine g_aload_n X (j := 0) dX11_seenOf_24 rfl rfl ?_
    refine gf_X11_65 X gT_c122 dX11_seenOf_25 ?_
    refine g_iconst X (v := 0) dX11_seenOf_28 (by decide) ?_
    refine g_aload_n X (j := 0) dX11_seenOf_29 rfl rfl ?_
    refine gf_X11_108 X gT_c122 dX11_seenOf_30 ?_
    refine g_iconst X (v := 0) dX11_seenOf_33 (by decide) ?_
    refine g_sipush X (v := 960) dX11_seenOf_34 (by decide) ?_
    obtain ⟨hg5, h⟩ := grd_e h
    obtain ⟨hg6, h⟩ := grd_e h
    refine gm_X11_190 X (by decide) (Nat.le_of_ble_eq_true rfl) gT_c141 gT_c161 (n := 960) (by decide) tn_960 (of_decide_eq_true hg5) (of_decide_eq_true hg6) dX11_seenOf_37 ?_
    refine g_mem (fun M7 e8 => ?_)
    have h := bnd_e e8 h
    refine g_aload_n X (j := 0) dX11_seenOf_40 rfl rfl ?_
    refine g_iload_n X (j := 1) dX11_seenOf_41 rfl rfl ?_
    obtain ⟨M10, hc9, h⟩ := bndO_e h
    refine gc_X11_338 X gT_c122 (ct_X11_draw X.htr  hc9) (by decide) (Nat.le_of_ble_eq_true rfl) dX11_seenOf_42 ?_
    refine g_iconst X (v := 0) dX11_seenOf_45 (by decide) ?_
    refine g_topi (fun v11 e12 => ?_)
    have h := bnd_e e12 h
    refine g_istore_n X (lv' := [(2, .int v11), (0, .ref (gad (xz x) 122)), (1, .int i0)]) dX11_seenOf_46 rfl (by decide) rfl ?_
    refine g_iconst X (v := 0) dX11_seenOf_47 (by decide) ?_
    refine g_topi (fun v13 e14 => ?_)
    have h := bnd_e e14 h
    refine g_istore_n X (lv' := [(3, .int v13), (2, .int v11), (0, .ref (gad (xz x) 122)), (1, .int i0)]) dX11_seenOf_48 rfl (by decide) rfl ?_
    refine g_lv [2, 1, 0] rfl ?_
    obtain ⟨⟨v27, M28⟩, hl29, h⟩ := bndO_e h
    refine lw_X11_seenOf_49 X  (fun v27_ M28_ e9 => ?_) F v11 v13 M10 hl29
    cases e9
    refine g_iload_n X (j := 0) dX11_seenOf_85 rfl rfl ?_
    exact hR v27 M28 _ _ (Option.some.inj h).symm dX11_seenOf_86
  · have h := ite_t hb h
    refine g_aload_n X (j := 0) dX11_seenOf_13 rfl rfl ?_
    refine g_iconst X (v := 1) dX11_seenOf_14 (by decide) ?_
    obtain ⟨⟨v31, M32⟩, hc30, h⟩ := bndO_e h
    refine gc_X11_139 X gT_c122 (ct_X11_no X.htr  hc30) (by decide) (Nat.le_of_ble_eq_true rfl) dX11_seenOf_15 ?_
    exact hR v31 M32 _ _ (Option.some.inj h).symm dX11_seenOf_18
theorem ct_X11_seenOf {l : Launch} {z : GZ} (htr : l.stackTraces = false) {i0 : Int32}  {M : GM} {F : Nat} {v : Int32} {M1 : GM} (h : f_X11_seenOf F i0 M = some (v, M1)) : gMet l z yX11_seenOf cX11_seenOf 4 (some .int) 5 [.ref (gad z 122), .int i0] M (some (.int v)) M1 := gMet_ofI (by decide +kernel) (Nat.le_of_ble_eq_true rfl) htr rfl (fun x X ez el hR => by subst ez; subst el; exact w_X11_seenOf X  (fun v9 M9 lv9 pc9 e9 d9 => by cases e9; exact hR lv9 pc9 d9) h)
theorem dX11_greatest_0 : decode cX11_greatest 0 = .ok (.aload_n 0, 1) := by decide +kernel
theorem dX11_greatest_1 : decode cX11_greatest 1 = .ok (.iconst 0, 1) := by decide +kernel
theorem dX11_greatest_2 : decode cX11_greatest 2 = .ok (.putfield 114, 3) := by decide +kernel
theorem dX11_greatest_5 : decode cX11_greatest 5 = .ok (.aload_n 0, 1) := by decide +kernel
theorem dX11_greatest_6 : decode cX11_greatest 6 = .ok (.iconst (-1), 1) := by decide +kernel
theorem dX11_greatest_7 : decode cX11_greatest 7 = .ok (.invokevirtual 338, 3) := by decide +kernel
theorem dX11_greatest_10 : decode cX11_greatest 10 = .ok (.iconst (-1), 1) := by decide +kernel
theorem dX11_greatest_11 : decode cX11_greatest 11 = .ok (.istore_n 1, 1) := by decide +kernel
theorem dX11_greatest_12 : decode cX11_greatest 12 = .ok (.iconst 0, 1) := by decide +kernel
theorem dX11_greatest_13 : decode cX11_greatest 13 = .ok (.istore_n 2, 1) := by decide +kernel
theorem dX11_greatest_14 : decode cX11_greatest 14 = .ok (.iconst 0, 1) := by decide +kernel
theorem dX11_greatest_15 : decode cX11_greatest 15 = .ok (.istore_n 3, 1) := by decide +kernel
theorem dX11_greatest_16 : decode cX11_greatest 16 = .ok (.iload_n 3, 1) := by decide +kernel
theorem dX11_greatest_17 : decode cX11_greatest 17 = .ok (.aload_n 0, 1) := by decide +kernel
theorem dX11_greatest_18 : decode cX11_greatest 18 = .ok (.getfield 125, 3) := by decide +kernel
theorem dX11_greatest_21 : decode cX11_greatest 21 = .ok (.if_icmp .ge 33, 3) := by decide +kernel
theorem dX11_greatest_24 : decode cX11_greatest 24 = .ok (.aload_n 0, 1) := by decide +kernel
theorem dX11_greatest_25 : decode cX11_greatest 25 = .ok (.getfield 71, 3) := by decide +kernel
theorem dX11_greatest_28 : decode cX11_greatest 28 = .ok (.iload_n 3, 1) := by decide +kernel
theorem dX11_greatest_29 : decode cX11_greatest 29 = .ok (.invokestatic 351, 3) := by decide +kernel
theorem dX11_greatest_32 : decode cX11_greatest 32 = .ok (.istore 4, 2) := by decide +kernel
theorem dX11_greatest_34 : decode cX11_greatest 34 = .ok (.iload 4, 2) := by decide +kernel
theorem dX11_greatest_36 : decode cX11_greatest 36 = .ok (.iload_n 2, 1) := by decide +kernel
theorem dX11_greatest_37 : decode cX11_greatest 37 = .ok (.if_icmp .gt 6, 3) := by decide +kernel
theorem dX11_greatest_40 : decode cX11_greatest 40 = .ok (.goto 8, 3) := by decide +kernel
theorem dX11_greatest_43 : decode cX11_greatest 43 = .ok (.iload_n 3, 1) := by decide +kernel
theorem dX11_greatest_44 : decode cX11_greatest 44 = .ok (.istore_n 1, 1) := by decide +kernel
theorem dX11_greatest_45 : decode cX11_greatest 45 = .ok (.iload 4, 2) := by decide +kernel
theorem dX11_greatest_47 : decode cX11_greatest 47 = .ok (.istore_n 2, 1) := by decide +kernel
theorem dX11_greatest_48 : decode cX11_greatest 48 = .ok (.iinc 3 1, 3) := by decide +kernel
theorem dX11_greatest_51 : decode cX11_greatest 51 = .ok (.goto (-35), 3) := by decide +kernel
theorem dX11_greatest_54 : decode cX11_greatest 54 = .ok (.iload_n 1, 1) := by decide +kernel
theorem dX11_greatest_55 : decode cX11_greatest 55 = .ok (.ireturn, 1) := by decide +kernel
def st_X11_greatest_16 (F : Nat)  (rec : Int32 → Int32 → Int32 → GM → Option (Int32 × GM)) (a11 : Int32) (a12 : Int32) (a13 : Int32) (M : GM) : Option (Int32 × GM) := if (gI M 122 2) ≤ a13 then (some (a11, M)) else (bndO (f_X11_count F 143 a13 M) (fun v15 => bnd v15 (fun v16 => if a12 < v16 then (bnd a13 (fun v18 => bnd v16 (fun v20 => bnd (a13 + (1 : Int32)) (fun v22 => rec v18 v20 v22 M)))) else (bnd (a13 + (1 : Int32)) (fun v24 => rec a11 a12 v24 M)))))
def lp_X11_greatest_16 (F : Nat)  : Nat → Int32 → Int32 → Int32 → GM → Option (Int32 × GM)
  | 0 => fun _ _ _ _ => none
  | f + 1 => fun a11 a12 a13 M => st_X11_greatest_16 F  (lp_X11_greatest_16 F  f) a11 a12 a13 M
set_option maxHeartbeats 4000000 in
set_option maxRecDepth 100000 in
theorem lw_X11_greatest_16 {x : GX} (X : GC x cX11_greatest 5 RX11 5)   {F : Nat} {r9 : (Int32 × GM)} (hE : ∀ (x1_9 : Int32) (M9 : GM), r9 = (x1_9, M9) → WG x M9 [(1, .int x1_9)] 54 []) : ∀ (f : Nat) (a11 : Int32) (a12 : Int32) (a13 : Int32) (M : GM), lp_X11_greatest_16 F  f a11 a12 a13 M = some r9 → WG x M [(0, .ref (gad (xz x) 122)), (1, .int a11), (2, .int a12), (3, .int a13)] 16 [] := by
  intro f
  induction f with
  | zero => intro a11 a12 a13 M h; cases h
  | succ f ih =>
    intro a11 a12 a13 M h
    have hrec := ih
    have h : st_X11_greatest_16 F  (lp_X11_greatest_16 F  f) a11 a12 a13 M = some r9 := h
    generalize lp_X11_greatest_16 F  f = rec at h hrec
    unfold st_X11_greatest_16 at h
    refine g_iload_n X (j := 3) dX11_greatest_16 rfl rfl ?_
    refine g_aload_n X (j := 0) dX11_greatest_17 rfl rfl ?_
    refine gf_X11_125 X gT_c122 dX11_greatest_18 ?_
    refine g_icmp_ge X (tgt := 54) dX11_greatest_21 (by decide) (fun hb => ?_) (fun hb => ?_)
    · have h := ite_t hb h
      refine g_lv [1] rfl ?_
      exact hE a11 M (Option.some.inj h).symm
    · have h := ite_f hb h
      refine g_aload_n X (j := 0) dX11_greatest_24 rfl rfl ?_
      refine gf_X11_71 X gT_c122 dX11_greatest_25 ?_
      refine g_iload_n X (j := 3) dX11_greatest_28 rfl rfl ?_
      obtain ⟨v15, hc14, h⟩ := bndO_e h
      refine gc_X11_351 X (ct_X11_count X.htr gT_c143 hc14) (by decide) (Nat.le_of_ble_eq_true rfl) dX11_greatest_29 ?_
      refine g_topi (fun v16 e17 => ?_)
      have h := bnd_e e17 h
      refine g_istore X (lv' := [(4, .int v16), (0, .ref (gad (xz x) 122)), (1, .int a11), (2, .int a12), (3, .int a13)]) dX11_greatest_32 (by decide) rfl ?_
      refine g_iload X (j := 0) dX11_greatest_34 rfl ?_
      refine g_iload_n X (j := 3) dX11_greatest_36 rfl rfl ?_
      refine g_icmp_gt X (tgt := 43) dX11_greatest_37 (by decide) (fun hb => ?_) (fun hb => ?_)
      · have h := ite_t hb h
        refine g_iload_n X (j := 4) dX11_greatest_43 rfl rfl ?_
        refine g_topi (fun v18 e19 => ?_)
        have h := bnd_e e19 h
        refine g_istore_n X (lv' := [(1, .int v18), (4, .int v16), (0, .ref (gad (xz x) 122)), (2, .int a12), (3, .int a13)]) dX11_greatest_44 rfl (by decide) rfl ?_
        refine g_iload X (j := 1) dX11_greatest_45 rfl ?_
        refine g_topi (fun v20 e21 => ?_)
        have h := bnd_e e21 h
        refine g_istore_n X (lv' := [(2, .int v20), (1, .int v18), (4, .int v16), (0, .ref (gad (xz x) 122)), (3, .int a13)]) dX11_greatest_47 rfl (by decide) rfl ?_
        refine g_iinc X (j := 4) (w := a13 + (1 : Int32)) (lv' := [(2, .int v20), (1, .int v18), (4, .int v16), (0, .ref (gad (xz x) 122))]) dX11_greatest_48 rfl (by rw [ii_1]) (by decide) (fun _ => rfl) (fun v22 e23 => ?_)
        have h := bnd_e e23 h
        refine g_goto X (tgt := 16) dX11_greatest_51 (by decide) ?_
        refine g_lv [4, 2, 1, 0] rfl ?_
        exact hrec v18 v20 v22 M h
      · have h := ite_f hb h
        refine g_goto X (tgt := 48) dX11_greatest_40 (by decide) ?_
        refine g_iinc X (j := 4) (w := a13 + (1 : Int32)) (lv' := [(4, .int v16), (0, .ref (gad (xz x) 122)), (1, .int a11), (2, .int a12)]) dX11_greatest_48 rfl (by rw [ii_1]) (by decide) (fun _ => rfl) (fun v24 e25 => ?_)
        have h := bnd_e e25 h
        refine g_goto X (tgt := 16) dX11_greatest_51 (by decide) ?_
        refine g_lv [2, 3, 4, 0] rfl ?_
        exact hrec a11 a12 v24 M h
def f_X11_greatest (F : Nat) (M : GM) : Option (Int32 × GM) := bnd (sI M 122 0 (0 : Int32)) (fun M1 => bndO (f_X11_draw F ((-1) : Int32) M1) (fun M4 => bnd ((-1) : Int32) (fun v5 => bnd (0 : Int32) (fun v7 => bnd (0 : Int32) (fun v9 => bndO (lp_X11_greatest_16 F  F v5 v7 v9 M4) (fun (v26, M27) => some (v26, M27)))))))
set_option maxHeartbeats 4000000 in
set_option maxRecDepth 100000 in
theorem w_X11_greatest {x : GX} (X : GC x cX11_greatest 5 RX11 5)   {F : Nat} {M : GM} {r9 : (Int32 × GM)} (hR : ∀ (v9 : Int32) (M9 : GM) (lv9 : List (Nat × Value)) (pc9 : Nat), r9 = (v9, M9) → decode cX11_greatest pc9 = .ok (.ireturn, 1) → WG x M9 lv9 pc9 [.int v9]) (h : f_X11_greatest F M = some r9) : WG x M [(0, .ref (gad (xz x) 122))] 0 [] := by
  unfold f_X11_greatest at h
  refine g_aload_n X (j := 0) dX11_greatest_0 rfl rfl ?_
  refine g_iconst X (v := 0) dX11_greatest_1 (by decide) ?_
  refine gp_X11_114 X gT_c122 dX11_greatest_2 ?_
  refine g_mem (fun M1 e2 => ?_)
  have h := bnd_e e2 h
  refine g_aload_n X (j := 0) dX11_greatest_5 rfl rfl ?_
  refine g_iconst X (v := (-1)) dX11_greatest_6 (by decide) ?_
  obtain ⟨M4, hc3, h⟩ := bndO_e h
  refine gc_X11_338 X gT_c122 (ct_X11_draw X.htr  hc3) (by decide) (Nat.le_of_ble_eq_true rfl) dX11_greatest_7 ?_
  refine g_iconst X (v := (-1)) dX11_greatest_10 (by decide) ?_
  refine g_topi (fun v5 e6 => ?_)
  have h := bnd_e e6 h
  refine g_istore_n X (lv' := [(1, .int v5), (0, .ref (gad (xz x) 122))]) dX11_greatest_11 rfl (by decide) rfl ?_
  refine g_iconst X (v := 0) dX11_greatest_12 (by decide) ?_
  refine g_topi (fun v7 e8 => ?_)
  have h := bnd_e e8 h
  refine g_istore_n X (lv' := [(2, .int v7), (1, .int v5), (0, .ref (gad (xz x) 122))]) dX11_greatest_13 rfl (by decide) rfl ?_
  refine g_iconst X (v := 0) dX11_greatest_14 (by decide) ?_
  refine g_topi (fun v9 e10 => ?_)
  have h := bnd_e e10 h
  refine g_istore_n X (lv' := [(3, .int v9), (2, .int v7), (1, .int v5), (0, .ref (gad (xz x) 122))]) dX11_greatest_15 rfl (by decide) rfl ?_
  refine g_lv [3, 2, 1, 0] rfl ?_
  obtain ⟨⟨v26, M27⟩, hl28, h⟩ := bndO_e h
  refine lw_X11_greatest_16 X  (fun v26_ M27_ e9 => ?_) F v5 v7 v9 M4 hl28
  cases e9
  refine g_iload_n X (j := 0) dX11_greatest_54 rfl rfl ?_
  exact hR v26 M27 _ _ (Option.some.inj h).symm dX11_greatest_55
theorem ct_X11_greatest {l : Launch} {z : GZ} (htr : l.stackTraces = false)   {M : GM} {F : Nat} {v : Int32} {M1 : GM} (h : f_X11_greatest F M = some (v, M1)) : gMet l z yX11_greatest cX11_greatest 5 (some .int) 5 [.ref (gad z 122)] M (some (.int v)) M1 := gMet_ofI (by decide +kernel) (Nat.le_of_ble_eq_true rfl) htr rfl (fun x X ez el hR => by subst ez; subst el; exact w_X11_greatest X  (fun v9 M9 lv9 pc9 e9 d9 => by cases e9; exact hR lv9 pc9 d9) h)
theorem dX11_glassAt_0 : decode cX11_glassAt 0 = .ok (.aload_n 0, 1) := by decide +kernel
theorem dX11_glassAt_1 : decode cX11_glassAt 1 = .ok (.iconst 0, 1) := by decide +kernel
theorem dX11_glassAt_2 : decode cX11_glassAt 2 = .ok (.putfield 114, 3) := by decide +kernel
theorem dX11_glassAt_5 : decode cX11_glassAt 5 = .ok (.iload_n 1, 1) := by decide +kernel
theorem dX11_glassAt_6 : decode cX11_glassAt 6 = .ok (.iload_n 2, 1) := by decide +kernel
theorem dX11_glassAt_7 : decode cX11_glassAt 7 = .ok (.invokestatic 332, 3) := by decide +kernel
theorem dX11_glassAt_10 : decode cX11_glassAt 10 = .ok (.ifCond .ne 9, 3) := by decide +kernel
theorem dX11_glassAt_13 : decode cX11_glassAt 13 = .ok (.aload_n 0, 1) := by decide +kernel
theorem dX11_glassAt_14 : decode cX11_glassAt 14 = .ok (.iconst 1, 1) := by decide +kernel
theorem dX11_glassAt_15 : decode cX11_glassAt 15 = .ok (.invokevirtual 139, 3) := by decide +kernel
theorem dX11_glassAt_18 : decode cX11_glassAt 18 = .ok (.ireturn, 1) := by decide +kernel
theorem dX11_glassAt_19 : decode cX11_glassAt 19 = .ok (.aload_n 0, 1) := by decide +kernel
theorem dX11_glassAt_20 : decode cX11_glassAt 20 = .ok (.iload_n 2, 1) := by decide +kernel
theorem dX11_glassAt_21 : decode cX11_glassAt 21 = .ok (.bipush 40, 2) := by decide +kernel
theorem dX11_glassAt_23 : decode cX11_glassAt 23 = .ok (.imul, 1) := by decide +kernel
theorem dX11_glassAt_24 : decode cX11_glassAt 24 = .ok (.iload_n 1, 1) := by decide +kernel
theorem dX11_glassAt_25 : decode cX11_glassAt 25 = .ok (.iadd, 1) := by decide +kernel
theorem dX11_glassAt_26 : decode cX11_glassAt 26 = .ok (.putfield 74, 3) := by decide +kernel
theorem dX11_glassAt_29 : decode cX11_glassAt 29 = .ok (.aload_n 0, 1) := by decide +kernel
theorem dX11_glassAt_30 : decode cX11_glassAt 30 = .ok (.iconst (-1), 1) := by decide +kernel
theorem dX11_glassAt_31 : decode cX11_glassAt 31 = .ok (.invokevirtual 338, 3) := by decide +kernel
theorem dX11_glassAt_34 : decode cX11_glassAt 34 = .ok (.aload_n 0, 1) := by decide +kernel
theorem dX11_glassAt_35 : decode cX11_glassAt 35 = .ok (.iconst (-1), 1) := by decide +kernel
theorem dX11_glassAt_36 : decode cX11_glassAt 36 = .ok (.putfield 74, 3) := by decide +kernel
theorem dX11_glassAt_39 : decode cX11_glassAt 39 = .ok (.aload_n 0, 1) := by decide +kernel
theorem dX11_glassAt_40 : decode cX11_glassAt 40 = .ok (.getfield 279, 3) := by decide +kernel
theorem dX11_glassAt_43 : decode cX11_glassAt 43 = .ok (.ireturn, 1) := by decide +kernel
def f_X11_glassAt (F : Nat) (i0 : Int32) (i1 : Int32) (M : GM) : Option (Int32 × GM) := bnd (sI M 122 0 (0 : Int32)) (fun M1 => if (f_X11_isPoint i0 i1) = 0 then (bndO (f_X11_no F (1 : Int32) M1) (fun (v10, M11) => some (v10, M11))) else (bnd (sI M1 122 25 ((i1 * (40 : Int32)) + i0)) (fun M3 => bndO (f_X11_draw F ((-1) : Int32) M3) (fun M6 => bnd (sI M6 122 25 ((-1) : Int32)) (fun M7 => some ((gI M7 122 24), M7))))))
set_option maxHeartbeats 4000000 in
set_option maxRecDepth 100000 in
theorem w_X11_glassAt {x : GX} (X : GC x cX11_glassAt 3 RX11 5) {i0 : Int32} {i1 : Int32}  {F : Nat} {M : GM} {r9 : (Int32 × GM)} (hR : ∀ (v9 : Int32) (M9 : GM) (lv9 : List (Nat × Value)) (pc9 : Nat), r9 = (v9, M9) → decode cX11_glassAt pc9 = .ok (.ireturn, 1) → WG x M9 lv9 pc9 [.int v9]) (h : f_X11_glassAt F i0 i1 M = some r9) : WG x M [(0, .ref (gad (xz x) 122)), (1, .int i0), (2, .int i1)] 0 [] := by
  unfold f_X11_glassAt at h
  refine g_aload_n X (j := 0) dX11_glassAt_0 rfl rfl ?_
  refine g_iconst X (v := 0) dX11_glassAt_1 (by decide) ?_
  refine gp_X11_114 X gT_c122 dX11_glassAt_2 ?_
  refine g_mem (fun M1 e2 => ?_)
  have h := bnd_e e2 h
  refine g_iload_n X (j := 1) dX11_glassAt_5 rfl rfl ?_
  refine g_iload_n X (j := 2) dX11_glassAt_6 rfl rfl ?_
  refine gc_X11_332 X (ct_X11_isPoint X.htr ) (by decide) (Nat.le_of_ble_eq_true rfl) dX11_glassAt_7 ?_
  refine g_if_ne X (tgt := 19) dX11_glassAt_10 (by decide) (fun hb => ?_) (fun hb => ?_)
  · have h := ite_f hb h
    refine g_aload_n X (j := 0) dX11_glassAt_19 rfl rfl ?_
    refine g_iload_n X (j := 2) dX11_glassAt_20 rfl rfl ?_
    refine g_bipush X (v := 40) dX11_glassAt_21 (by decide) ?_
    refine g_imul X dX11_glassAt_23 ?_
    refine g_iload_n X (j := 1) dX11_glassAt_24 rfl rfl ?_
    refine g_iadd X dX11_glassAt_25 ?_
    refine gp_X11_74 X gT_c122 dX11_glassAt_26 ?_
    refine g_mem (fun M3 e4 => ?_)
    have h := bnd_e e4 h
    refine g_aload_n X (j := 0) dX11_glassAt_29 rfl rfl ?_
    refine g_iconst X (v := (-1)) dX11_glassAt_30 (by decide) ?_
    obtain ⟨M6, hc5, h⟩ := bndO_e h
    refine gc_X11_338 X gT_c122 (ct_X11_draw X.htr  hc5) (by decide) (Nat.le_of_ble_eq_true rfl) dX11_glassAt_31 ?_
    refine g_aload_n X (j := 0) dX11_glassAt_34 rfl rfl ?_
    refine g_iconst X (v := (-1)) dX11_glassAt_35 (by decide) ?_
    refine gp_X11_74 X gT_c122 dX11_glassAt_36 ?_
    refine g_mem (fun M7 e8 => ?_)
    have h := bnd_e e8 h
    refine g_aload_n X (j := 0) dX11_glassAt_39 rfl rfl ?_
    refine gf_X11_279 X gT_c122 dX11_glassAt_40 ?_
    exact hR (gI M7 122 24) M7 _ _ (Option.some.inj h).symm dX11_glassAt_43
  · have h := ite_t hb h
    refine g_aload_n X (j := 0) dX11_glassAt_13 rfl rfl ?_
    refine g_iconst X (v := 1) dX11_glassAt_14 (by decide) ?_
    obtain ⟨⟨v10, M11⟩, hc9, h⟩ := bndO_e h
    refine gc_X11_139 X gT_c122 (ct_X11_no X.htr  hc9) (by decide) (Nat.le_of_ble_eq_true rfl) dX11_glassAt_15 ?_
    exact hR v10 M11 _ _ (Option.some.inj h).symm dX11_glassAt_18
theorem ct_X11_glassAt {l : Launch} {z : GZ} (htr : l.stackTraces = false) {i0 : Int32} {i1 : Int32}  {M : GM} {F : Nat} {v : Int32} {M1 : GM} (h : f_X11_glassAt F i0 i1 M = some (v, M1)) : gMet l z yX11_glassAt cX11_glassAt 3 (some .int) 5 [.ref (gad z 122), .int i0, .int i1] M (some (.int v)) M1 := gMet_ofI (by decide +kernel) (Nat.le_of_ble_eq_true rfl) htr rfl (fun x X ez el hR => by subst ez; subst el; exact w_X11_glassAt X  (fun v9 M9 lv9 pc9 e9 d9 => by cases e9; exact hR lv9 pc9 d9) h)
theorem dX11_brightness_0 : decode cX11_brightness 0 = .ok (.aload_n 0, 1) := by decide +kernel
theorem dX11_brightness_1 : decode cX11_brightness 1 = .ok (.iconst 0, 1) := by decide +kernel
theorem dX11_brightness_2 : decode cX11_brightness 2 = .ok (.putfield 114, 3) := by decide +kernel
theorem dX11_brightness_5 : decode cX11_brightness 5 = .ok (.iconst 0, 1) := by decide +kernel
theorem dX11_brightness_6 : decode cX11_brightness 6 = .ok (.istore_n 1, 1) := by decide +kernel
theorem dX11_brightness_7 : decode cX11_brightness 7 = .ok (.iconst 0, 1) := by decide +kernel
theorem dX11_brightness_8 : decode cX11_brightness 8 = .ok (.istore_n 2, 1) := by decide +kernel
theorem dX11_brightness_9 : decode cX11_brightness 9 = .ok (.iload_n 2, 1) := by decide +kernel
theorem dX11_brightness_10 : decode cX11_brightness 10 = .ok (.sipush 960, 3) := by decide +kernel
theorem dX11_brightness_13 : decode cX11_brightness 13 = .ok (.if_icmp .ge 41, 3) := by decide +kernel
theorem dX11_brightness_16 : decode cX11_brightness 16 = .ok (.iload_n 1, 1) := by decide +kernel
theorem dX11_brightness_17 : decode cX11_brightness 17 = .ok (.aload_n 0, 1) := by decide +kernel
theorem dX11_brightness_18 : decode cX11_brightness 18 = .ok (.getfield 56, 3) := by decide +kernel
theorem dX11_brightness_21 : decode cX11_brightness 21 = .ok (.iload_n 2, 1) := by decide +kernel
theorem dX11_brightness_22 : decode cX11_brightness 22 = .ok (.iaload, 1) := by decide +kernel
theorem dX11_brightness_23 : decode cX11_brightness 23 = .ok (.invokestatic 170, 3) := by decide +kernel
theorem dX11_brightness_26 : decode cX11_brightness 26 = .ok (.aload_n 0, 1) := by decide +kernel
theorem dX11_brightness_27 : decode cX11_brightness 27 = .ok (.getfield 56, 3) := by decide +kernel
theorem dX11_brightness_30 : decode cX11_brightness 30 = .ok (.iload_n 2, 1) := by decide +kernel
theorem dX11_brightness_31 : decode cX11_brightness 31 = .ok (.iaload, 1) := by decide +kernel
theorem dX11_brightness_32 : decode cX11_brightness 32 = .ok (.invokestatic 173, 3) := by decide +kernel
theorem dX11_brightness_35 : decode cX11_brightness 35 = .ok (.iadd, 1) := by decide +kernel
theorem dX11_brightness_36 : decode cX11_brightness 36 = .ok (.aload_n 0, 1) := by decide +kernel
theorem dX11_brightness_37 : decode cX11_brightness 37 = .ok (.getfield 56, 3) := by decide +kernel
theorem dX11_brightness_40 : decode cX11_brightness 40 = .ok (.iload_n 2, 1) := by decide +kernel
theorem dX11_brightness_41 : decode cX11_brightness 41 = .ok (.iaload, 1) := by decide +kernel
theorem dX11_brightness_42 : decode cX11_brightness 42 = .ok (.invokestatic 176, 3) := by decide +kernel
theorem dX11_brightness_45 : decode cX11_brightness 45 = .ok (.iadd, 1) := by decide +kernel
theorem dX11_brightness_46 : decode cX11_brightness 46 = .ok (.iadd, 1) := by decide +kernel
theorem dX11_brightness_47 : decode cX11_brightness 47 = .ok (.istore_n 1, 1) := by decide +kernel
theorem dX11_brightness_48 : decode cX11_brightness 48 = .ok (.iinc 2 1, 3) := by decide +kernel
theorem dX11_brightness_51 : decode cX11_brightness 51 = .ok (.goto (-42), 3) := by decide +kernel
theorem dX11_brightness_54 : decode cX11_brightness 54 = .ok (.iload_n 1, 1) := by decide +kernel
theorem dX11_brightness_55 : decode cX11_brightness 55 = .ok (.i2d, 1) := by decide +kernel
theorem dX11_brightness_56 : decode cX11_brightness 56 = .ok (.ldc2_w 357, 3) := by decide +kernel
theorem dX11_brightness_59 : decode cX11_brightness 59 = .ok (.ddiv, 1) := by decide +kernel
theorem dX11_brightness_60 : decode cX11_brightness 60 = .ok (.dreturn, 1) := by decide +kernel
def st_X11_brightness_9 (F : Nat)  (rec : Int32 → Int32 → GM → Option (Int32 × GM)) (a7 : Int32) (a8 : Int32) (M : GM) : Option (Int32 × GM) := if (960 : Int32) ≤ a8 then (some (a7, M)) else (grd (gIn a8 (gN 138)) (grd (gIn a8 (gN 138)) (grd (gIn a8 (gN 138)) (bnd (a7 + (((f_X11_red (gI M 138 a8.toNatClampNeg)) + (f_X11_green (gI M 138 a8.toNatClampNeg))) + (f_X11_blue (gI M 138 a8.toNatClampNeg)))) (fun v12 => bnd (a8 + (1 : Int32)) (fun v14 => rec v12 v14 M))))))
def lp_X11_brightness_9 (F : Nat)  : Nat → Int32 → Int32 → GM → Option (Int32 × GM)
  | 0 => fun _ _ _ => none
  | f + 1 => fun a7 a8 M => st_X11_brightness_9 F  (lp_X11_brightness_9 F  f) a7 a8 M
set_option maxHeartbeats 4000000 in
set_option maxRecDepth 100000 in
theorem lw_X11_brightness_9 {x : GX} (X : GC x cX11_brightness 3 RX11 1)   {F : Nat} {r9 : (Int32 × GM)} (hE : ∀ (x1_9 : Int32) (M9 : GM), r9 = (x1_9, M9) → WG x M9 [(1, .int x1_9)] 54 []) : ∀ (f : Nat) (a7 : Int32) (a8 : Int32) (M : GM), lp_X11_brightness_9 F  f a7 a8 M = some r9 → WG x M [(0, .ref (gad (xz x) 122)), (1, .int a7), (2, .int a8)] 9 [] := by
  intro f
  induction f with
  | zero => intro a7 a8 M h; cases h
  | succ f ih =>
    intro a7 a8 M h
    have hrec := ih
    have h : st_X11_brightness_9 F  (lp_X11_brightness_9 F  f) a7 a8 M = some r9 := h
    generalize lp_X11_brightness_9 F  f = rec at h hrec
    unfold st_X11_brightness_9 at h
    refine g_iload_n X (j := 2) dX11_brightness_9 rfl rfl ?_
    refine g_sipush X (v := 960) dX11_brightness_10 (by decide) ?_
    refine g_icmp_ge X (tgt := 54) dX11_brightness_13 (by decide) (fun hb => ?_) (fun hb => ?_)
    · have h := ite_t hb h
      refine g_lv [1] rfl ?_
      exact hE a7 M (Option.some.inj h).symm
    · have h := ite_f hb h
      refine g_iload_n X (j := 1) dX11_brightness_16 rfl rfl ?_
      refine g_aload_n X (j := 0) dX11_brightness_17 rfl rfl ?_
      refine gf_X11_56 X gT_c122 dX11_brightness_18 ?_
      refine g_iload_n X (j := 2) dX11_brightness_21 rfl rfl ?_
      obtain ⟨hg9, h⟩ := grd_e h
      refine g_iald X gT_c138 hg9 dX11_brightness_22 ?_
      refine gc_X11_170 X (ct_X11_red X.htr ) (by decide) (Nat.le_of_ble_eq_true rfl) dX11_brightness_23 ?_
      refine g_aload_n X (j := 0) dX11_brightness_26 rfl rfl ?_
      refine gf_X11_56 X gT_c122 dX11_brightness_27 ?_
      refine g_iload_n X (j := 2) dX11_brightness_30 rfl rfl ?_
      obtain ⟨hg10, h⟩ := grd_e h
      refine g_iald X gT_c138 hg10 dX11_brightness_31 ?_
      refine gc_X11_173 X (ct_X11_green X.htr ) (by decide) (Nat.le_of_ble_eq_true rfl) dX11_brightness_32 ?_
      refine g_iadd X dX11_brightness_35 ?_
      refine g_aload_n X (j := 0) dX11_brightness_36 rfl rfl ?_
      refine gf_X11_56 X gT_c122 dX11_brightness_37 ?_
      refine g_iload_n X (j := 2) dX11_brightness_40 rfl rfl ?_
      obtain ⟨hg11, h⟩ := grd_e h
      refine g_iald X gT_c138 hg11 dX11_brightness_41 ?_
      refine gc_X11_176 X (ct_X11_blue X.htr ) (by decide) (Nat.le_of_ble_eq_true rfl) dX11_brightness_42 ?_
      refine g_iadd X dX11_brightness_45 ?_
      refine g_iadd X dX11_brightness_46 ?_
      refine g_topi (fun v12 e13 => ?_)
      have h := bnd_e e13 h
      refine g_istore_n X (lv' := [(1, .int v12), (0, .ref (gad (xz x) 122)), (2, .int a8)]) dX11_brightness_47 rfl (by decide) rfl ?_
      refine g_iinc X (j := 2) (w := a8 + (1 : Int32)) (lv' := [(1, .int v12), (0, .ref (gad (xz x) 122))]) dX11_brightness_48 rfl (by rw [ii_1]) (by decide) (fun _ => rfl) (fun v14 e15 => ?_)
      have h := bnd_e e15 h
      refine g_goto X (tgt := 9) dX11_brightness_51 (by decide) ?_
      refine g_lv [2, 1, 0] rfl ?_
      exact hrec v12 v14 M h
def f_X11_brightness (F : Nat) (M : GM) : Option (UInt64 × GM) := bnd (sI M 122 0 (0 : Int32)) (fun M1 => bnd (0 : Int32) (fun v3 => bnd (0 : Int32) (fun v5 => bndO (lp_X11_brightness_9 F  F v3 v5 M1) (fun (v16, M17) => grd (gNum (FP.ddiv (FP.i2d v16) (4651655465120301056 : UInt64))) (some ((FP.ddiv (FP.i2d v16) (4651655465120301056 : UInt64)), M17))))))
set_option maxHeartbeats 4000000 in
set_option maxRecDepth 100000 in
theorem w_X11_brightness {x : GX} (X : GC x cX11_brightness 3 RX11 1)   {F : Nat} {M : GM} {r9 : (UInt64 × GM)} (hR : ∀ (v9 : UInt64) (M9 : GM) (lv9 : List (Nat × Value)) (pc9 : Nat), r9 = (v9, M9) → decode cX11_brightness pc9 = .ok (.dreturn, 1) → WG x M9 lv9 pc9 [.double v9]) (h : f_X11_brightness F M = some r9) : WG x M [(0, .ref (gad (xz x) 122))] 0 [] := by
  unfold f_X11_brightness at h
  refine g_aload_n X (j := 0) dX11_brightness_0 rfl rfl ?_
  refine g_iconst X (v := 0) dX11_brightness_1 (by decide) ?_
  refine gp_X11_114 X gT_c122 dX11_brightness_2 ?_
  refine g_mem (fun M1 e2 => ?_)
  have h := bnd_e e2 h
  refine g_iconst X (v := 0) dX11_brightness_5 (by decide) ?_
  refine g_topi (fun v3 e4 => ?_)
  have h := bnd_e e4 h
  refine g_istore_n X (lv' := [(1, .int v3), (0, .ref (gad (xz x) 122))]) dX11_brightness_6 rfl (by decide) rfl ?_
  refine g_iconst X (v := 0) dX11_brightness_7 (by decide) ?_
  refine g_topi (fun v5 e6 => ?_)
  have h := bnd_e e6 h
  refine g_istore_n X (lv' := [(2, .int v5), (1, .int v3), (0, .ref (gad (xz x) 122))]) dX11_brightness_8 rfl (by decide) rfl ?_
  refine g_lv [2, 1, 0] rfl ?_
  obtain ⟨⟨v16, M17⟩, hl18, h⟩ := bndO_e h
  refine lw_X11_brightness_9 X  (fun v16_ M17_ e9 => ?_) F v3 v5 M1 hl18
  cases e9
  refine g_iload_n X (j := 0) dX11_brightness_54 rfl rfl ?_
  refine g_i2d X dX11_brightness_55 ?_
  refine g_ldc2d X q_1542 dX11_brightness_56 ?_
  obtain ⟨hg19, h⟩ := grd_e h
  refine g_ddiv X dX11_brightness_59 (gNum_of hg19) ?_
  exact hR (FP.ddiv (FP.i2d v16) (4651655465120301056 : UInt64)) M17 _ _ (Option.some.inj h).symm dX11_brightness_60
theorem ct_X11_brightness {l : Launch} {z : GZ} (htr : l.stackTraces = false)   {M : GM} {F : Nat} {v : UInt64} {M1 : GM} (h : f_X11_brightness F M = some (v, M1)) : gMet l z yX11_brightness cX11_brightness 3 (some .double) 1 [.ref (gad z 122)] M (some (.double v)) M1 := gMet_ofD (by decide +kernel) (Nat.le_of_ble_eq_true rfl) htr (fun x X ez el hR => by subst ez; subst el; exact w_X11_brightness X  (fun v9 M9 lv9 pc9 e9 d9 => by cases e9; exact hR lv9 pc9 d9) h)
