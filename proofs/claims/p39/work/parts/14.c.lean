/-! 14.c -/
theorem gc_X8_55 {x : GX} {cc : ByteArray} {nL d pc : Nat} {M : GM} {lv : List (Nat × Value)} {st : List Value} (X : GC x cc nL RX8 d) {i0 : Int32} {i1 : Int32} {M1 : GM} {r : Int32} {g : Nat} (ht : gT g = 0) (hM : gMet (xl x) (xz x) yX0_spans cX0_spans 3 (some .boolean) 1 [.ref (gad (xz x) g), .int i0, .int i1] M (some (.int r)) M1) (hd : 2 ≤ d) (hsum : (st.map fun v => v.category).sum ≤ 8) (dec : decode cc pc = .ok (.invokevirtual 55, 3)) (go : WG x M1 lv (pc + 3) (.int r :: st)) : WG x M lv pc (.int i1 :: .int i0 :: .ref (gad (xz x) g) :: st) := g_callV X (n := 2) (As := [.int i0, .int i1]) (rest := st) hM ht (by decide) (gE_0 ht) rfl q_262 q_263 q_264 q_22 q_265 (by decide +kernel) rfl hd (by decide) rfl hsum dec go
theorem gc_X8_61 {x : GX} {cc : ByteArray} {nL d pc : Nat} {M : GM} {lv : List (Nat × Value)} {st : List Value} (X : GC x cc nL RX8 d) {i0 : Int32} {i1 : Int32} {M1 : GM} {r : Int32} {g : Nat} (ht : gT g = 6) (hM : gMet (xl x) (xz x) yX6_holds cX6_holds 5 (some .boolean) 1 [.ref (gad (xz x) g), .int i0, .int i1] M (some (.int r)) M1) (hd : 2 ≤ d) (hsum : (st.map fun v => v.category).sum ≤ 8) (dec : decode cc pc = .ok (.invokevirtual 61, 3)) (go : WG x M1 lv (pc + 3) (.int r :: st)) : WG x M lv pc (.int i1 :: .int i0 :: .ref (gad (xz x) g) :: st) := g_callV X (n := 2) (As := [.int i0, .int i1]) (rest := st) hM ht (by decide) (gE_6 ht) rfl q_267 q_268 q_269 q_21 q_270 (by decide +kernel) rfl hd (by decide) rfl hsum dec go
theorem dX8_firstPieceAt_0 : decode cX8_firstPieceAt 0 = .ok (.iconst 0, 1) := by decide +kernel
theorem dX8_firstPieceAt_1 : decode cX8_firstPieceAt 1 = .ok (.istore_n 3, 1) := by decide +kernel
theorem dX8_firstPieceAt_2 : decode cX8_firstPieceAt 2 = .ok (.iload_n 3, 1) := by decide +kernel
theorem dX8_firstPieceAt_3 : decode cX8_firstPieceAt 3 = .ok (.aload_n 0, 1) := by decide +kernel
theorem dX8_firstPieceAt_4 : decode cX8_firstPieceAt 4 = .ok (.getfield 24, 3) := by decide +kernel
theorem dX8_firstPieceAt_7 : decode cX8_firstPieceAt 7 = .ok (.arraylength, 1) := by decide +kernel
theorem dX8_firstPieceAt_8 : decode cX8_firstPieceAt 8 = .ok (.if_icmp .ge 50, 3) := by decide +kernel
theorem dX8_firstPieceAt_11 : decode cX8_firstPieceAt 11 = .ok (.aload_n 0, 1) := by decide +kernel
theorem dX8_firstPieceAt_12 : decode cX8_firstPieceAt 12 = .ok (.getfield 24, 3) := by decide +kernel
theorem dX8_firstPieceAt_15 : decode cX8_firstPieceAt 15 = .ok (.iload_n 3, 1) := by decide +kernel
theorem dX8_firstPieceAt_16 : decode cX8_firstPieceAt 16 = .ok (.aaload, 1) := by decide +kernel
theorem dX8_firstPieceAt_17 : decode cX8_firstPieceAt 17 = .ok (.astore 4, 2) := by decide +kernel
theorem dX8_firstPieceAt_19 : decode cX8_firstPieceAt 19 = .ok (.aload 4, 2) := by decide +kernel
theorem dX8_firstPieceAt_21 : decode cX8_firstPieceAt 21 = .ok (.getfield 43, 3) := by decide +kernel
theorem dX8_firstPieceAt_24 : decode cX8_firstPieceAt 24 = .ok (.ifCond .eq 28, 3) := by decide +kernel
theorem dX8_firstPieceAt_27 : decode cX8_firstPieceAt 27 = .ok (.aload 4, 2) := by decide +kernel
theorem dX8_firstPieceAt_29 : decode cX8_firstPieceAt 29 = .ok (.getfield 51, 3) := by decide +kernel
theorem dX8_firstPieceAt_32 : decode cX8_firstPieceAt 32 = .ok (.iload_n 1, 1) := by decide +kernel
theorem dX8_firstPieceAt_33 : decode cX8_firstPieceAt 33 = .ok (.iload_n 2, 1) := by decide +kernel
theorem dX8_firstPieceAt_34 : decode cX8_firstPieceAt 34 = .ok (.invokevirtual 55, 3) := by decide +kernel
theorem dX8_firstPieceAt_37 : decode cX8_firstPieceAt 37 = .ok (.ifCond .eq 15, 3) := by decide +kernel
theorem dX8_firstPieceAt_40 : decode cX8_firstPieceAt 40 = .ok (.aload 4, 2) := by decide +kernel
theorem dX8_firstPieceAt_42 : decode cX8_firstPieceAt 42 = .ok (.iload_n 1, 1) := by decide +kernel
theorem dX8_firstPieceAt_43 : decode cX8_firstPieceAt 43 = .ok (.iload_n 2, 1) := by decide +kernel
theorem dX8_firstPieceAt_44 : decode cX8_firstPieceAt 44 = .ok (.invokevirtual 61, 3) := by decide +kernel
theorem dX8_firstPieceAt_47 : decode cX8_firstPieceAt 47 = .ok (.ifCond .eq 5, 3) := by decide +kernel
theorem dX8_firstPieceAt_50 : decode cX8_firstPieceAt 50 = .ok (.iload_n 3, 1) := by decide +kernel
theorem dX8_firstPieceAt_51 : decode cX8_firstPieceAt 51 = .ok (.ireturn, 1) := by decide +kernel
theorem dX8_firstPieceAt_52 : decode cX8_firstPieceAt 52 = .ok (.iinc 3 1, 3) := by decide +kernel
theorem dX8_firstPieceAt_55 : decode cX8_firstPieceAt 55 = .ok (.goto (-53), 3) := by decide +kernel
theorem dX8_firstPieceAt_58 : decode cX8_firstPieceAt 58 = .ok (.iconst (-1), 1) := by decide +kernel
theorem dX8_firstPieceAt_59 : decode cX8_firstPieceAt 59 = .ok (.ireturn, 1) := by decide +kernel
def st_X8_firstPieceAt_2 (F : Nat) (a3 : Int32) (a4 : Int32) (rec : Int32 → GM → Option (GM ⊕ (Int32 × GM))) (a5 : Int32) (M : GM) : Option (GM ⊕ (Int32 × GM)) := if (2 : Int32) ≤ a5 then (some (Sum.inl M)) else (grd (gIn a5 (gN 16)) (bnd (gR 16 a5.toNatClampNeg) (fun o7 => if (gI M o7 5) = 0 then (bnd (a5 + (1 : Int32)) (fun v10 => rec v10 M)) else (if (f_X0_spans (o7 + 1) a3 a4 M) = 0 then (bnd (a5 + (1 : Int32)) (fun v12 => rec v12 M)) else (bndO (f_X6_holds F o7 a3 a4 M) (fun (v15, M16) => if v15 = 0 then (bnd (a5 + (1 : Int32)) (fun v17 => rec v17 M16)) else (some (Sum.inr (a5, M16)))))))))
def lp_X8_firstPieceAt_2 (F : Nat) (a3 : Int32) (a4 : Int32) : Nat → Int32 → GM → Option (GM ⊕ (Int32 × GM))
  | 0 => fun _ _ => none
  | f + 1 => fun a5 M => st_X8_firstPieceAt_2 F a3 a4 (lp_X8_firstPieceAt_2 F a3 a4 f) a5 M
set_option maxHeartbeats 4000000 in
set_option maxRecDepth 100000 in
theorem lw_X8_firstPieceAt_2 {x : GX} (X : GC x cX8_firstPieceAt 5 RX8 2) {a3 : Int32} {a4 : Int32}  {F : Nat} {r9 : (GM ⊕ (Int32 × GM))} (hR : ∀ (v9 : Int32) (M9 : GM) (lv9 : List (Nat × Value)) (pc9 : Nat), r9 = Sum.inr (v9, M9) → decode cX8_firstPieceAt pc9 = .ok (.ireturn, 1) → WG x M9 lv9 pc9 [.int v9]) (hE : ∀  (M9 : GM), r9 = Sum.inl M9 → WG x M9 [] 58 []) : ∀ (f : Nat) (a5 : Int32) (M : GM), lp_X8_firstPieceAt_2 F a3 a4 f a5 M = some r9 → WG x M [(0, .ref (gad (xz x) 6)), (1, .int a3), (2, .int a4), (3, .int a5)] 2 [] := by
  intro f
  induction f with
  | zero => intro a5 M h; cases h
  | succ f ih =>
    intro a5 M h
    have hrec := ih
    have h : st_X8_firstPieceAt_2 F a3 a4 (lp_X8_firstPieceAt_2 F a3 a4 f) a5 M = some r9 := h
    generalize lp_X8_firstPieceAt_2 F a3 a4 f = rec at h hrec
    unfold st_X8_firstPieceAt_2 at h
    refine g_iload_n X (j := 3) dX8_firstPieceAt_2 rfl rfl ?_
    refine g_aload_n X (j := 0) dX8_firstPieceAt_3 rfl rfl ?_
    refine gf_X8_24 X gT_c6 dX8_firstPieceAt_4 ?_
    refine g_alen_27 X gT_c16 dX8_firstPieceAt_7 ?_
    rw [show Int32.ofNat (gN 16) = 2 by decide +kernel]
    refine g_icmp_ge X (tgt := 58) dX8_firstPieceAt_8 (by decide) (fun hb => ?_) (fun hb => ?_)
    · have h := ite_t hb h
      refine g_lv [] rfl ?_
      exact hE M (Option.some.inj h).symm
    · have h := ite_f hb h
      refine g_aload_n X (j := 0) dX8_firstPieceAt_11 rfl rfl ?_
      refine gf_X8_24 X gT_c6 dX8_firstPieceAt_12 ?_
      refine g_iload_n X (j := 3) dX8_firstPieceAt_15 rfl rfl ?_
      obtain ⟨hg6, h⟩ := grd_e h
      refine g_aald_27 X gT_c16 hg6 dX8_firstPieceAt_16 ?_
      refine g_topr (fun o7 e8 => ?_)
      have h := bnd_e e8 h
      have k9 : gT o7 = 6 := by rw [e8]; exact gR_27 gT_c16 (gIn_lt hg6)
      refine g_astore X (lv' := [(4, .ref (gad (xz x) o7)), (0, .ref (gad (xz x) 6)), (1, .int a3), (2, .int a4), (3, .int a5)]) dX8_firstPieceAt_17 (by decide) rfl ?_
      refine g_aload X (j := 0) dX8_firstPieceAt_19 rfl ?_
      refine gf_X8_43 X k9 dX8_firstPieceAt_21 ?_
      refine g_if_eq X (tgt := 52) dX8_firstPieceAt_24 (by decide) (fun hb => ?_) (fun hb => ?_)
      · have h := ite_t hb h
        refine g_iinc X (j := 4) (w := a5 + (1 : Int32)) (lv' := [(4, .ref (gad (xz x) o7)), (0, .ref (gad (xz x) 6)), (1, .int a3), (2, .int a4)]) dX8_firstPieceAt_52 rfl (by rw [ii_1]) (by decide) (fun _ => rfl) (fun v10 e11 => ?_)
        have h := bnd_e e11 h
        refine g_goto X (tgt := 2) dX8_firstPieceAt_55 (by decide) ?_
        refine g_lv [2, 3, 4, 0] rfl ?_
        exact hrec v10 M h
      · have h := ite_f hb h
        refine g_aload X (j := 0) dX8_firstPieceAt_27 rfl ?_
        refine gf_X8_51 X k9 dX8_firstPieceAt_29 ?_
        refine g_iload_n X (j := 2) dX8_firstPieceAt_32 rfl rfl ?_
        refine g_iload_n X (j := 3) dX8_firstPieceAt_33 rfl rfl ?_
        refine gc_X8_55 X (gT_6_box k9) (ct_X0_spans X.htr (gT_6_box k9)) (by decide) (Nat.le_of_ble_eq_true rfl) dX8_firstPieceAt_34 ?_
        refine g_if_eq X (tgt := 52) dX8_firstPieceAt_37 (by decide) (fun hb => ?_) (fun hb => ?_)
        · have h := ite_t hb h
          refine g_iinc X (j := 4) (w := a5 + (1 : Int32)) (lv' := [(4, .ref (gad (xz x) o7)), (0, .ref (gad (xz x) 6)), (1, .int a3), (2, .int a4)]) dX8_firstPieceAt_52 rfl (by rw [ii_1]) (by decide) (fun _ => rfl) (fun v12 e13 => ?_)
          have h := bnd_e e13 h
          refine g_goto X (tgt := 2) dX8_firstPieceAt_55 (by decide) ?_
          refine g_lv [2, 3, 4, 0] rfl ?_
          exact hrec v12 M h
        · have h := ite_f hb h
          refine g_aload X (j := 0) dX8_firstPieceAt_40 rfl ?_
          refine g_iload_n X (j := 2) dX8_firstPieceAt_42 rfl rfl ?_
          refine g_iload_n X (j := 3) dX8_firstPieceAt_43 rfl rfl ?_
          obtain ⟨⟨v15, M16⟩, hc14, h⟩ := bndO_e h
          refine gc_X8_61 X k9 (ct_X6_holds X.htr k9 hc14) (by decide) (Nat.le_of_ble_eq_true rfl) dX8_firstPieceAt_44 ?_
          refine g_if_eq X (tgt := 52) dX8_firstPieceAt_47 (by decide) (fun hb => ?_) (fun hb => ?_)
          · have h := ite_t hb h
            refine g_iinc X (j := 4) (w := a5 + (1 : Int32)) (lv' := [(4, .ref (gad (xz x) o7)), (0, .ref (gad (xz x) 6)), (1, .int a3), (2, .int a4)]) dX8_firstPieceAt_52 rfl (by rw [ii_1]) (by decide) (fun _ => rfl) (fun v17 e18 => ?_)
            have h := bnd_e e18 h
            refine g_goto X (tgt := 2) dX8_firstPieceAt_55 (by decide) ?_
            refine g_lv [2, 3, 4, 0] rfl ?_
            exact hrec v17 M16 h
          · have h := ite_f hb h
            refine g_iload_n X (j := 4) dX8_firstPieceAt_50 rfl rfl ?_
            exact hR a5 M16 _ _ (Option.some.inj h).symm dX8_firstPieceAt_51
def f_X8_firstPieceAt (F : Nat) (i0 : Int32) (i1 : Int32) (M : GM) : Option (Int32 × GM) := bnd (0 : Int32) (fun v1 => bndT (lp_X8_firstPieceAt_2 F i0 i1 F v1 M) (fun M19 => some (((-1) : Int32), M19)) (fun r21 => some r21))
set_option maxHeartbeats 4000000 in
set_option maxRecDepth 100000 in
theorem w_X8_firstPieceAt {x : GX} (X : GC x cX8_firstPieceAt 5 RX8 2) {i0 : Int32} {i1 : Int32}  {F : Nat} {M : GM} {r9 : (Int32 × GM)} (hR : ∀ (v9 : Int32) (M9 : GM) (lv9 : List (Nat × Value)) (pc9 : Nat), r9 = (v9, M9) → decode cX8_firstPieceAt pc9 = .ok (.ireturn, 1) → WG x M9 lv9 pc9 [.int v9]) (h : f_X8_firstPieceAt F i0 i1 M = some r9) : WG x M [(0, .ref (gad (xz x) 6)), (1, .int i0), (2, .int i1)] 0 [] := by
  unfold f_X8_firstPieceAt at h
  refine g_iconst X (v := 0) dX8_firstPieceAt_0 (by decide) ?_
  refine g_topi (fun v1 e2 => ?_)
  have h := bnd_e e2 h
  refine g_istore_n X (lv' := [(3, .int v1), (0, .ref (gad (xz x) 6)), (1, .int i0), (2, .int i1)]) dX8_firstPieceAt_1 rfl (by decide) rfl ?_
  refine g_lv [1, 2, 3, 0] rfl ?_
  rcases bndT_e h with ⟨M19, hl20, h⟩ | ⟨r21, hl20, h⟩
  · refine lw_X8_firstPieceAt_2 X  (by intros; rename_i e9 _ ; cases e9) (fun M19_  e9 => ?_) F v1 M hl20
    cases e9
    refine g_iconst X (v := (-1)) dX8_firstPieceAt_58 (by decide) ?_
    exact hR ((-1) : Int32) M19 _ _ (Option.some.inj h).symm dX8_firstPieceAt_59
  · exact lw_X8_firstPieceAt_2 X  (fun v9 M9 lv9 pc9 e9 d9 => by cases e9; exact hR _ _ lv9 pc9 (Option.some.inj h).symm d9) (by intros; rename_i e9; cases e9) F v1 M hl20
theorem ct_X8_firstPieceAt {l : Launch} {z : GZ} (htr : l.stackTraces = false) {i0 : Int32} {i1 : Int32}  {M : GM} {F : Nat} {v : Int32} {M1 : GM} (h : f_X8_firstPieceAt F i0 i1 M = some (v, M1)) : gMet l z yX8_firstPieceAt cX8_firstPieceAt 5 (some .int) 2 [.ref (gad z 6), .int i0, .int i1] M (some (.int v)) M1 := gMet_ofI (by decide +kernel) (Nat.le_of_ble_eq_true rfl) htr rfl (fun x X ez el hR => by subst ez; subst el; exact w_X8_firstPieceAt X  (fun v9 M9 lv9 pc9 e9 d9 => by cases e9; exact hR lv9 pc9 d9) h)
theorem gc_X10_86 {x : GX} {cc : ByteArray} {nL d pc : Nat} {M : GM} {lv : List (Nat × Value)} {st : List Value} (X : GC x cc nL RX10 d) {i0 : Int32} {i1 : Int32} {i2 : Int32} {M1 : GM} {r : Int32} (hM : gMet (xl x) (xz x) yX10_isWithin cX10_isWithin 3 (some .boolean) 0 [.int i0, .int i1, .int i2] M (some (.int r)) M1) (hd : 1 ≤ d) (hsum : (st.map fun v => v.category).sum ≤ 8) (dec : decode cc pc = .ok (.invokestatic 86, 3)) (go : WG x M1 lv (pc + 3) (.int r :: st)) : WG x M lv pc (.int i2 :: .int i1 :: .int i0 :: st) := g_callS X (n := 3) (As := [.int i0, .int i1, .int i2]) (rest := st) hM q_46 q_47 q_17 q_48 (by decide +kernel) rfl hd (by decide) rfl hsum dec go
theorem dX10_requirePlace_0 : decode cX10_requirePlace 0 = .ok (.iload_n 0, 1) := by decide +kernel
theorem dX10_requirePlace_1 : decode cX10_requirePlace 1 = .ok (.sipush (-2000), 3) := by decide +kernel
theorem dX10_requirePlace_4 : decode cX10_requirePlace 4 = .ok (.sipush 2000, 3) := by decide +kernel
theorem dX10_requirePlace_7 : decode cX10_requirePlace 7 = .ok (.invokestatic 86, 3) := by decide +kernel
theorem dX10_requirePlace_10 : decode cX10_requirePlace 10 = .ok (.ifCond .eq 29, 3) := by decide +kernel
theorem dX10_requirePlace_13 : decode cX10_requirePlace 13 = .ok (.iload_n 1, 1) := by decide +kernel
theorem dX10_requirePlace_14 : decode cX10_requirePlace 14 = .ok (.sipush (-2000), 3) := by decide +kernel
theorem dX10_requirePlace_17 : decode cX10_requirePlace 17 = .ok (.sipush 2000, 3) := by decide +kernel
theorem dX10_requirePlace_20 : decode cX10_requirePlace 20 = .ok (.invokestatic 86, 3) := by decide +kernel
theorem dX10_requirePlace_23 : decode cX10_requirePlace 23 = .ok (.ifCond .eq 16, 3) := by decide +kernel
theorem dX10_requirePlace_26 : decode cX10_requirePlace 26 = .ok (.iload_n 2, 1) := by decide +kernel
theorem dX10_requirePlace_27 : decode cX10_requirePlace 27 = .ok (.sipush (-2000), 3) := by decide +kernel
theorem dX10_requirePlace_30 : decode cX10_requirePlace 30 = .ok (.sipush 2000, 3) := by decide +kernel
theorem dX10_requirePlace_33 : decode cX10_requirePlace 33 = .ok (.invokestatic 86, 3) := by decide +kernel
theorem dX10_requirePlace_36 : decode cX10_requirePlace 36 = .ok (.ifCond .ne 14, 3) := by decide +kernel
theorem dX10_requirePlace_39 : decode cX10_requirePlace 39 = .ok (.new 90, 3) := by decide +kernel
theorem dX10_requirePlace_42 : decode cX10_requirePlace 42 = .ok (.dup, 1) := by decide +kernel
theorem dX10_requirePlace_43 : decode cX10_requirePlace 43 = .ok (.ldc_w 405, 3) := by decide +kernel
theorem dX10_requirePlace_46 : decode cX10_requirePlace 46 = .ok (.invokespecial 94, 3) := by decide +kernel
theorem dX10_requirePlace_49 : decode cX10_requirePlace 49 = .ok (.athrow, 1) := by decide +kernel
theorem dX10_requirePlace_50 : decode cX10_requirePlace 50 = .ok (.return_, 1) := by decide +kernel
def bk_X10_requirePlace_39 (F : Nat) (M : GM) : Option (Nat ⊕ Unit) := some (Sum.inl 1)
set_option maxHeartbeats 4000000 in
set_option maxRecDepth 100000 in
theorem bw_X10_requirePlace_39 {x : GX} (X : GC x cX10_requirePlace 3 RX10 6)    {F : Nat} {M : GM} {r9 : (Nat ⊕ Unit)} (hR : ∀ (lv9 : List (Nat × Value)) (pc9 : Nat), r9 = Sum.inr () → decode cX10_requirePlace pc9 = .ok (.return_, 1) → WG x M lv9 pc9 []) (hX : ∀ (n9 : Nat), r9 = Sum.inl n9 → GThr x n9 M) (h : bk_X10_requirePlace_39 F M = some r9) : WG x M [] 39 [] := by
  unfold bk_X10_requirePlace_39 at h
  exact gthr_1 X (by decide) (List.mem_of_getElem? (i := 1) rfl) (Nat.le_of_ble_eq_true rfl) dX10_requirePlace_39 dX10_requirePlace_42 (Or.inr ⟨dX10_requirePlace_43, dX10_requirePlace_46, dX10_requirePlace_49⟩) (hX 1 (Option.some.inj h).symm)
def f_X10_requirePlace (F : Nat) (i0 : Int32) (i1 : Int32) (i2 : Int32) (M : GM) : Option (Nat ⊕ Unit) := if (f_X10_isWithin i0 ((-2000) : Int32) (2000 : Int32)) = 0 then (bk_X10_requirePlace_39 F M) else (if (f_X10_isWithin i1 ((-2000) : Int32) (2000 : Int32)) = 0 then (bk_X10_requirePlace_39 F M) else (if (f_X10_isWithin i2 ((-2000) : Int32) (2000 : Int32)) = 0 then (bk_X10_requirePlace_39 F M) else (some (Sum.inr ()))))
set_option maxHeartbeats 4000000 in
set_option maxRecDepth 100000 in
theorem w_X10_requirePlace {x : GX} (X : GC x cX10_requirePlace 3 RX10 6) {i0 : Int32} {i1 : Int32} {i2 : Int32}  {F : Nat} {M : GM} {r9 : (Nat ⊕ Unit)} (hR : ∀ (lv9 : List (Nat × Value)) (pc9 : Nat), r9 = Sum.inr () → decode cX10_requirePlace pc9 = .ok (.return_, 1) → WG x M lv9 pc9 []) (hX : ∀ (n9 : Nat), r9 = Sum.inl n9 → GThr x n9 M) (h : f_X10_requirePlace F i0 i1 i2 M = some r9) : WG x M [(0, .int i0), (1, .int i1), (2, .int i2)] 0 [] := by
  unfold f_X10_requirePlace at h
  refine g_iload_n X (j := 0) dX10_requirePlace_0 rfl rfl ?_
  refine g_sipush X (v := (-2000)) dX10_requirePlace_1 (by decide) ?_
  refine g_sipush X (v := 2000) dX10_requirePlace_4 (by decide) ?_
  refine gc_X10_86 X (ct_X10_isWithin X.htr ) (by decide) (Nat.le_of_ble_eq_true rfl) dX10_requirePlace_7 ?_
  refine g_if_eq X (tgt := 39) dX10_requirePlace_10 (by decide) (fun hb => ?_) (fun hb => ?_)
  · have h := ite_t hb h
    refine g_lv [] rfl ?_
    exact bw_X10_requirePlace_39 X  hR hX h
  · have h := ite_f hb h
    refine g_iload_n X (j := 1) dX10_requirePlace_13 rfl rfl ?_
    refine g_sipush X (v := (-2000)) dX10_requirePlace_14 (by decide) ?_
    refine g_sipush X (v := 2000) dX10_requirePlace_17 (by decide) ?_
    refine gc_X10_86 X (ct_X10_isWithin X.htr ) (by decide) (Nat.le_of_ble_eq_true rfl) dX10_requirePlace_20 ?_
    refine g_if_eq X (tgt := 39) dX10_requirePlace_23 (by decide) (fun hb => ?_) (fun hb => ?_)
    · have h := ite_t hb h
      refine g_lv [] rfl ?_
      exact bw_X10_requirePlace_39 X  hR hX h
    · have h := ite_f hb h
      refine g_iload_n X (j := 2) dX10_requirePlace_26 rfl rfl ?_
      refine g_sipush X (v := (-2000)) dX10_requirePlace_27 (by decide) ?_
      refine g_sipush X (v := 2000) dX10_requirePlace_30 (by decide) ?_
      refine gc_X10_86 X (ct_X10_isWithin X.htr ) (by decide) (Nat.le_of_ble_eq_true rfl) dX10_requirePlace_33 ?_
      refine g_if_ne X (tgt := 50) dX10_requirePlace_36 (by decide) (fun hb => ?_) (fun hb => ?_)
      · have h := ite_f hb h
        exact hR  _ _ (Option.some.inj h).symm dX10_requirePlace_50
      · have h := ite_t hb h
        refine g_lv [] rfl ?_
        exact bw_X10_requirePlace_39 X  hR hX h
theorem ct_X10_requirePlace {l : Launch} {z : GZ} (htr : l.stackTraces = false) {i0 : Int32} {i1 : Int32} {i2 : Int32}  {M : GM} {F : Nat} (h : f_X10_requirePlace F i0 i1 i2 M = some (Sum.inr ())) : gMet l z yX10_requirePlace cX10_requirePlace 3 none 6 [.int i0, .int i1, .int i2] M (none) M := gMet_ofV (by decide +kernel) (Nat.le_of_ble_eq_true rfl) htr (fun x X ez el hR => by subst ez; subst el; exact w_X10_requirePlace X  (fun  lv9 pc9 e9 d9 => by cases e9; exact hR lv9 pc9 d9) (by intros; rename_i e9; cases e9) h)
theorem cx_X10_requirePlace {l : Launch} {z : GZ} (htr : l.stackTraces = false) {i0 : Int32} {i1 : Int32} {i2 : Int32}  {M : GM} {F n : Nat} (h : f_X10_requirePlace F i0 i1 i2 M = some (Sum.inl n)) : gMetX l z yX10_requirePlace cX10_requirePlace 3 none 6 [.int i0, .int i1, .int i2] M n M := gMetX_of (by decide +kernel) (Nat.le_of_ble_eq_true rfl) htr (fun x X ez el hT => by subst ez; subst el; exact w_X10_requirePlace X  (by intros; rename_i e9 _; cases e9) (fun n9 e9 => by cases e9; exact hT) h)
theorem dX10_requireColour_0 : decode cX10_requireColour 0 = .ok (.iload_n 0, 1) := by decide +kernel
theorem dX10_requireColour_1 : decode cX10_requireColour 1 = .ok (.iconst 0, 1) := by decide +kernel
theorem dX10_requireColour_2 : decode cX10_requireColour 2 = .ok (.ldc_w 407, 3) := by decide +kernel
theorem dX10_requireColour_5 : decode cX10_requireColour 5 = .ok (.invokestatic 86, 3) := by decide +kernel
theorem dX10_requireColour_8 : decode cX10_requireColour 8 = .ok (.ifCond .ne 14, 3) := by decide +kernel
theorem dX10_requireColour_11 : decode cX10_requireColour 11 = .ok (.new 90, 3) := by decide +kernel
theorem dX10_requireColour_14 : decode cX10_requireColour 14 = .ok (.dup, 1) := by decide +kernel
theorem dX10_requireColour_15 : decode cX10_requireColour 15 = .ok (.ldc_w 408, 3) := by decide +kernel
theorem dX10_requireColour_18 : decode cX10_requireColour 18 = .ok (.invokespecial 94, 3) := by decide +kernel
theorem dX10_requireColour_21 : decode cX10_requireColour 21 = .ok (.athrow, 1) := by decide +kernel
theorem dX10_requireColour_22 : decode cX10_requireColour 22 = .ok (.return_, 1) := by decide +kernel
def f_X10_requireColour (F : Nat) (i0 : Int32) (M : GM) : Option (Nat ⊕ Unit) := if (f_X10_isWithin i0 (0 : Int32) (16777215 : Int32)) = 0 then (some (Sum.inl 1)) else (some (Sum.inr ()))
set_option maxHeartbeats 4000000 in
set_option maxRecDepth 100000 in
theorem w_X10_requireColour {x : GX} (X : GC x cX10_requireColour 1 RX10 6) {i0 : Int32}  {F : Nat} {M : GM} {r9 : (Nat ⊕ Unit)} (hR : ∀ (lv9 : List (Nat × Value)) (pc9 : Nat), r9 = Sum.inr () → decode cX10_requireColour pc9 = .ok (.return_, 1) → WG x M lv9 pc9 []) (hX : ∀ (n9 : Nat), r9 = Sum.inl n9 → GThr x n9 M) (h : f_X10_requireColour F i0 M = some r9) : WG x M [(0, .int i0)] 0 [] := by
  unfold f_X10_requireColour at h
  refine g_iload_n X (j := 0) dX10_requireColour_0 rfl rfl ?_
  refine g_iconst X (v := 0) dX10_requireColour_1 (by decide) ?_
  refine g_ldcw X q_911 dX10_requireColour_2 ?_
  refine gc_X10_86 X (ct_X10_isWithin X.htr ) (by decide) (Nat.le_of_ble_eq_true rfl) dX10_requireColour_5 ?_
  refine g_if_ne X (tgt := 22) dX10_requireColour_8 (by decide) (fun hb => ?_) (fun hb => ?_)
  · have h := ite_f hb h
    exact hR  _ _ (Option.some.inj h).symm dX10_requireColour_22
  · have h := ite_t hb h
    exact gthr_1 X (by decide) (List.mem_of_getElem? (i := 8) rfl) (Nat.le_of_ble_eq_true rfl) dX10_requireColour_11 dX10_requireColour_14 (Or.inr ⟨dX10_requireColour_15, dX10_requireColour_18, dX10_requireColour_21⟩) (hX 1 (Option.some.inj h).symm)
theorem ct_X10_requireColour {l : Launch} {z : GZ} (htr : l.stackTraces = false) {i0 : Int32}  {M : GM} {F : Nat} (h : f_X10_requireColour F i0 M = some (Sum.inr ())) : gMet l z yX10_requireColour cX10_requireColour 1 none 6 [.int i0] M (none) M := gMet_ofV (by decide +kernel) (Nat.le_of_ble_eq_true rfl) htr (fun x X ez el hR => by subst ez; subst el; exact w_X10_requireColour X  (fun  lv9 pc9 e9 d9 => by cases e9; exact hR lv9 pc9 d9) (by intros; rename_i e9; cases e9) h)
theorem cx_X10_requireColour {l : Launch} {z : GZ} (htr : l.stackTraces = false) {i0 : Int32}  {M : GM} {F n : Nat} (h : f_X10_requireColour F i0 M = some (Sum.inl n)) : gMetX l z yX10_requireColour cX10_requireColour 1 none 6 [.int i0] M n M := gMetX_of (by decide +kernel) (Nat.le_of_ble_eq_true rfl) htr (fun x X ez el hT => by subst ez; subst el; exact w_X10_requireColour X  (by intros; rename_i e9 _; cases e9) (fun n9 e9 => by cases e9; exact hT) h)
theorem gc_X10_78 {x : GX} {cc : ByteArray} {nL d pc : Nat} {M : GM} {lv : List (Nat × Value)} {st : List Value} (X : GC x cc nL RX10 d) {i0 : Int32} {i1 : Int32} {i2 : Int32} {M1 : GM} (hM : gMet (xl x) (xz x) yX10_requirePlace cX10_requirePlace 3 none 6 [.int i0, .int i1, .int i2] M (none) M1) (hd : 7 ≤ d) (hsum : (st.map fun v => v.category).sum ≤ 8) (dec : decode cc pc = .ok (.invokestatic 78, 3)) (go : WG x M1 lv (pc + 3) (st)) : WG x M lv pc (.int i2 :: .int i1 :: .int i0 :: st) := g_callS X (n := 3) (As := [.int i0, .int i1, .int i2]) (rest := st) hM q_119 q_120 q_17 q_121 (by decide +kernel) rfl hd (by decide) rfl hsum dec go
theorem gx_X10_78 {x : GX} {cc : ByteArray} {nL d pc : Nat} {M : GM} {lv : List (Nat × Value)} {st : List Value} (X : GC x cc nL RX10 d) {i0 : Int32} {i1 : Int32} {i2 : Int32} {M1 : GM} {n9 : Nat} (hM : gMetX (xl x) (xz x) yX10_requirePlace cX10_requirePlace 3 none 6 [.int i0, .int i1, .int i2] M n9 M1) (hd : 7 ≤ d) (hsum : (st.map fun v => v.category).sum ≤ 8) (dec : decode cc pc = .ok (.invokestatic 78, 3)) (hT : GThr x n9 M1) : WG x M lv pc (.int i2 :: .int i1 :: .int i0 :: st) := g_xS X (n := 3) (As := [.int i0, .int i1, .int i2]) (rest := st) hM q_119 q_120 q_17 q_121 (by decide +kernel) rfl hd (by decide) rfl hsum dec hT
theorem gc_X10_82 {x : GX} {cc : ByteArray} {nL d pc : Nat} {M : GM} {lv : List (Nat × Value)} {st : List Value} (X : GC x cc nL RX10 d) {i0 : Int32} {M1 : GM} (hM : gMet (xl x) (xz x) yX10_requireColour cX10_requireColour 1 none 6 [.int i0] M (none) M1) (hd : 7 ≤ d) (hsum : (st.map fun v => v.category).sum ≤ 8) (dec : decode cc pc = .ok (.invokestatic 82, 3)) (go : WG x M1 lv (pc + 3) (st)) : WG x M lv pc (.int i0 :: st) := g_callS X (n := 1) (As := [.int i0]) (rest := st) hM q_908 q_909 q_17 q_910 (by decide +kernel) rfl hd (by decide) rfl hsum dec go
theorem gx_X10_82 {x : GX} {cc : ByteArray} {nL d pc : Nat} {M : GM} {lv : List (Nat × Value)} {st : List Value} (X : GC x cc nL RX10 d) {i0 : Int32} {M1 : GM} {n9 : Nat} (hM : gMetX (xl x) (xz x) yX10_requireColour cX10_requireColour 1 none 6 [.int i0] M n9 M1) (hd : 7 ≤ d) (hsum : (st.map fun v => v.category).sum ≤ 8) (dec : decode cc pc = .ok (.invokestatic 82, 3)) (hT : GThr x n9 M1) : WG x M lv pc (.int i0 :: st) := g_xS X (n := 1) (As := [.int i0]) (rest := st) hM q_908 q_909 q_17 q_910 (by decide +kernel) rfl hd (by decide) rfl hsum dec hT
theorem gc_X10_106 {x : GX} {cc : ByteArray} {nL d pc : Nat} {M : GM} {lv : List (Nat × Value)} {st : List Value} (X : GC x cc nL RX10 d) {i0 : Int32} {i1 : Int32} {i2 : Int32} {M1 : GM} {g : Nat} (ht : gT g = 3) (hM : gMet (xl x) (xz x) yX3_place cX3_place 4 none 0 [.ref (gad (xz x) g), .int i0, .int i1, .int i2] M (none) M1) (hd : 1 ≤ d) (hsum : (st.map fun v => v.category).sum ≤ 8) (dec : decode cc pc = .ok (.invokevirtual 106, 3)) (go : WG x M1 lv (pc + 3) (st)) : WG x M lv pc (.int i2 :: .int i1 :: .int i0 :: .ref (gad (xz x) g) :: st) := g_callV X (n := 3) (As := [.int i0, .int i1, .int i2]) (rest := st) hM ht (by decide) (gE_3 ht) rfl q_138 q_139 q_140 q_25 q_141 (by decide +kernel) rfl hd (by decide) rfl hsum dec go
theorem dX10_addCorner_0 : decode cX10_addCorner 0 = .ok (.iload_n 1, 1) := by decide +kernel
theorem dX10_addCorner_1 : decode cX10_addCorner 1 = .ok (.iload_n 2, 1) := by decide +kernel
theorem dX10_addCorner_2 : decode cX10_addCorner 2 = .ok (.iload_n 3, 1) := by decide +kernel
theorem dX10_addCorner_3 : decode cX10_addCorner 3 = .ok (.invokestatic 78, 3) := by decide +kernel
theorem dX10_addCorner_6 : decode cX10_addCorner 6 = .ok (.iload 4, 2) := by decide +kernel
theorem dX10_addCorner_8 : decode cX10_addCorner 8 = .ok (.invokestatic 82, 3) := by decide +kernel
theorem dX10_addCorner_11 : decode cX10_addCorner 11 = .ok (.iload 5, 2) := by decide +kernel
theorem dX10_addCorner_13 : decode cX10_addCorner 13 = .ok (.iconst 0, 1) := by decide +kernel
theorem dX10_addCorner_14 : decode cX10_addCorner 14 = .ok (.sipush 2047, 3) := by decide +kernel
theorem dX10_addCorner_17 : decode cX10_addCorner 17 = .ok (.invokestatic 86, 3) := by decide +kernel
theorem dX10_addCorner_20 : decode cX10_addCorner 20 = .ok (.ifCond .eq 15, 3) := by decide +kernel
theorem dX10_addCorner_23 : decode cX10_addCorner 23 = .ok (.iload 6, 2) := by decide +kernel
theorem dX10_addCorner_25 : decode cX10_addCorner 25 = .ok (.iconst 0, 1) := by decide +kernel
theorem dX10_addCorner_26 : decode cX10_addCorner 26 = .ok (.sipush 2047, 3) := by decide +kernel
theorem dX10_addCorner_29 : decode cX10_addCorner 29 = .ok (.invokestatic 86, 3) := by decide +kernel
theorem dX10_addCorner_32 : decode cX10_addCorner 32 = .ok (.ifCond .ne 13, 3) := by decide +kernel
theorem dX10_addCorner_35 : decode cX10_addCorner 35 = .ok (.new 90, 3) := by decide +kernel
theorem dX10_addCorner_38 : decode cX10_addCorner 38 = .ok (.dup, 1) := by decide +kernel
theorem dX10_addCorner_39 : decode cX10_addCorner 39 = .ok (.ldc 92, 2) := by decide +kernel
theorem dX10_addCorner_41 : decode cX10_addCorner 41 = .ok (.invokespecial 94, 3) := by decide +kernel
theorem dX10_addCorner_44 : decode cX10_addCorner 44 = .ok (.athrow, 1) := by decide +kernel
theorem dX10_addCorner_45 : decode cX10_addCorner 45 = .ok (.aload_n 0, 1) := by decide +kernel
theorem dX10_addCorner_46 : decode cX10_addCorner 46 = .ok (.getfield 97, 3) := by decide +kernel
theorem dX10_addCorner_49 : decode cX10_addCorner 49 = .ok (.bipush 40, 2) := by decide +kernel
theorem dX10_addCorner_51 : decode cX10_addCorner 51 = .ok (.if_icmp .lt 13, 3) := by decide +kernel
theorem dX10_addCorner_54 : decode cX10_addCorner 54 = .ok (.new 101, 3) := by decide +kernel
theorem dX10_addCorner_57 : decode cX10_addCorner 57 = .ok (.dup, 1) := by decide +kernel
theorem dX10_addCorner_58 : decode cX10_addCorner 58 = .ok (.ldc 103, 2) := by decide +kernel
theorem dX10_addCorner_60 : decode cX10_addCorner 60 = .ok (.invokespecial 105, 3) := by decide +kernel
theorem dX10_addCorner_63 : decode cX10_addCorner 63 = .ok (.athrow, 1) := by decide +kernel
theorem dX10_addCorner_64 : decode cX10_addCorner 64 = .ok (.aload_n 0, 1) := by decide +kernel
theorem dX10_addCorner_65 : decode cX10_addCorner 65 = .ok (.getfield 97, 3) := by decide +kernel
theorem dX10_addCorner_68 : decode cX10_addCorner 68 = .ok (.istore 7, 2) := by decide +kernel
theorem dX10_addCorner_70 : decode cX10_addCorner 70 = .ok (.aload_n 0, 1) := by decide +kernel
theorem dX10_addCorner_71 : decode cX10_addCorner 71 = .ok (.getfield 11, 3) := by decide +kernel
theorem dX10_addCorner_74 : decode cX10_addCorner 74 = .ok (.iload 7, 2) := by decide +kernel
theorem dX10_addCorner_76 : decode cX10_addCorner 76 = .ok (.aaload, 1) := by decide +kernel
theorem dX10_addCorner_77 : decode cX10_addCorner 77 = .ok (.astore 8, 2) := by decide +kernel
theorem dX10_addCorner_79 : decode cX10_addCorner 79 = .ok (.aload 8, 2) := by decide +kernel
theorem dX10_addCorner_81 : decode cX10_addCorner 81 = .ok (.iload_n 1, 1) := by decide +kernel
theorem dX10_addCorner_82 : decode cX10_addCorner 82 = .ok (.iload_n 2, 1) := by decide +kernel
theorem dX10_addCorner_83 : decode cX10_addCorner 83 = .ok (.iload_n 3, 1) := by decide +kernel
theorem dX10_addCorner_84 : decode cX10_addCorner 84 = .ok (.invokevirtual 106, 3) := by decide +kernel
theorem dX10_addCorner_87 : decode cX10_addCorner 87 = .ok (.aload 8, 2) := by decide +kernel
theorem dX10_addCorner_89 : decode cX10_addCorner 89 = .ok (.iload 4, 2) := by decide +kernel
theorem dX10_addCorner_91 : decode cX10_addCorner 91 = .ok (.putfield 109, 3) := by decide +kernel
theorem dX10_addCorner_94 : decode cX10_addCorner 94 = .ok (.aload 8, 2) := by decide +kernel
theorem dX10_addCorner_96 : decode cX10_addCorner 96 = .ok (.iload 5, 2) := by decide +kernel
theorem dX10_addCorner_98 : decode cX10_addCorner 98 = .ok (.putfield 112, 3) := by decide +kernel
theorem dX10_addCorner_101 : decode cX10_addCorner 101 = .ok (.aload 8, 2) := by decide +kernel
theorem dX10_addCorner_103 : decode cX10_addCorner 103 = .ok (.iload 6, 2) := by decide +kernel
theorem dX10_addCorner_105 : decode cX10_addCorner 105 = .ok (.putfield 115, 3) := by decide +kernel
theorem dX10_addCorner_108 : decode cX10_addCorner 108 = .ok (.aload_n 0, 1) := by decide +kernel
theorem dX10_addCorner_109 : decode cX10_addCorner 109 = .ok (.iload 7, 2) := by decide +kernel
theorem dX10_addCorner_111 : decode cX10_addCorner 111 = .ok (.iconst 1, 1) := by decide +kernel
theorem dX10_addCorner_112 : decode cX10_addCorner 112 = .ok (.iadd, 1) := by decide +kernel
theorem dX10_addCorner_113 : decode cX10_addCorner 113 = .ok (.putfield 97, 3) := by decide +kernel
theorem dX10_addCorner_116 : decode cX10_addCorner 116 = .ok (.iload 7, 2) := by decide +kernel
theorem dX10_addCorner_118 : decode cX10_addCorner 118 = .ok (.ireturn, 1) := by decide +kernel
def bk_X10_addCorner_35 (F : Nat) (M : GM) : Option ((Nat × GM) ⊕ (Int32 × GM)) := some (Sum.inl (1, M))
set_option maxHeartbeats 4000000 in
set_option maxRecDepth 100000 in
theorem bw_X10_addCorner_35 {x : GX} (X : GC x cX10_addCorner 9 RX10 7)    {F : Nat} {M : GM} {r9 : ((Nat × GM) ⊕ (Int32 × GM))} (hR : ∀ (v9 : Int32) (M9 : GM) (lv9 : List (Nat × Value)) (pc9 : Nat), r9 = Sum.inr (v9, M9) → decode cX10_addCorner pc9 = .ok (.ireturn, 1) → WG x M9 lv9 pc9 [.int v9]) (hX : ∀ (n9 : Nat) (M9 : GM), r9 = Sum.inl (n9, M9) → GThr x n9 M9) (h : bk_X10_addCorner_35 F M = some r9) : WG x M [] 35 [] := by
  unfold bk_X10_addCorner_35 at h
  exact gthr_1 X (by decide) (List.mem_of_getElem? (i := 9) rfl) (Nat.le_of_ble_eq_true rfl) dX10_addCorner_35 dX10_addCorner_38 (Or.inl ⟨dX10_addCorner_39, dX10_addCorner_41, dX10_addCorner_44⟩) (hX 1 M (Option.some.inj h).symm)
def f_X10_addCorner (F : Nat) (i0 : Int32) (i1 : Int32) (i2 : Int32) (i3 : Int32) (i4 : Int32) (i5 : Int32) (M : GM) : Option ((Nat × GM) ⊕ (Int32 × GM)) := bndT (f_X10_requirePlace F i0 i1 i2 M) (fun n2 => some (Sum.inl (n2, M))) (fun _ => bndT (f_X10_requireColour F i3 M) (fun n4 => some (Sum.inl (n4, M))) (fun _ => if (f_X10_isWithin i4 (0 : Int32) (2047 : Int32)) = 0 then (bk_X10_addCorner_35 F M) else (if (f_X10_isWithin i5 (0 : Int32) (2047 : Int32)) = 0 then (bk_X10_addCorner_35 F M) else (if (gI M 0 12) < (40 : Int32) then (bnd (gI M 0 12) (fun v5 => grd (gIn v5 (gN 1)) (bnd (gR 1 v5.toNatClampNeg) (fun o8 => bnd (f_X3_place o8 i0 i1 i2 M) (fun M11 => bnd (sI M11 o8 3 i3) (fun M13 => bnd (sI M13 o8 4 i4) (fun M15 => bnd (sI M15 o8 5 i5) (fun M17 => bnd (sI M17 0 12 (v5 + (1 : Int32))) (fun M19 => some (Sum.inr (v5, M19))))))))))) else (some (Sum.inl (2, M)))))))
set_option maxHeartbeats 4000000 in
set_option maxRecDepth 100000 in
theorem w_X10_addCorner {x : GX} (X : GC x cX10_addCorner 9 RX10 7) {i0 : Int32} {i1 : Int32} {i2 : Int32} {i3 : Int32} {i4 : Int32} {i5 : Int32}  {F : Nat} {M : GM} {r9 : ((Nat × GM) ⊕ (Int32 × GM))} (hR : ∀ (v9 : Int32) (M9 : GM) (lv9 : List (Nat × Value)) (pc9 : Nat), r9 = Sum.inr (v9, M9) → decode cX10_addCorner pc9 = .ok (.ireturn, 1) → WG x M9 lv9 pc9 [.int v9]) (hX : ∀ (n9 : Nat) (M9 : GM), r9 = Sum.inl (n9, M9) → GThr x n9 M9) (h : f_X10_addCorner F i0 i1 i2 i3 i4 i5 M = some r9) : WG x M [(0, .ref (gad (xz x) 0)), (1, .int i0), (2, .int i1), (3, .int i2), (4, .int i3), (5, .int i4), (6, .int i5)] 0 [] := by
  unfold f_X10_addCorner at h
  refine g_iload_n X (j := 1) dX10_addCorner_0 rfl rfl ?_
  refine g_iload_n X (j := 2) dX10_addCorner_1 rfl rfl ?_
  refine g_iload_n X (j := 3) dX10_addCorner_2 rfl rfl ?_
  rcases bndT_e h with ⟨n2, hc1, h⟩ | ⟨⟨⟩, hc1, h⟩
  · exact gx_X10_78 X (cx_X10_requirePlace X.htr  hc1) (by decide) (Nat.le_of_ble_eq_true rfl) dX10_addCorner_3 (hX n2 M (Option.some.inj h).symm)
  refine gc_X10_78 X (ct_X10_requirePlace X.htr  hc1) (by decide) (Nat.le_of_ble_eq_true rfl) dX10_addCorner_3 ?_
  refine g_iload X (j := 4) dX10_addCorner_6 rfl ?_
  rcases bndT_e h with ⟨n4, hc3, h⟩ | ⟨⟨⟩, hc3, h⟩
  · exact gx_X10_82 X (cx_X10_requireColour X.htr  hc3) (by decide) (Nat.le_of_ble_eq_true rfl) dX10_addCorner_8 (hX n4 M (Option.some.inj h).symm)
  refine gc_X10_82 X (ct_X10_requireColour X.htr  hc3) (by decide) (Nat.le_of_ble_eq_true rfl) dX10_addCorner_8 ?_
  refine g_iload X (j := 5) dX10_addCorner_11 rfl ?_
  refine g_iconst X (v := 0) dX10_addCorner_13 (by decide) ?_
  refine g_sipush X (v := 2047) dX10_addCorner_14 (by decide) ?_
  refine gc_X10_86 X (ct_X10_isWithin X.htr ) (by decide) (Nat.le_of_ble_eq_true rfl) dX10_addCorner_17 ?_
  refine g_if_eq X (tgt := 35) dX10_addCorner_20 (by decide) (fun hb => ?_) (fun hb => ?_)
  · have h := ite_t hb h
    refine g_lv [] rfl ?_
    exact bw_X10_addCorner_35 X  hR hX h
  · have h := ite_f hb h
    refine g_iload X (j := 6) dX10_addCorner_23 rfl ?_
    refine g_iconst X (v := 0) dX10_addCorner_25 (by decide) ?_
    refine g_sipush X (v := 2047) dX10_addCorner_26 (by decide) ?_
    refine gc_X10_86 X (ct_X10_isWithin X.htr ) (by decide) (Nat.le_of_ble_eq_true rfl) dX10_addCorner_29 ?_
    refine g_if_ne X (tgt := 45) dX10_addCorner_32 (by decide) (fun hb => ?_) (fun hb => ?_)
    · have h := ite_f hb h
      refine g_aload_n X (j := 0) dX10_addCorner_45 rfl rfl ?_
      refine gf_X10_97 X gT_c0 dX10_addCorner_46 ?_
      refine g_bipush X (v := 40) dX10_addCorner_49 (by decide) ?_
      refine g_icmp_lt X (tgt := 64) dX10_addCorner_51 (by decide) (fun hb => ?_) (fun hb => ?_)
      · have h := ite_t hb h
        refine g_aload_n X (j := 0) dX10_addCorner_64 rfl rfl ?_
        refine gf_X10_97 X gT_c0 dX10_addCorner_65 ?_
        refine g_topi (fun v5 e6 => ?_)
        have h := bnd_e e6 h
        refine g_istore X (lv' := [(7, .int v5), (0, .ref (gad (xz x) 0)), (1, .int i0), (2, .int i1), (3, .int i2), (4, .int i3), (5, .int i4), (6, .int i5)]) dX10_addCorner_68 (by decide) rfl ?_
        refine g_aload_n X (j := 1) dX10_addCorner_70 rfl rfl ?_
        refine gf_X10_11 X gT_c0 dX10_addCorner_71 ?_
        refine g_iload X (j := 0) dX10_addCorner_74 rfl ?_
        obtain ⟨hg7, h⟩ := grd_e h
        refine g_aald_23 X gT_c1 hg7 dX10_addCorner_76 ?_
        refine g_topr (fun o8 e9 => ?_)
        have h := bnd_e e9 h
        have k10 : gT o8 = 3 := by rw [e9]; exact gR_23 gT_c1 (gIn_lt hg7)
        refine g_astore X (lv' := [(8, .ref (gad (xz x) o8)), (7, .int v5), (0, .ref (gad (xz x) 0)), (1, .int i0), (2, .int i1), (3, .int i2), (4, .int i3), (5, .int i4), (6, .int i5)]) dX10_addCorner_77 (by decide) rfl ?_
        refine g_aload X (j := 0) dX10_addCorner_79 rfl ?_
        refine g_iload_n X (j := 3) dX10_addCorner_81 rfl rfl ?_
        refine g_iload_n X (j := 4) dX10_addCorner_82 rfl rfl ?_
        refine g_iload_n X (j := 5) dX10_addCorner_83 rfl rfl ?_
        refine gc_X10_106 X k10 (ct_X3_place X.htr k10) (by decide) (Nat.le_of_ble_eq_true rfl) dX10_addCorner_84 ?_
        refine g_mem (fun M11 e12 => ?_)
        have h := bnd_e e12 h
        refine g_aload X (j := 0) dX10_addCorner_87 rfl ?_
        refine g_iload X (j := 6) dX10_addCorner_89 rfl ?_
        refine gp_X10_109 X k10 dX10_addCorner_91 ?_
        refine g_mem (fun M13 e14 => ?_)
        have h := bnd_e e14 h
        refine g_aload X (j := 0) dX10_addCorner_94 rfl ?_
        refine g_iload X (j := 7) dX10_addCorner_96 rfl ?_
        refine gp_X10_112 X k10 dX10_addCorner_98 ?_
        refine g_mem (fun M15 e16 => ?_)
        have h := bnd_e e16 h
        refine g_aload X (j := 0) dX10_addCorner_101 rfl ?_
        refine g_iload X (j := 8) dX10_addCorner_103 rfl ?_
        refine gp_X10_115 X k10 dX10_addCorner_105 ?_
        refine g_mem (fun M17 e18 => ?_)
        have h := bnd_e e18 h
        refine g_aload_n X (j := 2) dX10_addCorner_108 rfl rfl ?_
        refine g_iload X (j := 1) dX10_addCorner_109 rfl ?_
        refine g_iconst X (v := 1) dX10_addCorner_111 (by decide) ?_
        refine g_iadd X dX10_addCorner_112 ?_
        refine gp_X10_97 X gT_c0 dX10_addCorner_113 ?_
        refine g_mem (fun M19 e20 => ?_)
        have h := bnd_e e20 h
        refine g_iload X (j := 1) dX10_addCorner_116 rfl ?_
        exact hR v5 M19 _ _ (Option.some.inj h).symm dX10_addCorner_118
      · have h := ite_f hb h
        exact gthr_2 X (by decide) (List.mem_of_getElem? (i := 10) rfl) (Nat.le_of_ble_eq_true rfl) dX10_addCorner_54 dX10_addCorner_57 (Or.inl ⟨dX10_addCorner_58, dX10_addCorner_60, dX10_addCorner_63⟩) (hX 2 M (Option.some.inj h).symm)
    · have h := ite_t hb h
      refine g_lv [] rfl ?_
      exact bw_X10_addCorner_35 X  hR hX h
theorem ct_X10_addCorner {l : Launch} {z : GZ} (htr : l.stackTraces = false) {i0 : Int32} {i1 : Int32} {i2 : Int32} {i3 : Int32} {i4 : Int32} {i5 : Int32}  {M : GM} {F : Nat} {v : Int32} {M1 : GM} (h : f_X10_addCorner F i0 i1 i2 i3 i4 i5 M = some (Sum.inr (v, M1))) : gMet l z yX10_addCorner cX10_addCorner 9 (some .int) 7 [.ref (gad z 0), .int i0, .int i1, .int i2, .int i3, .int i4, .int i5] M (some (.int v)) M1 := gMet_ofI (by decide +kernel) (Nat.le_of_ble_eq_true rfl) htr rfl (fun x X ez el hR => by subst ez; subst el; exact w_X10_addCorner X  (fun v9 M9 lv9 pc9 e9 d9 => by cases e9; exact hR lv9 pc9 d9) (by intros; rename_i e9; cases e9) h)
theorem cx_X10_addCorner {l : Launch} {z : GZ} (htr : l.stackTraces = false) {i0 : Int32} {i1 : Int32} {i2 : Int32} {i3 : Int32} {i4 : Int32} {i5 : Int32}  {M : GM} {F n : Nat} {M1 : GM} (h : f_X10_addCorner F i0 i1 i2 i3 i4 i5 M = some (Sum.inl (n, M1))) : gMetX l z yX10_addCorner cX10_addCorner 9 (some .int) 7 [.ref (gad z 0), .int i0, .int i1, .int i2, .int i3, .int i4, .int i5] M n M1 := gMetX_of (by decide +kernel) (Nat.le_of_ble_eq_true rfl) htr (fun x X ez el hT => by subst ez; subst el; exact w_X10_addCorner X  (by intros; rename_i e9 _; cases e9) (fun n9 M9 e9 => by cases e9; exact hT) h)
theorem dX10_requireCorner_0 : decode cX10_requireCorner 0 = .ok (.iload_n 1, 1) := by decide +kernel
theorem dX10_requireCorner_1 : decode cX10_requireCorner 1 = .ok (.iconst 0, 1) := by decide +kernel
theorem dX10_requireCorner_2 : decode cX10_requireCorner 2 = .ok (.aload_n 0, 1) := by decide +kernel
theorem dX10_requireCorner_3 : decode cX10_requireCorner 3 = .ok (.getfield 97, 3) := by decide +kernel
theorem dX10_requireCorner_6 : decode cX10_requireCorner 6 = .ok (.iconst 1, 1) := by decide +kernel
theorem dX10_requireCorner_7 : decode cX10_requireCorner 7 = .ok (.isub, 1) := by decide +kernel
theorem dX10_requireCorner_8 : decode cX10_requireCorner 8 = .ok (.invokestatic 86, 3) := by decide +kernel
theorem dX10_requireCorner_11 : decode cX10_requireCorner 11 = .ok (.ifCond .ne 14, 3) := by decide +kernel
theorem dX10_requireCorner_14 : decode cX10_requireCorner 14 = .ok (.new 156, 3) := by decide +kernel
theorem dX10_requireCorner_17 : decode cX10_requireCorner 17 = .ok (.dup, 1) := by decide +kernel
theorem dX10_requireCorner_18 : decode cX10_requireCorner 18 = .ok (.ldc_w 391, 3) := by decide +kernel
theorem dX10_requireCorner_21 : decode cX10_requireCorner 21 = .ok (.invokespecial 160, 3) := by decide +kernel
theorem dX10_requireCorner_24 : decode cX10_requireCorner 24 = .ok (.athrow, 1) := by decide +kernel
theorem dX10_requireCorner_25 : decode cX10_requireCorner 25 = .ok (.return_, 1) := by decide +kernel
def f_X10_requireCorner (F : Nat) (i0 : Int32) (M : GM) : Option (Nat ⊕ Unit) := if (f_X10_isWithin i0 (0 : Int32) ((gI M 0 12) - (1 : Int32))) = 0 then (some (Sum.inl 3)) else (some (Sum.inr ()))
set_option maxHeartbeats 4000000 in
set_option maxRecDepth 100000 in
theorem w_X10_requireCorner {x : GX} (X : GC x cX10_requireCorner 2 RX10 6) {i0 : Int32}  {F : Nat} {M : GM} {r9 : (Nat ⊕ Unit)} (hR : ∀ (lv9 : List (Nat × Value)) (pc9 : Nat), r9 = Sum.inr () → decode cX10_requireCorner pc9 = .ok (.return_, 1) → WG x M lv9 pc9 []) (hX : ∀ (n9 : Nat), r9 = Sum.inl n9 → GThr x n9 M) (h : f_X10_requireCorner F i0 M = some r9) : WG x M [(0, .ref (gad (xz x) 0)), (1, .int i0)] 0 [] := by
  unfold f_X10_requireCorner at h
  refine g_iload_n X (j := 1) dX10_requireCorner_0 rfl rfl ?_
  refine g_iconst X (v := 0) dX10_requireCorner_1 (by decide) ?_
  refine g_aload_n X (j := 0) dX10_requireCorner_2 rfl rfl ?_
  refine gf_X10_97 X gT_c0 dX10_requireCorner_3 ?_
  refine g_iconst X (v := 1) dX10_requireCorner_6 (by decide) ?_
  refine g_isub X dX10_requireCorner_7 ?_
  refine gc_X10_86 X (ct_X10_isWithin X.htr ) (by decide) (Nat.le_of_ble_eq_true rfl) dX10_requireCorner_8 ?_
  refine g_if_ne X (tgt := 25) dX10_requireCorner_11 (by decide) (fun hb => ?_) (fun hb => ?_)
  · have h := ite_f hb h
    exact hR  _ _ (Option.some.inj h).symm dX10_requireCorner_25
  · have h := ite_t hb h
    exact gthr_3 X (by decide) (List.mem_of_getElem? (i := 0) rfl) (Nat.le_of_ble_eq_true rfl) dX10_requireCorner_14 dX10_requireCorner_17 (Or.inr ⟨dX10_requireCorner_18, dX10_requireCorner_21, dX10_requireCorner_24⟩) (hX 3 (Option.some.inj h).symm)
theorem ct_X10_requireCorner {l : Launch} {z : GZ} (htr : l.stackTraces = false) {i0 : Int32}  {M : GM} {F : Nat} (h : f_X10_requireCorner F i0 M = some (Sum.inr ())) : gMet l z yX10_requireCorner cX10_requireCorner 2 none 6 [.ref (gad z 0), .int i0] M (none) M := gMet_ofV (by decide +kernel) (Nat.le_of_ble_eq_true rfl) htr (fun x X ez el hR => by subst ez; subst el; exact w_X10_requireCorner X  (fun  lv9 pc9 e9 d9 => by cases e9; exact hR lv9 pc9 d9) (by intros; rename_i e9; cases e9) h)
theorem cx_X10_requireCorner {l : Launch} {z : GZ} (htr : l.stackTraces = false) {i0 : Int32}  {M : GM} {F n : Nat} (h : f_X10_requireCorner F i0 M = some (Sum.inl n)) : gMetX l z yX10_requireCorner cX10_requireCorner 2 none 6 [.ref (gad z 0), .int i0] M n M := gMetX_of (by decide +kernel) (Nat.le_of_ble_eq_true rfl) htr (fun x X ez el hT => by subst ez; subst el; exact w_X10_requireCorner X  (by intros; rename_i e9 _; cases e9) (fun n9 e9 => by cases e9; exact hT) h)
theorem gc_X10_118 {x : GX} {cc : ByteArray} {nL d pc : Nat} {M : GM} {lv : List (Nat × Value)} {st : List Value} (X : GC x cc nL RX10 d) {i0 : Int32} {M1 : GM} (ht : gT 0 = 10) (hM : gMet (xl x) (xz x) yX10_requireCorner cX10_requireCorner 2 none 6 [.ref (gad (xz x) 0), .int i0] M (none) M1) (hd : 7 ≤ d) (hsum : (st.map fun v => v.category).sum ≤ 8) (dec : decode cc pc = .ok (.invokevirtual 118, 3)) (go : WG x M1 lv (pc + 3) (st)) : WG x M lv pc (.int i0 :: .ref (gad (xz x) 0) :: st) := g_callV X (n := 1) (As := [.int i0]) (rest := st) hM ht (by decide) (gE_10 ht) rfl q_41 q_43 q_0 q_17 q_45 (by decide +kernel) rfl hd (by decide) rfl hsum dec go
theorem gx_X10_118 {x : GX} {cc : ByteArray} {nL d pc : Nat} {M : GM} {lv : List (Nat × Value)} {st : List Value} (X : GC x cc nL RX10 d) {i0 : Int32} {M1 : GM} {n9 : Nat} (ht : gT 0 = 10) (hM : gMetX (xl x) (xz x) yX10_requireCorner cX10_requireCorner 2 none 6 [.ref (gad (xz x) 0), .int i0] M n9 M1) (hd : 7 ≤ d) (hsum : (st.map fun v => v.category).sum ≤ 8) (dec : decode cc pc = .ok (.invokevirtual 118, 3)) (hT : GThr x n9 M1) : WG x M lv pc (.int i0 :: .ref (gad (xz x) 0) :: st) := g_xV X (n := 1) (As := [.int i0]) (rest := st) hM ht (by decide) (gE_10 ht) rfl q_41 q_43 q_0 q_17 q_45 (by decide +kernel) rfl hd (by decide) rfl hsum dec hT
theorem gc_X10_124 {x : GX} {cc : ByteArray} {nL d pc : Nat} {M : GM} {lv : List (Nat × Value)} {st : List Value} (X : GC x cc nL RX10 d) {i0 : Int32} {M1 : GM} {r : Int32} {g : Nat} (ht : gT g = 4) (hM : gMet (xl x) (xz x) yX4_has cX4_has 2 (some .boolean) 0 [.ref (gad (xz x) g), .int i0] M (some (.int r)) M1) (hd : 1 ≤ d) (hsum : (st.map fun v => v.category).sum ≤ 8) (dec : decode cc pc = .ok (.invokevirtual 124, 3)) (go : WG x M1 lv (pc + 3) (.int r :: st)) : WG x M lv pc (.int i0 :: .ref (gad (xz x) g) :: st) := g_callV X (n := 1) (As := [.int i0]) (rest := st) hM ht (by decide) (gE_4 ht) rfl q_142 q_143 q_144 q_26 q_145 (by decide +kernel) rfl hd (by decide) rfl hsum dec go
theorem dX10_moveCorner_0 : decode cX10_moveCorner 0 = .ok (.aload_n 0, 1) := by decide +kernel
theorem dX10_moveCorner_1 : decode cX10_moveCorner 1 = .ok (.iload_n 1, 1) := by decide +kernel
theorem dX10_moveCorner_2 : decode cX10_moveCorner 2 = .ok (.invokevirtual 118, 3) := by decide +kernel
theorem dX10_moveCorner_5 : decode cX10_moveCorner 5 = .ok (.iload_n 2, 1) := by decide +kernel
theorem dX10_moveCorner_6 : decode cX10_moveCorner 6 = .ok (.iload_n 3, 1) := by decide +kernel
theorem dX10_moveCorner_7 : decode cX10_moveCorner 7 = .ok (.iload 4, 2) := by decide +kernel
theorem dX10_moveCorner_9 : decode cX10_moveCorner 9 = .ok (.invokestatic 78, 3) := by decide +kernel
theorem dX10_moveCorner_12 : decode cX10_moveCorner 12 = .ok (.aload_n 0, 1) := by decide +kernel
theorem dX10_moveCorner_13 : decode cX10_moveCorner 13 = .ok (.getfield 11, 3) := by decide +kernel
theorem dX10_moveCorner_16 : decode cX10_moveCorner 16 = .ok (.iload_n 1, 1) := by decide +kernel
theorem dX10_moveCorner_17 : decode cX10_moveCorner 17 = .ok (.aaload, 1) := by decide +kernel
theorem dX10_moveCorner_18 : decode cX10_moveCorner 18 = .ok (.iload_n 2, 1) := by decide +kernel
theorem dX10_moveCorner_19 : decode cX10_moveCorner 19 = .ok (.iload_n 3, 1) := by decide +kernel
theorem dX10_moveCorner_20 : decode cX10_moveCorner 20 = .ok (.iload 4, 2) := by decide +kernel
theorem dX10_moveCorner_22 : decode cX10_moveCorner 22 = .ok (.invokevirtual 106, 3) := by decide +kernel
theorem dX10_moveCorner_25 : decode cX10_moveCorner 25 = .ok (.iconst 0, 1) := by decide +kernel
theorem dX10_moveCorner_26 : decode cX10_moveCorner 26 = .ok (.istore 5, 2) := by decide +kernel
theorem dX10_moveCorner_28 : decode cX10_moveCorner 28 = .ok (.iconst 0, 1) := by decide +kernel
theorem dX10_moveCorner_29 : decode cX10_moveCorner 29 = .ok (.istore 6, 2) := by decide +kernel
theorem dX10_moveCorner_31 : decode cX10_moveCorner 31 = .ok (.iload 6, 2) := by decide +kernel
theorem dX10_moveCorner_33 : decode cX10_moveCorner 33 = .ok (.aload_n 0, 1) := by decide +kernel
theorem dX10_moveCorner_34 : decode cX10_moveCorner 34 = .ok (.getfield 121, 3) := by decide +kernel
theorem dX10_moveCorner_37 : decode cX10_moveCorner 37 = .ok (.if_icmp .ge 26, 3) := by decide +kernel
theorem dX10_moveCorner_40 : decode cX10_moveCorner 40 = .ok (.aload_n 0, 1) := by decide +kernel
theorem dX10_moveCorner_41 : decode cX10_moveCorner 41 = .ok (.getfield 17, 3) := by decide +kernel
theorem dX10_moveCorner_44 : decode cX10_moveCorner 44 = .ok (.iload 6, 2) := by decide +kernel
theorem dX10_moveCorner_46 : decode cX10_moveCorner 46 = .ok (.aaload, 1) := by decide +kernel
theorem dX10_moveCorner_47 : decode cX10_moveCorner 47 = .ok (.iload_n 1, 1) := by decide +kernel
theorem dX10_moveCorner_48 : decode cX10_moveCorner 48 = .ok (.invokevirtual 124, 3) := by decide +kernel
theorem dX10_moveCorner_51 : decode cX10_moveCorner 51 = .ok (.ifCond .eq 6, 3) := by decide +kernel
theorem dX10_moveCorner_54 : decode cX10_moveCorner 54 = .ok (.iinc 5 1, 3) := by decide +kernel
theorem dX10_moveCorner_57 : decode cX10_moveCorner 57 = .ok (.iinc 6 1, 3) := by decide +kernel
theorem dX10_moveCorner_60 : decode cX10_moveCorner 60 = .ok (.goto (-29), 3) := by decide +kernel
theorem dX10_moveCorner_63 : decode cX10_moveCorner 63 = .ok (.iload 5, 2) := by decide +kernel
theorem dX10_moveCorner_65 : decode cX10_moveCorner 65 = .ok (.ireturn, 1) := by decide +kernel
def st_X10_moveCorner_31 (F : Nat) (a15 : Int32) (rec : Int32 → Int32 → GM → Option (Int32 × GM)) (a16 : Int32) (a17 : Int32) (M : GM) : Option (Int32 × GM) := if (gI M 0 13) ≤ a17 then (some (a16, M)) else (grd (gIn a17 (gN 2)) (bnd (gR 2 a17.toNatClampNeg) (fun o19 => if (f_X4_has o19 a15 M) = 0 then (bnd (a17 + (1 : Int32)) (fun v22 => rec a16 v22 M)) else (bnd (a16 + (1 : Int32)) (fun v24 => bnd (a17 + (1 : Int32)) (fun v26 => rec v24 v26 M))))))
def lp_X10_moveCorner_31 (F : Nat) (a15 : Int32) : Nat → Int32 → Int32 → GM → Option (Int32 × GM)
  | 0 => fun _ _ _ => none
  | f + 1 => fun a16 a17 M => st_X10_moveCorner_31 F a15 (lp_X10_moveCorner_31 F a15 f) a16 a17 M
set_option maxHeartbeats 4000000 in
set_option maxRecDepth 100000 in
theorem lw_X10_moveCorner_31 {x : GX} (X : GC x cX10_moveCorner 7 RX10 7) {a15 : Int32}  {F : Nat} {r9 : (Int32 × GM)} (hE : ∀ (x5_9 : Int32) (M9 : GM), r9 = (x5_9, M9) → WG x M9 [(5, .int x5_9)] 63 []) : ∀ (f : Nat) (a16 : Int32) (a17 : Int32) (M : GM), lp_X10_moveCorner_31 F a15 f a16 a17 M = some r9 → WG x M [(0, .ref (gad (xz x) 0)), (1, .int a15), (5, .int a16), (6, .int a17)] 31 [] := by
  intro f
  induction f with
  | zero => intro a16 a17 M h; cases h
  | succ f ih =>
    intro a16 a17 M h
    have hrec := ih
    have h : st_X10_moveCorner_31 F a15 (lp_X10_moveCorner_31 F a15 f) a16 a17 M = some r9 := h
    generalize lp_X10_moveCorner_31 F a15 f = rec at h hrec
    unfold st_X10_moveCorner_31 at h
    refine g_iload X (j := 3) dX10_moveCorner_31 rfl ?_
    refine g_aload_n X (j := 0) dX10_moveCorner_33 rfl rfl ?_
    refine gf_X10_121 X gT_c0 dX10_moveCorner_34 ?_
    refine g_icmp_ge X (tgt := 63) dX10_moveCorner_37 (by decide) (fun hb => ?_) (fun hb => ?_)
    · have h := ite_t hb h
      refine g_lv [2] rfl ?_
      exact hE a16 M (Option.some.inj h).symm
    · have h := ite_f hb h
      refine g_aload_n X (j := 0) dX10_moveCorner_40 rfl rfl ?_
      refine gf_X10_17 X gT_c0 dX10_moveCorner_41 ?_
      refine g_iload X (j := 3) dX10_moveCorner_44 rfl ?_
      obtain ⟨hg18, h⟩ := grd_e h
      refine g_aald_24 X gT_c2 hg18 dX10_moveCorner_46 ?_
      refine g_topr (fun o19 e20 => ?_)
      have h := bnd_e e20 h
      have k21 : gT o19 = 4 := by rw [e20]; exact gR_24 gT_c2 (gIn_lt hg18)
      refine g_iload_n X (j := 1) dX10_moveCorner_47 rfl rfl ?_
      refine gc_X10_124 X k21 (ct_X4_has X.htr k21) (by decide) (Nat.le_of_ble_eq_true rfl) dX10_moveCorner_48 ?_
      refine g_if_eq X (tgt := 57) dX10_moveCorner_51 (by decide) (fun hb => ?_) (fun hb => ?_)
      · have h := ite_t hb h
        refine g_iinc X (j := 3) (w := a17 + (1 : Int32)) (lv' := [(0, .ref (gad (xz x) 0)), (1, .int a15), (5, .int a16)]) dX10_moveCorner_57 rfl (by rw [ii_1]) (by decide) (fun _ => rfl) (fun v22 e23 => ?_)
        have h := bnd_e e23 h
        refine g_goto X (tgt := 31) dX10_moveCorner_60 (by decide) ?_
        refine g_lv [1, 2, 3, 0] rfl ?_
        exact hrec a16 v22 M h
      · have h := ite_f hb h
        refine g_iinc X (j := 2) (w := a16 + (1 : Int32)) (lv' := [(0, .ref (gad (xz x) 0)), (1, .int a15), (6, .int a17)]) dX10_moveCorner_54 rfl (by rw [ii_1]) (by decide) (fun _ => rfl) (fun v24 e25 => ?_)
        have h := bnd_e e25 h
        refine g_iinc X (j := 3) (w := a17 + (1 : Int32)) (lv' := [(5, .int v24), (0, .ref (gad (xz x) 0)), (1, .int a15)]) dX10_moveCorner_57 rfl (by rw [ii_1]) (by decide) (fun _ => rfl) (fun v26 e27 => ?_)
        have h := bnd_e e27 h
        refine g_goto X (tgt := 31) dX10_moveCorner_60 (by decide) ?_
        refine g_lv [2, 3, 1, 0] rfl ?_
        exact hrec v24 v26 M h
def f_X10_moveCorner (F : Nat) (i0 : Int32) (i1 : Int32) (i2 : Int32) (i3 : Int32) (M : GM) : Option ((Nat × GM) ⊕ (Int32 × GM)) := bndT (f_X10_requireCorner F i0 M) (fun n2 => some (Sum.inl (n2, M))) (fun _ => bndT (f_X10_requirePlace F i1 i2 i3 M) (fun n4 => some (Sum.inl (n4, M))) (fun _ => grd (gIn i0 (gN 1)) (bnd (gR 1 i0.toNatClampNeg) (fun o6 => bnd (f_X3_place o6 i1 i2 i3 M) (fun M9 => bnd (0 : Int32) (fun v11 => bnd (0 : Int32) (fun v13 => bndO (lp_X10_moveCorner_31 F i0 F v11 v13 M9) (fun (v28, M29) => some (Sum.inr (v28, M29))))))))))
set_option maxHeartbeats 4000000 in
set_option maxRecDepth 100000 in
theorem w_X10_moveCorner {x : GX} (X : GC x cX10_moveCorner 7 RX10 7) {i0 : Int32} {i1 : Int32} {i2 : Int32} {i3 : Int32}  {F : Nat} {M : GM} {r9 : ((Nat × GM) ⊕ (Int32 × GM))} (hR : ∀ (v9 : Int32) (M9 : GM) (lv9 : List (Nat × Value)) (pc9 : Nat), r9 = Sum.inr (v9, M9) → decode cX10_moveCorner pc9 = .ok (.ireturn, 1) → WG x M9 lv9 pc9 [.int v9]) (hX : ∀ (n9 : Nat) (M9 : GM), r9 = Sum.inl (n9, M9) → GThr x n9 M9) (h : f_X10_moveCorner F i0 i1 i2 i3 M = some r9) : WG x M [(0, .ref (gad (xz x) 0)), (1, .int i0), (2, .int i1), (3, .int i2), (4, .int i3)] 0 [] := by
  unfold f_X10_moveCorner at h
  refine g_aload_n X (j := 0) dX10_moveCorner_0 rfl rfl ?_
  refine g_iload_n X (j := 1) dX10_moveCorner_1 rfl rfl ?_
  rcases bndT_e h with ⟨n2, hc1, h⟩ | ⟨⟨⟩, hc1, h⟩
  · exact gx_X10_118 X gT_c0 (cx_X10_requireCorner X.htr  hc1) (by decide) (Nat.le_of_ble_eq_true rfl) dX10_moveCorner_2 (hX n2 M (Option.some.inj h).symm)
  refine gc_X10_118 X gT_c0 (ct_X10_requireCorner X.htr  hc1) (by decide) (Nat.le_of_ble_eq_true rfl) dX10_moveCorner_2 ?_
  refine g_iload_n X (j := 2) dX10_moveCorner_5 rfl rfl ?_
  refine g_iload_n X (j := 3) dX10_moveCorner_6 rfl rfl ?_
  refine g_iload X (j := 4) dX10_moveCorner_7 rfl ?_
  rcases bndT_e h with ⟨n4, hc3, h⟩ | ⟨⟨⟩, hc3, h⟩
  · exact gx_X10_78 X (cx_X10_requirePlace X.htr  hc3) (by decide) (Nat.le_of_ble_eq_true rfl) dX10_moveCorner_9 (hX n4 M (Option.some.inj h).symm)
  refine gc_X10_78 X (ct_X10_requirePlace X.htr  hc3) (by decide) (Nat.le_of_ble_eq_true rfl) dX10_moveCorner_9 ?_
  refine g_aload_n X (j := 0) dX10_moveCorner_12 rfl rfl ?_
  refine gf_X10_11 X gT_c0 dX10_moveCorner_13 ?_
  refine g_iload_n X (j := 1) dX10_moveCorner_16 rfl rfl ?_
  obtain ⟨hg5, h⟩ := grd_e h
  refine g_aald_23 X gT_c1 hg5 dX10_moveCorner_17 ?_
  refine g_topr (fun o6 e7 => ?_)
  have h := bnd_e e7 h
  have k8 : gT o6 = 3 := by rw [e7]; exact gR_23 gT_c1 (gIn_lt hg5)
  refine g_iload_n X (j := 2) dX10_moveCorner_18 rfl rfl ?_
  refine g_iload_n X (j := 3) dX10_moveCorner_19 rfl rfl ?_
  refine g_iload X (j := 4) dX10_moveCorner_20 rfl ?_
  refine gc_X10_106 X k8 (ct_X3_place X.htr k8) (by decide) (Nat.le_of_ble_eq_true rfl) dX10_moveCorner_22 ?_
  refine g_mem (fun M9 e10 => ?_)
  have h := bnd_e e10 h
  refine g_iconst X (v := 0) dX10_moveCorner_25 (by decide) ?_
  refine g_topi (fun v11 e12 => ?_)
  have h := bnd_e e12 h
  refine g_istore X (lv' := [(5, .int v11), (0, .ref (gad (xz x) 0)), (1, .int i0), (2, .int i1), (3, .int i2), (4, .int i3)]) dX10_moveCorner_26 (by decide) rfl ?_
  refine g_iconst X (v := 0) dX10_moveCorner_28 (by decide) ?_
  refine g_topi (fun v13 e14 => ?_)
  have h := bnd_e e14 h
  refine g_istore X (lv' := [(6, .int v13), (5, .int v11), (0, .ref (gad (xz x) 0)), (1, .int i0), (2, .int i1), (3, .int i2), (4, .int i3)]) dX10_moveCorner_29 (by decide) rfl ?_
  refine g_lv [2, 3, 1, 0] rfl ?_
  obtain ⟨⟨v28, M29⟩, hl30, h⟩ := bndO_e h
  refine lw_X10_moveCorner_31 X  (fun v28_ M29_ e9 => ?_) F v11 v13 M9 hl30
  cases e9
  refine g_iload X (j := 0) dX10_moveCorner_63 rfl ?_
  exact hR v28 M29 _ _ (Option.some.inj h).symm dX10_moveCorner_65
theorem ct_X10_moveCorner {l : Launch} {z : GZ} (htr : l.stackTraces = false) {i0 : Int32} {i1 : Int32} {i2 : Int32} {i3 : Int32}  {M : GM} {F : Nat} {v : Int32} {M1 : GM} (h : f_X10_moveCorner F i0 i1 i2 i3 M = some (Sum.inr (v, M1))) : gMet l z yX10_moveCorner cX10_moveCorner 7 (some .int) 7 [.ref (gad z 0), .int i0, .int i1, .int i2, .int i3] M (some (.int v)) M1 := gMet_ofI (by decide +kernel) (Nat.le_of_ble_eq_true rfl) htr rfl (fun x X ez el hR => by subst ez; subst el; exact w_X10_moveCorner X  (fun v9 M9 lv9 pc9 e9 d9 => by cases e9; exact hR lv9 pc9 d9) (by intros; rename_i e9; cases e9) h)
theorem cx_X10_moveCorner {l : Launch} {z : GZ} (htr : l.stackTraces = false) {i0 : Int32} {i1 : Int32} {i2 : Int32} {i3 : Int32}  {M : GM} {F n : Nat} {M1 : GM} (h : f_X10_moveCorner F i0 i1 i2 i3 M = some (Sum.inl (n, M1))) : gMetX l z yX10_moveCorner cX10_moveCorner 7 (some .int) 7 [.ref (gad z 0), .int i0, .int i1, .int i2, .int i3] M n M1 := gMetX_of (by decide +kernel) (Nat.le_of_ble_eq_true rfl) htr (fun x X ez el hT => by subst ez; subst el; exact w_X10_moveCorner X  (by intros; rename_i e9 _; cases e9) (fun n9 M9 e9 => by cases e9; exact hT) h)
theorem dX10_setColour_0 : decode cX10_setColour 0 = .ok (.aload_n 0, 1) := by decide +kernel
theorem dX10_setColour_1 : decode cX10_setColour 1 = .ok (.iload_n 1, 1) := by decide +kernel
theorem dX10_setColour_2 : decode cX10_setColour 2 = .ok (.invokevirtual 118, 3) := by decide +kernel
theorem dX10_setColour_5 : decode cX10_setColour 5 = .ok (.iload_n 2, 1) := by decide +kernel
theorem dX10_setColour_6 : decode cX10_setColour 6 = .ok (.invokestatic 82, 3) := by decide +kernel
theorem dX10_setColour_9 : decode cX10_setColour 9 = .ok (.aload_n 0, 1) := by decide +kernel
theorem dX10_setColour_10 : decode cX10_setColour 10 = .ok (.getfield 11, 3) := by decide +kernel
theorem dX10_setColour_13 : decode cX10_setColour 13 = .ok (.iload_n 1, 1) := by decide +kernel
theorem dX10_setColour_14 : decode cX10_setColour 14 = .ok (.aaload, 1) := by decide +kernel
theorem dX10_setColour_15 : decode cX10_setColour 15 = .ok (.getfield 109, 3) := by decide +kernel
theorem dX10_setColour_18 : decode cX10_setColour 18 = .ok (.istore_n 3, 1) := by decide +kernel
theorem dX10_setColour_19 : decode cX10_setColour 19 = .ok (.aload_n 0, 1) := by decide +kernel
theorem dX10_setColour_20 : decode cX10_setColour 20 = .ok (.getfield 11, 3) := by decide +kernel
theorem dX10_setColour_23 : decode cX10_setColour 23 = .ok (.iload_n 1, 1) := by decide +kernel
theorem dX10_setColour_24 : decode cX10_setColour 24 = .ok (.aaload, 1) := by decide +kernel
theorem dX10_setColour_25 : decode cX10_setColour 25 = .ok (.iload_n 2, 1) := by decide +kernel
theorem dX10_setColour_26 : decode cX10_setColour 26 = .ok (.putfield 109, 3) := by decide +kernel
theorem dX10_setColour_29 : decode cX10_setColour 29 = .ok (.iload_n 3, 1) := by decide +kernel
theorem dX10_setColour_30 : decode cX10_setColour 30 = .ok (.ireturn, 1) := by decide +kernel
def f_X10_setColour (F : Nat) (i0 : Int32) (i1 : Int32) (M : GM) : Option ((Nat × GM) ⊕ (Int32 × GM)) := bndT (f_X10_requireCorner F i0 M) (fun n2 => some (Sum.inl (n2, M))) (fun _ => bndT (f_X10_requireColour F i1 M) (fun n4 => some (Sum.inl (n4, M))) (fun _ => grd (gIn i0 (gN 1)) (bnd (gR 1 i0.toNatClampNeg) (fun o6 => bnd (gI M o6 3) (fun v9 => grd (gIn i0 (gN 1)) (bnd (gR 1 i0.toNatClampNeg) (fun o12 => bnd (sI M o12 3 i1) (fun M15 => some (Sum.inr (v9, M15))))))))))
set_option maxHeartbeats 4000000 in
set_option maxRecDepth 100000 in
theorem w_X10_setColour {x : GX} (X : GC x cX10_setColour 4 RX10 7) {i0 : Int32} {i1 : Int32}  {F : Nat} {M : GM} {r9 : ((Nat × GM) ⊕ (Int32 × GM))} (hR : ∀ (v9 : Int32) (M9 : GM) (lv9 : List (Nat × Value)) (pc9 : Nat), r9 = Sum.inr (v9, M9) → decode cX10_setColour pc9 = .ok (.ireturn, 1) → WG x M9 lv9 pc9 [.int v9]) (hX : ∀ (n9 : Nat) (M9 : GM), r9 = Sum.inl (n9, M9) → GThr x n9 M9) (h : f_X10_setColour F i0 i1 M = some r9) : WG x M [(0, .ref (gad (xz x) 0)), (1, .int i0), (2, .int i1)] 0 [] := by
  unfold f_X10_setColour at h
  refine g_aload_n X (j := 0) dX10_setColour_0 rfl rfl ?_
  refine g_iload_n X (j := 1) dX10_setColour_1 rfl rfl ?_
  rcases bndT_e h with ⟨n2, hc1, h⟩ | ⟨⟨⟩, hc1, h⟩
  · exact gx_X10_118 X gT_c0 (cx_X10_requireCorner X.htr  hc1) (by decide) (Nat.le_of_ble_eq_true rfl) dX10_setColour_2 (hX n2 M (Option.some.inj h).symm)
  refine gc_X10_118 X gT_c0 (ct_X10_requireCorner X.htr  hc1) (by decide) (Nat.le_of_ble_eq_true rfl) dX10_setColour_2 ?_
  refine g_iload_n X (j := 2) dX10_setColour_5 rfl rfl ?_
  rcases bndT_e h with ⟨n4, hc3, h⟩ | ⟨⟨⟩, hc3, h⟩
  · exact gx_X10_82 X (cx_X10_requireColour X.htr  hc3) (by decide) (Nat.le_of_ble_eq_true rfl) dX10_setColour_6 (hX n4 M (Option.some.inj h).symm)
  refine gc_X10_82 X (ct_X10_requireColour X.htr  hc3) (by decide) (Nat.le_of_ble_eq_true rfl) dX10_setColour_6 ?_
  refine g_aload_n X (j := 0) dX10_setColour_9 rfl rfl ?_
  refine gf_X10_11 X gT_c0 dX10_setColour_10 ?_
  refine g_iload_n X (j := 1) dX10_setColour_13 rfl rfl ?_
  obtain ⟨hg5, h⟩ := grd_e h
  refine g_aald_23 X gT_c1 hg5 dX10_setColour_14 ?_
  refine g_topr (fun o6 e7 => ?_)
  have h := bnd_e e7 h
  have k8 : gT o6 = 3 := by rw [e7]; exact gR_23 gT_c1 (gIn_lt hg5)
  refine gf_X10_109 X k8 dX10_setColour_15 ?_
  refine g_topi (fun v9 e10 => ?_)
  have h := bnd_e e10 h
  refine g_istore_n X (lv' := [(3, .int v9), (0, .ref (gad (xz x) 0)), (1, .int i0), (2, .int i1)]) dX10_setColour_18 rfl (by decide) rfl ?_
  refine g_aload_n X (j := 1) dX10_setColour_19 rfl rfl ?_
  refine gf_X10_11 X gT_c0 dX10_setColour_20 ?_
  refine g_iload_n X (j := 2) dX10_setColour_23 rfl rfl ?_
  obtain ⟨hg11, h⟩ := grd_e h
  refine g_aald_23 X gT_c1 hg11 dX10_setColour_24 ?_
  refine g_topr (fun o12 e13 => ?_)
  have h := bnd_e e13 h
  have k14 : gT o12 = 3 := by rw [e13]; exact gR_23 gT_c1 (gIn_lt hg11)
  refine g_iload_n X (j := 3) dX10_setColour_25 rfl rfl ?_
  refine gp_X10_109 X k14 dX10_setColour_26 ?_
  refine g_mem (fun M15 e16 => ?_)
  have h := bnd_e e16 h
  refine g_iload_n X (j := 0) dX10_setColour_29 rfl rfl ?_
  exact hR v9 M15 _ _ (Option.some.inj h).symm dX10_setColour_30
theorem ct_X10_setColour {l : Launch} {z : GZ} (htr : l.stackTraces = false) {i0 : Int32} {i1 : Int32}  {M : GM} {F : Nat} {v : Int32} {M1 : GM} (h : f_X10_setColour F i0 i1 M = some (Sum.inr (v, M1))) : gMet l z yX10_setColour cX10_setColour 4 (some .int) 7 [.ref (gad z 0), .int i0, .int i1] M (some (.int v)) M1 := gMet_ofI (by decide +kernel) (Nat.le_of_ble_eq_true rfl) htr rfl (fun x X ez el hR => by subst ez; subst el; exact w_X10_setColour X  (fun v9 M9 lv9 pc9 e9 d9 => by cases e9; exact hR lv9 pc9 d9) (by intros; rename_i e9; cases e9) h)
theorem cx_X10_setColour {l : Launch} {z : GZ} (htr : l.stackTraces = false) {i0 : Int32} {i1 : Int32}  {M : GM} {F n : Nat} {M1 : GM} (h : f_X10_setColour F i0 i1 M = some (Sum.inl (n, M1))) : gMetX l z yX10_setColour cX10_setColour 4 (some .int) 7 [.ref (gad z 0), .int i0, .int i1] M n M1 := gMetX_of (by decide +kernel) (Nat.le_of_ble_eq_true rfl) htr (fun x X ez el hT => by subst ez; subst el; exact w_X10_setColour X  (by intros; rename_i e9 _; cases e9) (fun n9 M9 e9 => by cases e9; exact hT) h)
theorem gc_X10_134 {x : GX} {cc : ByteArray} {nL d pc : Nat} {M : GM} {lv : List (Nat × Value)} {st : List Value} (X : GC x cc nL RX10 d) {i0 : Int32} {i1 : Int32} {i2 : Int32} {M1 : GM} {g : Nat} (ht : gT g = 4) (hM : gMet (xl x) (xz x) yX4_join cX4_join 4 none 0 [.ref (gad (xz x) g), .int i0, .int i1, .int i2] M (none) M1) (hd : 1 ≤ d) (hsum : (st.map fun v => v.category).sum ≤ 8) (dec : decode cc pc = .ok (.invokevirtual 134, 3)) (go : WG x M1 lv (pc + 3) (st)) : WG x M lv pc (.int i2 :: .int i1 :: .int i0 :: .ref (gad (xz x) g) :: st) := g_callV X (n := 3) (As := [.int i0, .int i1, .int i2]) (rest := st) hM ht (by decide) (gE_4 ht) rfl q_941 q_942 q_943 q_26 q_944 (by decide +kernel) rfl hd (by decide) rfl hsum dec go
theorem dX10_addPane_0 : decode cX10_addPane 0 = .ok (.aload_n 0, 1) := by decide +kernel
theorem dX10_addPane_1 : decode cX10_addPane 1 = .ok (.iload_n 1, 1) := by decide +kernel
theorem dX10_addPane_2 : decode cX10_addPane 2 = .ok (.invokevirtual 118, 3) := by decide +kernel
theorem dX10_addPane_5 : decode cX10_addPane 5 = .ok (.aload_n 0, 1) := by decide +kernel
theorem dX10_addPane_6 : decode cX10_addPane 6 = .ok (.iload_n 2, 1) := by decide +kernel
theorem dX10_addPane_7 : decode cX10_addPane 7 = .ok (.invokevirtual 118, 3) := by decide +kernel
theorem dX10_addPane_10 : decode cX10_addPane 10 = .ok (.aload_n 0, 1) := by decide +kernel
theorem dX10_addPane_11 : decode cX10_addPane 11 = .ok (.iload_n 3, 1) := by decide +kernel
theorem dX10_addPane_12 : decode cX10_addPane 12 = .ok (.invokevirtual 118, 3) := by decide +kernel
theorem dX10_addPane_15 : decode cX10_addPane 15 = .ok (.iload_n 1, 1) := by decide +kernel
theorem dX10_addPane_16 : decode cX10_addPane 16 = .ok (.iload_n 2, 1) := by decide +kernel
theorem dX10_addPane_17 : decode cX10_addPane 17 = .ok (.if_icmp .eq 13, 3) := by decide +kernel
theorem dX10_addPane_20 : decode cX10_addPane 20 = .ok (.iload_n 2, 1) := by decide +kernel
theorem dX10_addPane_21 : decode cX10_addPane 21 = .ok (.iload_n 3, 1) := by decide +kernel
theorem dX10_addPane_22 : decode cX10_addPane 22 = .ok (.if_icmp .eq 8, 3) := by decide +kernel
theorem dX10_addPane_25 : decode cX10_addPane 25 = .ok (.iload_n 3, 1) := by decide +kernel
theorem dX10_addPane_26 : decode cX10_addPane 26 = .ok (.iload_n 1, 1) := by decide +kernel
theorem dX10_addPane_27 : decode cX10_addPane 27 = .ok (.if_icmp .ne 13, 3) := by decide +kernel
theorem dX10_addPane_30 : decode cX10_addPane 30 = .ok (.new 90, 3) := by decide +kernel
theorem dX10_addPane_33 : decode cX10_addPane 33 = .ok (.dup, 1) := by decide +kernel
theorem dX10_addPane_34 : decode cX10_addPane 34 = .ok (.ldc 128, 2) := by decide +kernel
theorem dX10_addPane_36 : decode cX10_addPane 36 = .ok (.invokespecial 94, 3) := by decide +kernel
theorem dX10_addPane_39 : decode cX10_addPane 39 = .ok (.athrow, 1) := by decide +kernel
theorem dX10_addPane_40 : decode cX10_addPane 40 = .ok (.iload 4, 2) := by decide +kernel
theorem dX10_addPane_42 : decode cX10_addPane 42 = .ok (.iconst (-1), 1) := by decide +kernel
theorem dX10_addPane_43 : decode cX10_addPane 43 = .ok (.iconst 3, 1) := by decide +kernel
theorem dX10_addPane_44 : decode cX10_addPane 44 = .ok (.invokestatic 86, 3) := by decide +kernel
theorem dX10_addPane_47 : decode cX10_addPane 47 = .ok (.ifCond .ne 13, 3) := by decide +kernel
theorem dX10_addPane_50 : decode cX10_addPane 50 = .ok (.new 90, 3) := by decide +kernel
theorem dX10_addPane_53 : decode cX10_addPane 53 = .ok (.dup, 1) := by decide +kernel
theorem dX10_addPane_54 : decode cX10_addPane 54 = .ok (.ldc 130, 2) := by decide +kernel
theorem dX10_addPane_56 : decode cX10_addPane 56 = .ok (.invokespecial 94, 3) := by decide +kernel
theorem dX10_addPane_59 : decode cX10_addPane 59 = .ok (.athrow, 1) := by decide +kernel
theorem dX10_addPane_60 : decode cX10_addPane 60 = .ok (.aload_n 0, 1) := by decide +kernel
theorem dX10_addPane_61 : decode cX10_addPane 61 = .ok (.getfield 121, 3) := by decide +kernel
theorem dX10_addPane_64 : decode cX10_addPane 64 = .ok (.bipush 30, 2) := by decide +kernel
theorem dX10_addPane_66 : decode cX10_addPane 66 = .ok (.if_icmp .lt 13, 3) := by decide +kernel
theorem dX10_addPane_69 : decode cX10_addPane 69 = .ok (.new 101, 3) := by decide +kernel
theorem dX10_addPane_72 : decode cX10_addPane 72 = .ok (.dup, 1) := by decide +kernel
theorem dX10_addPane_73 : decode cX10_addPane 73 = .ok (.ldc 132, 2) := by decide +kernel
theorem dX10_addPane_75 : decode cX10_addPane 75 = .ok (.invokespecial 105, 3) := by decide +kernel
theorem dX10_addPane_78 : decode cX10_addPane 78 = .ok (.athrow, 1) := by decide +kernel
theorem dX10_addPane_79 : decode cX10_addPane 79 = .ok (.aload_n 0, 1) := by decide +kernel
theorem dX10_addPane_80 : decode cX10_addPane 80 = .ok (.getfield 121, 3) := by decide +kernel
theorem dX10_addPane_83 : decode cX10_addPane 83 = .ok (.istore 7, 2) := by decide +kernel
theorem dX10_addPane_85 : decode cX10_addPane 85 = .ok (.aload_n 0, 1) := by decide +kernel
theorem dX10_addPane_86 : decode cX10_addPane 86 = .ok (.getfield 17, 3) := by decide +kernel
theorem dX10_addPane_89 : decode cX10_addPane 89 = .ok (.iload 7, 2) := by decide +kernel
theorem dX10_addPane_91 : decode cX10_addPane 91 = .ok (.aaload, 1) := by decide +kernel
theorem dX10_addPane_92 : decode cX10_addPane 92 = .ok (.astore 8, 2) := by decide +kernel
theorem dX10_addPane_94 : decode cX10_addPane 94 = .ok (.aload 8, 2) := by decide +kernel
theorem dX10_addPane_96 : decode cX10_addPane 96 = .ok (.iload_n 1, 1) := by decide +kernel
theorem dX10_addPane_97 : decode cX10_addPane 97 = .ok (.iload_n 2, 1) := by decide +kernel
theorem dX10_addPane_98 : decode cX10_addPane 98 = .ok (.iload_n 3, 1) := by decide +kernel
theorem dX10_addPane_99 : decode cX10_addPane 99 = .ok (.invokevirtual 134, 3) := by decide +kernel
theorem dX10_addPane_102 : decode cX10_addPane 102 = .ok (.aload 8, 2) := by decide +kernel
theorem dX10_addPane_104 : decode cX10_addPane 104 = .ok (.iload 4, 2) := by decide +kernel
theorem dX10_addPane_106 : decode cX10_addPane 106 = .ok (.putfield 137, 3) := by decide +kernel
theorem dX10_addPane_109 : decode cX10_addPane 109 = .ok (.aload 8, 2) := by decide +kernel
theorem dX10_addPane_111 : decode cX10_addPane 111 = .ok (.iload 5, 2) := by decide +kernel
theorem dX10_addPane_113 : decode cX10_addPane 113 = .ok (.putfield 140, 3) := by decide +kernel
theorem dX10_addPane_116 : decode cX10_addPane 116 = .ok (.aload 8, 2) := by decide +kernel
theorem dX10_addPane_118 : decode cX10_addPane 118 = .ok (.iload 6, 2) := by decide +kernel
theorem dX10_addPane_120 : decode cX10_addPane 120 = .ok (.putfield 144, 3) := by decide +kernel
theorem dX10_addPane_123 : decode cX10_addPane 123 = .ok (.aload 8, 2) := by decide +kernel
theorem dX10_addPane_125 : decode cX10_addPane 125 = .ok (.iconst 1, 1) := by decide +kernel
theorem dX10_addPane_126 : decode cX10_addPane 126 = .ok (.putfield 147, 3) := by decide +kernel
theorem dX10_addPane_129 : decode cX10_addPane 129 = .ok (.aload_n 0, 1) := by decide +kernel
theorem dX10_addPane_130 : decode cX10_addPane 130 = .ok (.iload 7, 2) := by decide +kernel
theorem dX10_addPane_132 : decode cX10_addPane 132 = .ok (.iconst 1, 1) := by decide +kernel
theorem dX10_addPane_133 : decode cX10_addPane 133 = .ok (.iadd, 1) := by decide +kernel
theorem dX10_addPane_134 : decode cX10_addPane 134 = .ok (.putfield 121, 3) := by decide +kernel
theorem dX10_addPane_137 : decode cX10_addPane 137 = .ok (.iload 7, 2) := by decide +kernel
theorem dX10_addPane_139 : decode cX10_addPane 139 = .ok (.ireturn, 1) := by decide +kernel
def bk_X10_addPane_30 (F : Nat) (M : GM) : Option ((Nat × GM) ⊕ (Int32 × GM)) := some (Sum.inl (1, M))
set_option maxHeartbeats 4000000 in
set_option maxRecDepth 100000 in
theorem bw_X10_addPane_30 {x : GX} (X : GC x cX10_addPane 9 RX10 7)    {F : Nat} {M : GM} {r9 : ((Nat × GM) ⊕ (Int32 × GM))} (hR : ∀ (v9 : Int32) (M9 : GM) (lv9 : List (Nat × Value)) (pc9 : Nat), r9 = Sum.inr (v9, M9) → decode cX10_addPane pc9 = .ok (.ireturn, 1) → WG x M9 lv9 pc9 [.int v9]) (hX : ∀ (n9 : Nat) (M9 : GM), r9 = Sum.inl (n9, M9) → GThr x n9 M9) (h : bk_X10_addPane_30 F M = some r9) : WG x M [] 30 [] := by
  unfold bk_X10_addPane_30 at h
  exact gthr_1 X (by decide) (List.mem_of_getElem? (i := 11) rfl) (Nat.le_of_ble_eq_true rfl) dX10_addPane_30 dX10_addPane_33 (Or.inl ⟨dX10_addPane_34, dX10_addPane_36, dX10_addPane_39⟩) (hX 1 M (Option.some.inj h).symm)
def f_X10_addPane (F : Nat) (i0 : Int32) (i1 : Int32) (i2 : Int32) (i3 : Int32) (i4 : Int32) (i5 : Int32) (M : GM) : Option ((Nat × GM) ⊕ (Int32 × GM)) := bndT (f_X10_requireCorner F i0 M) (fun n2 => some (Sum.inl (n2, M))) (fun _ => bndT (f_X10_requireCorner F i1 M) (fun n4 => some (Sum.inl (n4, M))) (fun _ => bndT (f_X10_requireCorner F i2 M) (fun n6 => some (Sum.inl (n6, M))) (fun _ => if i0 = i1 then (bk_X10_addPane_30 F M) else (if i1 = i2 then (bk_X10_addPane_30 F M) else (if i2 = i0 then (bk_X10_addPane_30 F M) else (if (f_X10_isWithin i3 ((-1) : Int32) (3 : Int32)) = 0 then (some (Sum.inl (1, M))) else (if (gI M 0 13) < (30 : Int32) then (bnd (gI M 0 13) (fun v7 => grd (gIn v7 (gN 2)) (bnd (gR 2 v7.toNatClampNeg) (fun o10 => bnd (f_X4_join o10 i0 i1 i2 M) (fun M13 => bnd (sI M13 o10 3 i3) (fun M15 => grd (gTf i4) (bnd (sI M15 o10 4 i4) (fun M18 => grd (gTf i5) (bnd (sI M18 o10 5 i5) (fun M21 => bnd (sI M21 o10 6 (1 : Int32)) (fun M23 => bnd (sI M23 0 13 (v7 + (1 : Int32))) (fun M25 => some (Sum.inr (v7, M25)))))))))))))) else (some (Sum.inl (2, M))))))))))
set_option maxHeartbeats 4000000 in
set_option maxRecDepth 100000 in
theorem w_X10_addPane {x : GX} (X : GC x cX10_addPane 9 RX10 7) {i0 : Int32} {i1 : Int32} {i2 : Int32} {i3 : Int32} {i4 : Int32} {i5 : Int32}  {F : Nat} {M : GM} {r9 : ((Nat × GM) ⊕ (Int32 × GM))} (hR : ∀ (v9 : Int32) (M9 : GM) (lv9 : List (Nat × Value)) (pc9 : Nat), r9 = Sum.inr (v9, M9) → decode cX10_addPane pc9 = .ok (.ireturn, 1) → WG x M9 lv9 pc9 [.int v9]) (hX : ∀ (n9 : Nat) (M9 : GM), r9 = Sum.inl (n9, M9) → GThr x n9 M9) (h : f_X10_addPane F i0 i1 i2 i3 i4 i5 M = some r9) : WG x M [(0, .ref (gad (xz x) 0)), (1, .int i0), (2, .int i1), (3, .int i2), (4, .int i3), (5, .int i4), (6, .int i5)] 0 [] := by
  unfold f_X10_addPane at h
  refine g_aload_n X (j := 0) dX10_addPane_0 rfl rfl ?_
  refine g_iload_n X (j := 1) dX10_addPane_1 rfl rfl ?_
  rcases bndT_e h with ⟨n2, hc1, h⟩ | ⟨⟨⟩, hc1, h⟩
  · exact gx_X10_118 X gT_c0 (cx_X10_requireCorner X.htr  hc1) (by decide) (Nat.le_of_ble_eq_true rfl) dX10_addPane_2 (hX n2 M (Option.some.inj h).symm)
  refine gc_X10_118 X gT_c0 (ct_X10_requireCorner X.htr  hc1) (by decide) (Nat.le_of_ble_eq_true rfl) dX10_addPane_2 ?_
  refine g_aload_n X (j := 0) dX10_addPane_5 rfl rfl ?_
  refine g_iload_n X (j := 2) dX10_addPane_6 rfl rfl ?_
  rcases bndT_e h with ⟨n4, hc3, h⟩ | ⟨⟨⟩, hc3, h⟩
  · exact gx_X10_118 X gT_c0 (cx_X10_requireCorner X.htr  hc3) (by decide) (Nat.le_of_ble_eq_true rfl) dX10_addPane_7 (hX n4 M (Option.some.inj h).symm)
  refine gc_X10_118 X gT_c0 (ct_X10_requireCorner X.htr  hc3) (by decide) (Nat.le_of_ble_eq_true rfl) dX10_addPane_7 ?_
  refine g_aload_n X (j := 0) dX10_addPane_10 rfl rfl ?_
  refine g_iload_n X (j := 3) dX10_addPane_11 rfl rfl ?_
  rcases bndT_e h with ⟨n6, hc5, h⟩ | ⟨⟨⟩, hc5, h⟩
  · exact gx_X10_118 X gT_c0 (cx_X10_requireCorner X.htr  hc5) (by decide) (Nat.le_of_ble_eq_true rfl) dX10_addPane_12 (hX n6 M (Option.some.inj h).symm)
  refine gc_X10_118 X gT_c0 (ct_X10_requireCorner X.htr  hc5) (by decide) (Nat.le_of_ble_eq_true rfl) dX10_addPane_12 ?_
  refine g_iload_n X (j := 1) dX10_addPane_15 rfl rfl ?_
  refine g_iload_n X (j := 2) dX10_addPane_16 rfl rfl ?_
  refine g_icmp_eq X (tgt := 30) dX10_addPane_17 (by decide) (fun hb => ?_) (fun hb => ?_)
  · have h := ite_t hb h
    refine g_lv [] rfl ?_
    exact bw_X10_addPane_30 X  hR hX h
  · have h := ite_f hb h
    refine g_iload_n X (j := 2) dX10_addPane_20 rfl rfl ?_
    refine g_iload_n X (j := 3) dX10_addPane_21 rfl rfl ?_
    refine g_icmp_eq X (tgt := 30) dX10_addPane_22 (by decide) (fun hb => ?_) (fun hb => ?_)
    · have h := ite_t hb h
      refine g_lv [] rfl ?_
      exact bw_X10_addPane_30 X  hR hX h
    · have h := ite_f hb h
      refine g_iload_n X (j := 3) dX10_addPane_25 rfl rfl ?_
      refine g_iload_n X (j := 1) dX10_addPane_26 rfl rfl ?_
      refine g_icmp_ne X (tgt := 40) dX10_addPane_27 (by decide) (fun hb => ?_) (fun hb => ?_)
      · have h := ite_f hb h
        refine g_iload X (j := 4) dX10_addPane_40 rfl ?_
        refine g_iconst X (v := (-1)) dX10_addPane_42 (by decide) ?_
        refine g_iconst X (v := 3) dX10_addPane_43 (by decide) ?_
        refine gc_X10_86 X (ct_X10_isWithin X.htr ) (by decide) (Nat.le_of_ble_eq_true rfl) dX10_addPane_44 ?_
        refine g_if_ne X (tgt := 60) dX10_addPane_47 (by decide) (fun hb => ?_) (fun hb => ?_)
        · have h := ite_f hb h
          refine g_aload_n X (j := 0) dX10_addPane_60 rfl rfl ?_
          refine gf_X10_121 X gT_c0 dX10_addPane_61 ?_
          refine g_bipush X (v := 30) dX10_addPane_64 (by decide) ?_
          refine g_icmp_lt X (tgt := 79) dX10_addPane_66 (by decide) (fun hb => ?_) (fun hb => ?_)
          · have h := ite_t hb h
            refine g_aload_n X (j := 0) dX10_addPane_79 rfl rfl ?_
            refine gf_X10_121 X gT_c0 dX10_addPane_80 ?_
            refine g_topi (fun v7 e8 => ?_)
            have h := bnd_e e8 h
            refine g_istore X (lv' := [(7, .int v7), (0, .ref (gad (xz x) 0)), (1, .int i0), (2, .int i1), (3, .int i2), (4, .int i3), (5, .int i4), (6, .int i5)]) dX10_addPane_83 (by decide) rfl ?_
            refine g_aload_n X (j := 1) dX10_addPane_85 rfl rfl ?_
            refine gf_X10_17 X gT_c0 dX10_addPane_86 ?_
            refine g_iload X (j := 0) dX10_addPane_89 rfl ?_
            obtain ⟨hg9, h⟩ := grd_e h
            refine g_aald_24 X gT_c2 hg9 dX10_addPane_91 ?_
            refine g_topr (fun o10 e11 => ?_)
            have h := bnd_e e11 h
            have k12 : gT o10 = 4 := by rw [e11]; exact gR_24 gT_c2 (gIn_lt hg9)
            refine g_astore X (lv' := [(8, .ref (gad (xz x) o10)), (7, .int v7), (0, .ref (gad (xz x) 0)), (1, .int i0), (2, .int i1), (3, .int i2), (4, .int i3), (5, .int i4), (6, .int i5)]) dX10_addPane_92 (by decide) rfl ?_
            refine g_aload X (j := 0) dX10_addPane_94 rfl ?_
            refine g_iload_n X (j := 3) dX10_addPane_96 rfl rfl ?_
            refine g_iload_n X (j := 4) dX10_addPane_97 rfl rfl ?_
            refine g_iload_n X (j := 5) dX10_addPane_98 rfl rfl ?_
            refine gc_X10_134 X k12 (ct_X4_join X.htr k12) (by decide) (Nat.le_of_ble_eq_true rfl) dX10_addPane_99 ?_
            refine g_mem (fun M13 e14 => ?_)
            have h := bnd_e e14 h
            refine g_aload X (j := 0) dX10_addPane_102 rfl ?_
            refine g_iload X (j := 6) dX10_addPane_104 rfl ?_
            refine gp_X10_137 X k12 dX10_addPane_106 ?_
            refine g_mem (fun M15 e16 => ?_)
            have h := bnd_e e16 h
            refine g_aload X (j := 0) dX10_addPane_109 rfl ?_
            refine g_iload X (j := 7) dX10_addPane_111 rfl ?_
            obtain ⟨hg17, h⟩ := grd_e h
            refine gp_X10_140 X k12 (gTf_of hg17) dX10_addPane_113 ?_
            refine g_mem (fun M18 e19 => ?_)
            have h := bnd_e e19 h
            refine g_aload X (j := 0) dX10_addPane_116 rfl ?_
            refine g_iload X (j := 8) dX10_addPane_118 rfl ?_
            obtain ⟨hg20, h⟩ := grd_e h
            refine gp_X10_144 X k12 (gTf_of hg20) dX10_addPane_120 ?_
            refine g_mem (fun M21 e22 => ?_)
            have h := bnd_e e22 h
            refine g_aload X (j := 0) dX10_addPane_123 rfl ?_
            refine g_iconst X (v := 1) dX10_addPane_125 (by decide) ?_
            refine gp_X10_147 X k12 (Or.inr rfl) dX10_addPane_126 ?_
            refine g_mem (fun M23 e24 => ?_)
            have h := bnd_e e24 h
            refine g_aload_n X (j := 2) dX10_addPane_129 rfl rfl ?_
            refine g_iload X (j := 1) dX10_addPane_130 rfl ?_
            refine g_iconst X (v := 1) dX10_addPane_132 (by decide) ?_
            refine g_iadd X dX10_addPane_133 ?_
            refine gp_X10_121 X gT_c0 dX10_addPane_134 ?_
            refine g_mem (fun M25 e26 => ?_)
            have h := bnd_e e26 h
            refine g_iload X (j := 1) dX10_addPane_137 rfl ?_
            exact hR v7 M25 _ _ (Option.some.inj h).symm dX10_addPane_139
          · have h := ite_f hb h
            exact gthr_2 X (by decide) (List.mem_of_getElem? (i := 13) rfl) (Nat.le_of_ble_eq_true rfl) dX10_addPane_69 dX10_addPane_72 (Or.inl ⟨dX10_addPane_73, dX10_addPane_75, dX10_addPane_78⟩) (hX 2 M (Option.some.inj h).symm)
        · have h := ite_t hb h
          exact gthr_1 X (by decide) (List.mem_of_getElem? (i := 12) rfl) (Nat.le_of_ble_eq_true rfl) dX10_addPane_50 dX10_addPane_53 (Or.inl ⟨dX10_addPane_54, dX10_addPane_56, dX10_addPane_59⟩) (hX 1 M (Option.some.inj h).symm)
      · have h := ite_t hb h
        refine g_lv [] rfl ?_
        exact bw_X10_addPane_30 X  hR hX h
theorem ct_X10_addPane {l : Launch} {z : GZ} (htr : l.stackTraces = false) {i0 : Int32} {i1 : Int32} {i2 : Int32} {i3 : Int32} {i4 : Int32} {i5 : Int32}  {M : GM} {F : Nat} {v : Int32} {M1 : GM} (h : f_X10_addPane F i0 i1 i2 i3 i4 i5 M = some (Sum.inr (v, M1))) : gMet l z yX10_addPane cX10_addPane 9 (some .int) 7 [.ref (gad z 0), .int i0, .int i1, .int i2, .int i3, .int i4, .int i5] M (some (.int v)) M1 := gMet_ofI (by decide +kernel) (Nat.le_of_ble_eq_true rfl) htr rfl (fun x X ez el hR => by subst ez; subst el; exact w_X10_addPane X  (fun v9 M9 lv9 pc9 e9 d9 => by cases e9; exact hR lv9 pc9 d9) (by intros; rename_i e9; cases e9) h)
theorem cx_X10_addPane {l : Launch} {z : GZ} (htr : l.stackTraces = false) {i0 : Int32} {i1 : Int32} {i2 : Int32} {i3 : Int32} {i4 : Int32} {i5 : Int32}  {M : GM} {F n : Nat} {M1 : GM} (h : f_X10_addPane F i0 i1 i2 i3 i4 i5 M = some (Sum.inl (n, M1))) : gMetX l z yX10_addPane cX10_addPane 9 (some .int) 7 [.ref (gad z 0), .int i0, .int i1, .int i2, .int i3, .int i4, .int i5] M n M1 := gMetX_of (by decide +kernel) (Nat.le_of_ble_eq_true rfl) htr (fun x X ez el hT => by subst ez; subst el; exact w_X10_addPane X  (by intros; rename_i e9 _; cases e9) (fun n9 M9 e9 => by cases e9; exact hT) h)
theorem dX10_requirePane_0 : decode cX10_requirePane 0 = .ok (.iload_n 1, 1) := by decide +kernel
theorem dX10_requirePane_1 : decode cX10_requirePane 1 = .ok (.iconst 0, 1) := by decide +kernel
theorem dX10_requirePane_2 : decode cX10_requirePane 2 = .ok (.aload_n 0, 1) := by decide +kernel
theorem dX10_requirePane_3 : decode cX10_requirePane 3 = .ok (.getfield 121, 3) := by decide +kernel
theorem dX10_requirePane_6 : decode cX10_requirePane 6 = .ok (.iconst 1, 1) := by decide +kernel
theorem dX10_requirePane_7 : decode cX10_requirePane 7 = .ok (.isub, 1) := by decide +kernel
theorem dX10_requirePane_8 : decode cX10_requirePane 8 = .ok (.invokestatic 86, 3) := by decide +kernel
theorem dX10_requirePane_11 : decode cX10_requirePane 11 = .ok (.ifCond .ne 14, 3) := by decide +kernel
theorem dX10_requirePane_14 : decode cX10_requirePane 14 = .ok (.new 156, 3) := by decide +kernel
theorem dX10_requirePane_17 : decode cX10_requirePane 17 = .ok (.dup, 1) := by decide +kernel
theorem dX10_requirePane_18 : decode cX10_requirePane 18 = .ok (.ldc_w 393, 3) := by decide +kernel
theorem dX10_requirePane_21 : decode cX10_requirePane 21 = .ok (.invokespecial 160, 3) := by decide +kernel
theorem dX10_requirePane_24 : decode cX10_requirePane 24 = .ok (.athrow, 1) := by decide +kernel
theorem dX10_requirePane_25 : decode cX10_requirePane 25 = .ok (.return_, 1) := by decide +kernel
def f_X10_requirePane (F : Nat) (i0 : Int32) (M : GM) : Option (Nat ⊕ Unit) := if (f_X10_isWithin i0 (0 : Int32) ((gI M 0 13) - (1 : Int32))) = 0 then (some (Sum.inl 3)) else (some (Sum.inr ()))
set_option maxHeartbeats 4000000 in
set_option maxRecDepth 100000 in
theorem w_X10_requirePane {x : GX} (X : GC x cX10_requirePane 2 RX10 6) {i0 : Int32}  {F : Nat} {M : GM} {r9 : (Nat ⊕ Unit)} (hR : ∀ (lv9 : List (Nat × Value)) (pc9 : Nat), r9 = Sum.inr () → decode cX10_requirePane pc9 = .ok (.return_, 1) → WG x M lv9 pc9 []) (hX : ∀ (n9 : Nat), r9 = Sum.inl n9 → GThr x n9 M) (h : f_X10_requirePane F i0 M = some r9) : WG x M [(0, .ref (gad (xz x) 0)), (1, .int i0)] 0 [] := by
  unfold f_X10_requirePane at h
  refine g_iload_n X (j := 1) dX10_requirePane_0 rfl rfl ?_
  refine g_iconst X (v := 0) dX10_requirePane_1 (by decide) ?_
  refine g_aload_n X (j := 0) dX10_requirePane_2 rfl rfl ?_
  refine gf_X10_121 X gT_c0 dX10_requirePane_3 ?_
  refine g_iconst X (v := 1) dX10_requirePane_6 (by decide) ?_
  refine g_isub X dX10_requirePane_7 ?_
  refine gc_X10_86 X (ct_X10_isWithin X.htr ) (by decide) (Nat.le_of_ble_eq_true rfl) dX10_requirePane_8 ?_
  refine g_if_ne X (tgt := 25) dX10_requirePane_11 (by decide) (fun hb => ?_) (fun hb => ?_)
  · have h := ite_f hb h
    exact hR  _ _ (Option.some.inj h).symm dX10_requirePane_25
  · have h := ite_t hb h
    exact gthr_3 X (by decide) (List.mem_of_getElem? (i := 2) rfl) (Nat.le_of_ble_eq_true rfl) dX10_requirePane_14 dX10_requirePane_17 (Or.inr ⟨dX10_requirePane_18, dX10_requirePane_21, dX10_requirePane_24⟩) (hX 3 (Option.some.inj h).symm)
theorem ct_X10_requirePane {l : Launch} {z : GZ} (htr : l.stackTraces = false) {i0 : Int32}  {M : GM} {F : Nat} (h : f_X10_requirePane F i0 M = some (Sum.inr ())) : gMet l z yX10_requirePane cX10_requirePane 2 none 6 [.ref (gad z 0), .int i0] M (none) M := gMet_ofV (by decide +kernel) (Nat.le_of_ble_eq_true rfl) htr (fun x X ez el hR => by subst ez; subst el; exact w_X10_requirePane X  (fun  lv9 pc9 e9 d9 => by cases e9; exact hR lv9 pc9 d9) (by intros; rename_i e9; cases e9) h)
theorem cx_X10_requirePane {l : Launch} {z : GZ} (htr : l.stackTraces = false) {i0 : Int32}  {M : GM} {F n : Nat} (h : f_X10_requirePane F i0 M = some (Sum.inl n)) : gMetX l z yX10_requirePane cX10_requirePane 2 none 6 [.ref (gad z 0), .int i0] M n M := gMetX_of (by decide +kernel) (Nat.le_of_ble_eq_true rfl) htr (fun x X ez el hT => by subst ez; subst el; exact w_X10_requirePane X  (by intros; rename_i e9 _; cases e9) (fun n9 e9 => by cases e9; exact hT) h)
theorem gc_X10_150 {x : GX} {cc : ByteArray} {nL d pc : Nat} {M : GM} {lv : List (Nat × Value)} {st : List Value} (X : GC x cc nL RX10 d) {i0 : Int32} {M1 : GM} (ht : gT 0 = 10) (hM : gMet (xl x) (xz x) yX10_requirePane cX10_requirePane 2 none 6 [.ref (gad (xz x) 0), .int i0] M (none) M1) (hd : 7 ≤ d) (hsum : (st.map fun v => v.category).sum ≤ 8) (dec : decode cc pc = .ok (.invokevirtual 150, 3)) (go : WG x M1 lv (pc + 3) (st)) : WG x M lv pc (.int i0 :: .ref (gad (xz x) 0) :: st) := g_callV X (n := 1) (As := [.int i0]) (rest := st) hM ht (by decide) (gE_10 ht) rfl q_150 q_152 q_2 q_17 q_153 (by decide +kernel) rfl hd (by decide) rfl hsum dec go
theorem gx_X10_150 {x : GX} {cc : ByteArray} {nL d pc : Nat} {M : GM} {lv : List (Nat × Value)} {st : List Value} (X : GC x cc nL RX10 d) {i0 : Int32} {M1 : GM} {n9 : Nat} (ht : gT 0 = 10) (hM : gMetX (xl x) (xz x) yX10_requirePane cX10_requirePane 2 none 6 [.ref (gad (xz x) 0), .int i0] M n9 M1) (hd : 7 ≤ d) (hsum : (st.map fun v => v.category).sum ≤ 8) (dec : decode cc pc = .ok (.invokevirtual 150, 3)) (hT : GThr x n9 M1) : WG x M lv pc (.int i0 :: .ref (gad (xz x) 0) :: st) := g_xV X (n := 1) (As := [.int i0]) (rest := st) hM ht (by decide) (gE_10 ht) rfl q_150 q_152 q_2 q_17 q_153 (by decide +kernel) rfl hd (by decide) rfl hsum dec hT
theorem dX10_show_0 : decode cX10_show 0 = .ok (.aload_n 0, 1) := by decide +kernel
theorem dX10_show_1 : decode cX10_show 1 = .ok (.iload_n 1, 1) := by decide +kernel
theorem dX10_show_2 : decode cX10_show 2 = .ok (.invokevirtual 150, 3) := by decide +kernel
theorem dX10_show_5 : decode cX10_show 5 = .ok (.aload_n 0, 1) := by decide +kernel
theorem dX10_show_6 : decode cX10_show 6 = .ok (.getfield 17, 3) := by decide +kernel
theorem dX10_show_9 : decode cX10_show 9 = .ok (.iload_n 1, 1) := by decide +kernel
theorem dX10_show_10 : decode cX10_show 10 = .ok (.aaload, 1) := by decide +kernel
theorem dX10_show_11 : decode cX10_show 11 = .ok (.getfield 147, 3) := by decide +kernel
theorem dX10_show_14 : decode cX10_show 14 = .ok (.istore_n 3, 1) := by decide +kernel
theorem dX10_show_15 : decode cX10_show 15 = .ok (.aload_n 0, 1) := by decide +kernel
theorem dX10_show_16 : decode cX10_show 16 = .ok (.getfield 17, 3) := by decide +kernel
theorem dX10_show_19 : decode cX10_show 19 = .ok (.iload_n 1, 1) := by decide +kernel
theorem dX10_show_20 : decode cX10_show 20 = .ok (.aaload, 1) := by decide +kernel
theorem dX10_show_21 : decode cX10_show 21 = .ok (.iload_n 2, 1) := by decide +kernel
theorem dX10_show_22 : decode cX10_show 22 = .ok (.putfield 147, 3) := by decide +kernel
theorem dX10_show_25 : decode cX10_show 25 = .ok (.iload_n 3, 1) := by decide +kernel
theorem dX10_show_26 : decode cX10_show 26 = .ok (.ireturn, 1) := by decide +kernel
def f_X10_show (F : Nat) (i0 : Int32) (i1 : Int32) (M : GM) : Option ((Nat × GM) ⊕ (Int32 × GM)) := bndT (f_X10_requirePane F i0 M) (fun n2 => some (Sum.inl (n2, M))) (fun _ => grd (gIn i0 (gN 2)) (bnd (gR 2 i0.toNatClampNeg) (fun o4 => bnd (gI M o4 6) (fun v7 => grd (gIn i0 (gN 2)) (bnd (gR 2 i0.toNatClampNeg) (fun o10 => grd (gTf i1) (bnd (sI M o10 6 i1) (fun M14 => grd (gTf v7) (some (Sum.inr (v7, M14)))))))))))
set_option maxHeartbeats 4000000 in
set_option maxRecDepth 100000 in
theorem w_X10_show {x : GX} (X : GC x cX10_show 4 RX10 7) {i0 : Int32} {i1 : Int32}  {F : Nat} {M : GM} {r9 : ((Nat × GM) ⊕ (Int32 × GM))} (hR : ∀ (v9 : Int32) (M9 : GM) (lv9 : List (Nat × Value)) (pc9 : Nat), r9 = Sum.inr (v9, M9) → (v9 = 0 ∨ v9 = 1) → decode cX10_show pc9 = .ok (.ireturn, 1) → WG x M9 lv9 pc9 [.int v9]) (hX : ∀ (n9 : Nat) (M9 : GM), r9 = Sum.inl (n9, M9) → GThr x n9 M9) (h : f_X10_show F i0 i1 M = some r9) : WG x M [(0, .ref (gad (xz x) 0)), (1, .int i0), (2, .int i1)] 0 [] := by
  unfold f_X10_show at h
  refine g_aload_n X (j := 0) dX10_show_0 rfl rfl ?_
  refine g_iload_n X (j := 1) dX10_show_1 rfl rfl ?_
  rcases bndT_e h with ⟨n2, hc1, h⟩ | ⟨⟨⟩, hc1, h⟩
  · exact gx_X10_150 X gT_c0 (cx_X10_requirePane X.htr  hc1) (by decide) (Nat.le_of_ble_eq_true rfl) dX10_show_2 (hX n2 M (Option.some.inj h).symm)
  refine gc_X10_150 X gT_c0 (ct_X10_requirePane X.htr  hc1) (by decide) (Nat.le_of_ble_eq_true rfl) dX10_show_2 ?_
  refine g_aload_n X (j := 0) dX10_show_5 rfl rfl ?_
  refine gf_X10_17 X gT_c0 dX10_show_6 ?_
  refine g_iload_n X (j := 1) dX10_show_9 rfl rfl ?_
  obtain ⟨hg3, h⟩ := grd_e h
  refine g_aald_24 X gT_c2 hg3 dX10_show_10 ?_
  refine g_topr (fun o4 e5 => ?_)
  have h := bnd_e e5 h
  have k6 : gT o4 = 4 := by rw [e5]; exact gR_24 gT_c2 (gIn_lt hg3)
  refine gf_X10_147 X k6 dX10_show_11 ?_
  refine g_topi (fun v7 e8 => ?_)
  have h := bnd_e e8 h
  refine g_istore_n X (lv' := [(3, .int v7), (0, .ref (gad (xz x) 0)), (1, .int i0), (2, .int i1)]) dX10_show_14 rfl (by decide) rfl ?_
  refine g_aload_n X (j := 1) dX10_show_15 rfl rfl ?_
  refine gf_X10_17 X gT_c0 dX10_show_16 ?_
  refine g_iload_n X (j := 2) dX10_show_19 rfl rfl ?_
  obtain ⟨hg9, h⟩ := grd_e h
  refine g_aald_24 X gT_c2 hg9 dX10_show_20 ?_
  refine g_topr (fun o10 e11 => ?_)
  have h := bnd_e e11 h
  have k12 : gT o10 = 4 := by rw [e11]; exact gR_24 gT_c2 (gIn_lt hg9)
  refine g_iload_n X (j := 3) dX10_show_21 rfl rfl ?_
  obtain ⟨hg13, h⟩ := grd_e h
  refine gp_X10_147 X k12 (gTf_of hg13) dX10_show_22 ?_
  refine g_mem (fun M14 e15 => ?_)
  have h := bnd_e e15 h
  refine g_iload_n X (j := 0) dX10_show_25 rfl rfl ?_
  obtain ⟨hg16, h⟩ := grd_e h
  exact hR v7 M14 _ _ (Option.some.inj h).symm (gTf_of hg16) dX10_show_26
theorem ct_X10_show {l : Launch} {z : GZ} (htr : l.stackTraces = false) {i0 : Int32} {i1 : Int32}  {M : GM} {F : Nat} {v : Int32} {M1 : GM} (h : f_X10_show F i0 i1 M = some (Sum.inr (v, M1))) : gMet l z yX10_show cX10_show 4 (some .boolean) 7 [.ref (gad z 0), .int i0, .int i1] M (some (.int v)) M1 := gMet_ofZ (by decide +kernel) (Nat.le_of_ble_eq_true rfl) htr (fun x X ez el hR => by subst ez; subst el; exact w_X10_show X  (fun v9 M9 lv9 pc9 e9 z9 d9 => by cases e9; exact hR lv9 pc9 z9 d9) (by intros; rename_i e9; cases e9) h)
theorem cx_X10_show {l : Launch} {z : GZ} (htr : l.stackTraces = false) {i0 : Int32} {i1 : Int32}  {M : GM} {F n : Nat} {M1 : GM} (h : f_X10_show F i0 i1 M = some (Sum.inl (n, M1))) : gMetX l z yX10_show cX10_show 4 (some .boolean) 7 [.ref (gad z 0), .int i0, .int i1] M n M1 := gMetX_of (by decide +kernel) (Nat.le_of_ble_eq_true rfl) htr (fun x X ez el hT => by subst ez; subst el; exact w_X10_show X  (by intros; rename_i e9 _ _; cases e9) (fun n9 M9 e9 => by cases e9; exact hT) h)
theorem dX10_requirePattern_0 : decode cX10_requirePattern 0 = .ok (.iload_n 0, 1) := by decide +kernel
theorem dX10_requirePattern_1 : decode cX10_requirePattern 1 = .ok (.iconst 0, 1) := by decide +kernel
theorem dX10_requirePattern_2 : decode cX10_requirePattern 2 = .ok (.iconst 3, 1) := by decide +kernel
theorem dX10_requirePattern_3 : decode cX10_requirePattern 3 = .ok (.invokestatic 86, 3) := by decide +kernel
theorem dX10_requirePattern_6 : decode cX10_requirePattern 6 = .ok (.ifCond .ne 14, 3) := by decide +kernel
theorem dX10_requirePattern_9 : decode cX10_requirePattern 9 = .ok (.new 156, 3) := by decide +kernel
theorem dX10_requirePattern_12 : decode cX10_requirePattern 12 = .ok (.dup, 1) := by decide +kernel
theorem dX10_requirePattern_13 : decode cX10_requirePattern 13 = .ok (.ldc_w 397, 3) := by decide +kernel
theorem dX10_requirePattern_16 : decode cX10_requirePattern 16 = .ok (.invokespecial 160, 3) := by decide +kernel
theorem dX10_requirePattern_19 : decode cX10_requirePattern 19 = .ok (.athrow, 1) := by decide +kernel
theorem dX10_requirePattern_20 : decode cX10_requirePattern 20 = .ok (.return_, 1) := by decide +kernel
def f_X10_requirePattern (F : Nat) (i0 : Int32) (M : GM) : Option (Nat ⊕ Unit) := if (f_X10_isWithin i0 (0 : Int32) (3 : Int32)) = 0 then (some (Sum.inl 3)) else (some (Sum.inr ()))
set_option maxHeartbeats 4000000 in
set_option maxRecDepth 100000 in
theorem w_X10_requirePattern {x : GX} (X : GC x cX10_requirePattern 1 RX10 6) {i0 : Int32}  {F : Nat} {M : GM} {r9 : (Nat ⊕ Unit)} (hR : ∀ (lv9 : List (Nat × Value)) (pc9 : Nat), r9 = Sum.inr () → decode cX10_requirePattern pc9 = .ok (.return_, 1) → WG x M lv9 pc9 []) (hX : ∀ (n9 : Nat), r9 = Sum.inl n9 → GThr x n9 M) (h : f_X10_requirePattern F i0 M = some r9) : WG x M [(0, .int i0)] 0 [] := by
  unfold f_X10_requirePattern at h
  refine g_iload_n X (j := 0) dX10_requirePattern_0 rfl rfl ?_
  refine g_iconst X (v := 0) dX10_requirePattern_1 (by decide) ?_
  refine g_iconst X (v := 3) dX10_requirePattern_2 (by decide) ?_
  refine gc_X10_86 X (ct_X10_isWithin X.htr ) (by decide) (Nat.le_of_ble_eq_true rfl) dX10_requirePattern_3 ?_
  refine g_if_ne X (tgt := 20) dX10_requirePattern_6 (by decide) (fun hb => ?_) (fun hb => ?_)
  · have h := ite_f hb h
    exact hR  _ _ (Option.some.inj h).symm dX10_requirePattern_20
  · have h := ite_t hb h
    exact gthr_3 X (by decide) (List.mem_of_getElem? (i := 14) rfl) (Nat.le_of_ble_eq_true rfl) dX10_requirePattern_9 dX10_requirePattern_12 (Or.inr ⟨dX10_requirePattern_13, dX10_requirePattern_16, dX10_requirePattern_19⟩) (hX 3 (Option.some.inj h).symm)
theorem ct_X10_requirePattern {l : Launch} {z : GZ} (htr : l.stackTraces = false) {i0 : Int32}  {M : GM} {F : Nat} (h : f_X10_requirePattern F i0 M = some (Sum.inr ())) : gMet l z yX10_requirePattern cX10_requirePattern 1 none 6 [.int i0] M (none) M := gMet_ofV (by decide +kernel) (Nat.le_of_ble_eq_true rfl) htr (fun x X ez el hR => by subst ez; subst el; exact w_X10_requirePattern X  (fun  lv9 pc9 e9 d9 => by cases e9; exact hR lv9 pc9 d9) (by intros; rename_i e9; cases e9) h)
theorem cx_X10_requirePattern {l : Launch} {z : GZ} (htr : l.stackTraces = false) {i0 : Int32}  {M : GM} {F n : Nat} (h : f_X10_requirePattern F i0 M = some (Sum.inl n)) : gMetX l z yX10_requirePattern cX10_requirePattern 1 none 6 [.int i0] M n M := gMetX_of (by decide +kernel) (Nat.le_of_ble_eq_true rfl) htr (fun x X ez el hT => by subst ez; subst el; exact w_X10_requirePattern X  (by intros; rename_i e9 _; cases e9) (fun n9 e9 => by cases e9; exact hT) h)
theorem gc_X10_153 {x : GX} {cc : ByteArray} {nL d pc : Nat} {M : GM} {lv : List (Nat × Value)} {st : List Value} (X : GC x cc nL RX10 d) {i0 : Int32} {M1 : GM} (hM : gMet (xl x) (xz x) yX10_requirePattern cX10_requirePattern 1 none 6 [.int i0] M (none) M1) (hd : 7 ≤ d) (hsum : (st.map fun v => v.category).sum ≤ 8) (dec : decode cc pc = .ok (.invokestatic 153, 3)) (go : WG x M1 lv (pc + 3) (st)) : WG x M lv pc (.int i0 :: st) := g_callS X (n := 1) (As := [.int i0]) (rest := st) hM q_953 q_954 q_17 q_955 (by decide +kernel) rfl hd (by decide) rfl hsum dec go
theorem gx_X10_153 {x : GX} {cc : ByteArray} {nL d pc : Nat} {M : GM} {lv : List (Nat × Value)} {st : List Value} (X : GC x cc nL RX10 d) {i0 : Int32} {M1 : GM} {n9 : Nat} (hM : gMetX (xl x) (xz x) yX10_requirePattern cX10_requirePattern 1 none 6 [.int i0] M n9 M1) (hd : 7 ≤ d) (hsum : (st.map fun v => v.category).sum ≤ 8) (dec : decode cc pc = .ok (.invokestatic 153, 3)) (hT : GThr x n9 M1) : WG x M lv pc (.int i0 :: st) := g_xS X (n := 1) (As := [.int i0]) (rest := st) hM q_953 q_954 q_17 q_955 (by decide +kernel) rfl hd (by decide) rfl hsum dec hT
theorem dX10_setPattern_0 : decode cX10_setPattern 0 = .ok (.iload_n 1, 1) := by decide +kernel
theorem dX10_setPattern_1 : decode cX10_setPattern 1 = .ok (.invokestatic 153, 3) := by decide +kernel
theorem dX10_setPattern_4 : decode cX10_setPattern 4 = .ok (.iload_n 2, 1) := by decide +kernel
theorem dX10_setPattern_5 : decode cX10_setPattern 5 = .ok (.iconst 0, 1) := by decide +kernel
theorem dX10_setPattern_6 : decode cX10_setPattern 6 = .ok (.bipush 7, 2) := by decide +kernel
theorem dX10_setPattern_8 : decode cX10_setPattern 8 = .ok (.invokestatic 86, 3) := by decide +kernel
theorem dX10_setPattern_11 : decode cX10_setPattern 11 = .ok (.ifCond .eq 13, 3) := by decide +kernel
theorem dX10_setPattern_14 : decode cX10_setPattern 14 = .ok (.iload_n 3, 1) := by decide +kernel
theorem dX10_setPattern_15 : decode cX10_setPattern 15 = .ok (.iconst 0, 1) := by decide +kernel
theorem dX10_setPattern_16 : decode cX10_setPattern 16 = .ok (.bipush 7, 2) := by decide +kernel
theorem dX10_setPattern_18 : decode cX10_setPattern 18 = .ok (.invokestatic 86, 3) := by decide +kernel
theorem dX10_setPattern_21 : decode cX10_setPattern 21 = .ok (.ifCond .ne 13, 3) := by decide +kernel
theorem dX10_setPattern_24 : decode cX10_setPattern 24 = .ok (.new 156, 3) := by decide +kernel
theorem dX10_setPattern_27 : decode cX10_setPattern 27 = .ok (.dup, 1) := by decide +kernel
theorem dX10_setPattern_28 : decode cX10_setPattern 28 = .ok (.ldc 158, 2) := by decide +kernel
theorem dX10_setPattern_30 : decode cX10_setPattern 30 = .ok (.invokespecial 160, 3) := by decide +kernel
theorem dX10_setPattern_33 : decode cX10_setPattern 33 = .ok (.athrow, 1) := by decide +kernel
theorem dX10_setPattern_34 : decode cX10_setPattern 34 = .ok (.iload 4, 2) := by decide +kernel
theorem dX10_setPattern_36 : decode cX10_setPattern 36 = .ok (.invokestatic 82, 3) := by decide +kernel
theorem dX10_setPattern_39 : decode cX10_setPattern 39 = .ok (.aload_n 0, 1) := by decide +kernel
theorem dX10_setPattern_40 : decode cX10_setPattern 40 = .ok (.getfield 23, 3) := by decide +kernel
theorem dX10_setPattern_43 : decode cX10_setPattern 43 = .ok (.iload_n 1, 1) := by decide +kernel
theorem dX10_setPattern_44 : decode cX10_setPattern 44 = .ok (.aaload, 1) := by decide +kernel
theorem dX10_setPattern_45 : decode cX10_setPattern 45 = .ok (.getfield 161, 3) := by decide +kernel
theorem dX10_setPattern_48 : decode cX10_setPattern 48 = .ok (.astore 5, 2) := by decide +kernel
theorem dX10_setPattern_50 : decode cX10_setPattern 50 = .ok (.iload_n 3, 1) := by decide +kernel
theorem dX10_setPattern_51 : decode cX10_setPattern 51 = .ok (.bipush 8, 2) := by decide +kernel
theorem dX10_setPattern_53 : decode cX10_setPattern 53 = .ok (.imul, 1) := by decide +kernel
theorem dX10_setPattern_54 : decode cX10_setPattern 54 = .ok (.iload_n 2, 1) := by decide +kernel
theorem dX10_setPattern_55 : decode cX10_setPattern 55 = .ok (.iadd, 1) := by decide +kernel
theorem dX10_setPattern_56 : decode cX10_setPattern 56 = .ok (.istore 6, 2) := by decide +kernel
theorem dX10_setPattern_58 : decode cX10_setPattern 58 = .ok (.aload 5, 2) := by decide +kernel
theorem dX10_setPattern_60 : decode cX10_setPattern 60 = .ok (.iload 6, 2) := by decide +kernel
theorem dX10_setPattern_62 : decode cX10_setPattern 62 = .ok (.iaload, 1) := by decide +kernel
theorem dX10_setPattern_63 : decode cX10_setPattern 63 = .ok (.istore 7, 2) := by decide +kernel
theorem dX10_setPattern_65 : decode cX10_setPattern 65 = .ok (.aload 5, 2) := by decide +kernel
theorem dX10_setPattern_67 : decode cX10_setPattern 67 = .ok (.iload 6, 2) := by decide +kernel
theorem dX10_setPattern_69 : decode cX10_setPattern 69 = .ok (.iload 4, 2) := by decide +kernel
theorem dX10_setPattern_71 : decode cX10_setPattern 71 = .ok (.iastore, 1) := by decide +kernel
theorem dX10_setPattern_72 : decode cX10_setPattern 72 = .ok (.iload 7, 2) := by decide +kernel
theorem dX10_setPattern_74 : decode cX10_setPattern 74 = .ok (.ireturn, 1) := by decide +kernel
def bk_X10_setPattern_24 (F : Nat) (M : GM) : Option ((Nat × GM) ⊕ (Int32 × GM)) := some (Sum.inl (3, M))
set_option maxHeartbeats 4000000 in
set_option maxRecDepth 100000 in
theorem bw_X10_setPattern_24 {x : GX} (X : GC x cX10_setPattern 8 RX10 7)    {F : Nat} {M : GM} {r9 : ((Nat × GM) ⊕ (Int32 × GM))} (hR : ∀ (v9 : Int32) (M9 : GM) (lv9 : List (Nat × Value)) (pc9 : Nat), r9 = Sum.inr (v9, M9) → decode cX10_setPattern pc9 = .ok (.ireturn, 1) → WG x M9 lv9 pc9 [.int v9]) (hX : ∀ (n9 : Nat) (M9 : GM), r9 = Sum.inl (n9, M9) → GThr x n9 M9) (h : bk_X10_setPattern_24 F M = some r9) : WG x M [] 24 [] := by
  unfold bk_X10_setPattern_24 at h
  exact gthr_3 X (by decide) (List.mem_of_getElem? (i := 15) rfl) (Nat.le_of_ble_eq_true rfl) dX10_setPattern_24 dX10_setPattern_27 (Or.inl ⟨dX10_setPattern_28, dX10_setPattern_30, dX10_setPattern_33⟩) (hX 3 M (Option.some.inj h).symm)
def f_X10_setPattern (F : Nat) (i0 : Int32) (i1 : Int32) (i2 : Int32) (i3 : Int32) (M : GM) : Option ((Nat × GM) ⊕ (Int32 × GM)) := bndT (f_X10_requirePattern F i0 M) (fun n2 => some (Sum.inl (n2, M))) (fun _ => if (f_X10_isWithin i1 (0 : Int32) (7 : Int32)) = 0 then (bk_X10_setPattern_24 F M) else (if (f_X10_isWithin i2 (0 : Int32) (7 : Int32)) = 0 then (bk_X10_setPattern_24 F M) else (bndT (f_X10_requireColour F i3 M) (fun n4 => some (Sum.inl (n4, M))) (fun _ => grd (gIn i0 (gN 3)) (bnd (gR 3 i0.toNatClampNeg) (fun o6 => bnd ((i2 * (8 : Int32)) + i1) (fun v9 => grd (gIn v9 (gN (o6 + 1))) (bnd (gI M (o6 + 1) v9.toNatClampNeg) (fun v12 => grd (gIn v9 (gN (o6 + 1))) (bnd (sI M (o6 + 1) v9.toNatClampNeg i3) (fun M15 => some (Sum.inr (v12, M15)))))))))))))
set_option maxHeartbeats 4000000 in
set_option maxRecDepth 100000 in
theorem w_X10_setPattern {x : GX} (X : GC x cX10_setPattern 8 RX10 7) {i0 : Int32} {i1 : Int32} {i2 : Int32} {i3 : Int32}  {F : Nat} {M : GM} {r9 : ((Nat × GM) ⊕ (Int32 × GM))} (hR : ∀ (v9 : Int32) (M9 : GM) (lv9 : List (Nat × Value)) (pc9 : Nat), r9 = Sum.inr (v9, M9) → decode cX10_setPattern pc9 = .ok (.ireturn, 1) → WG x M9 lv9 pc9 [.int v9]) (hX : ∀ (n9 : Nat) (M9 : GM), r9 = Sum.inl (n9, M9) → GThr x n9 M9) (h : f_X10_setPattern F i0 i1 i2 i3 M = some r9) : WG x M [(0, .ref (gad (xz x) 0)), (1, .int i0), (2, .int i1), (3, .int i2), (4, .int i3)] 0 [] := by
  unfold f_X10_setPattern at h
  refine g_iload_n X (j := 1) dX10_setPattern_0 rfl rfl ?_
  rcases bndT_e h with ⟨n2, hc1, h⟩ | ⟨⟨⟩, hc1, h⟩
  · exact gx_X10_153 X (cx_X10_requirePattern X.htr  hc1) (by decide) (Nat.le_of_ble_eq_true rfl) dX10_setPattern_1 (hX n2 M (Option.some.inj h).symm)
  refine gc_X10_153 X (ct_X10_requirePattern X.htr  hc1) (by decide) (Nat.le_of_ble_eq_true rfl) dX10_setPattern_1 ?_
  refine g_iload_n X (j := 2) dX10_setPattern_4 rfl rfl ?_
  refine g_iconst X (v := 0) dX10_setPattern_5 (by decide) ?_
  refine g_bipush X (v := 7) dX10_setPattern_6 (by decide) ?_
  refine gc_X10_86 X (ct_X10_isWithin X.htr ) (by decide) (Nat.le_of_ble_eq_true rfl) dX10_setPattern_8 ?_
  refine g_if_eq X (tgt := 24) dX10_setPattern_11 (by decide) (fun hb => ?_) (fun hb => ?_)
  · have h := ite_t hb h
    refine g_lv [] rfl ?_
    exact bw_X10_setPattern_24 X  hR hX h
  · have h := ite_f hb h
    refine g_iload_n X (j := 3) dX10_setPattern_14 rfl rfl ?_
    refine g_iconst X (v := 0) dX10_setPattern_15 (by decide) ?_
    refine g_bipush X (v := 7) dX10_setPattern_16 (by decide) ?_
    refine gc_X10_86 X (ct_X10_isWithin X.htr ) (by decide) (Nat.le_of_ble_eq_true rfl) dX10_setPattern_18 ?_
    refine g_if_ne X (tgt := 34) dX10_setPattern_21 (by decide) (fun hb => ?_) (fun hb => ?_)
    · have h := ite_f hb h
      refine g_iload X (j := 4) dX10_setPattern_34 rfl ?_
      rcases bndT_e h with ⟨n4, hc3, h⟩ | ⟨⟨⟩, hc3, h⟩
      · exact gx_X10_82 X (cx_X10_requireColour X.htr  hc3) (by decide) (Nat.le_of_ble_eq_true rfl) dX10_setPattern_36 (hX n4 M (Option.some.inj h).symm)
      refine gc_X10_82 X (ct_X10_requireColour X.htr  hc3) (by decide) (Nat.le_of_ble_eq_true rfl) dX10_setPattern_36 ?_
      refine g_aload_n X (j := 0) dX10_setPattern_39 rfl rfl ?_
      refine gf_X10_23 X gT_c0 dX10_setPattern_40 ?_
      refine g_iload_n X (j := 1) dX10_setPattern_43 rfl rfl ?_
      obtain ⟨hg5, h⟩ := grd_e h
      refine g_aald_25 X gT_c3 hg5 dX10_setPattern_44 ?_
      refine g_topr (fun o6 e7 => ?_)
      have h := bnd_e e7 h
      have k8 : gT o6 = 5 := by rw [e7]; exact gR_25 gT_c3 (gIn_lt hg5)
      refine gf_X10_161 X k8 dX10_setPattern_45 ?_
      refine g_astore X (lv' := [(5, .ref (gad (xz x) (o6 + 1))), (0, .ref (gad (xz x) 0)), (1, .int i0), (2, .int i1), (3, .int i2), (4, .int i3)]) dX10_setPattern_48 (by decide) rfl ?_
      refine g_iload_n X (j := 4) dX10_setPattern_50 rfl rfl ?_
      refine g_bipush X (v := 8) dX10_setPattern_51 (by decide) ?_
      refine g_imul X dX10_setPattern_53 ?_
      refine g_iload_n X (j := 3) dX10_setPattern_54 rfl rfl ?_
      refine g_iadd X dX10_setPattern_55 ?_
      refine g_topi (fun v9 e10 => ?_)
      have h := bnd_e e10 h
      refine g_istore X (lv' := [(6, .int v9), (5, .ref (gad (xz x) (o6 + 1))), (0, .ref (gad (xz x) 0)), (1, .int i0), (2, .int i1), (3, .int i2), (4, .int i3)]) dX10_setPattern_56 (by decide) rfl ?_
      refine g_aload X (j := 1) dX10_setPattern_58 rfl ?_
      refine g_iload X (j := 0) dX10_setPattern_60 rfl ?_
      obtain ⟨hg11, h⟩ := grd_e h
      refine g_iald X (gT_5_tints k8) hg11 dX10_setPattern_62 ?_
      refine g_topi (fun v12 e13 => ?_)
      have h := bnd_e e13 h
      refine g_istore X (lv' := [(7, .int v12), (6, .int v9), (5, .ref (gad (xz x) (o6 + 1))), (0, .ref (gad (xz x) 0)), (1, .int i0), (2, .int i1), (3, .int i2), (4, .int i3)]) dX10_setPattern_63 (by decide) rfl ?_
      refine g_aload X (j := 2) dX10_setPattern_65 rfl ?_
      refine g_iload X (j := 1) dX10_setPattern_67 rfl ?_
      refine g_iload X (j := 7) dX10_setPattern_69 rfl ?_
      obtain ⟨hg14, h⟩ := grd_e h
      refine g_iast X (gT_5_tints k8) hg14 dX10_setPattern_71 ?_
      refine g_mem (fun M15 e16 => ?_)
      have h := bnd_e e16 h
      refine g_iload X (j := 0) dX10_setPattern_72 rfl ?_
      exact hR v12 M15 _ _ (Option.some.inj h).symm dX10_setPattern_74
    · have h := ite_t hb h
      refine g_lv [] rfl ?_
      exact bw_X10_setPattern_24 X  hR hX h
theorem ct_X10_setPattern {l : Launch} {z : GZ} (htr : l.stackTraces = false) {i0 : Int32} {i1 : Int32} {i2 : Int32} {i3 : Int32}  {M : GM} {F : Nat} {v : Int32} {M1 : GM} (h : f_X10_setPattern F i0 i1 i2 i3 M = some (Sum.inr (v, M1))) : gMet l z yX10_setPattern cX10_setPattern 8 (some .int) 7 [.ref (gad z 0), .int i0, .int i1, .int i2, .int i3] M (some (.int v)) M1 := gMet_ofI (by decide +kernel) (Nat.le_of_ble_eq_true rfl) htr rfl (fun x X ez el hR => by subst ez; subst el; exact w_X10_setPattern X  (fun v9 M9 lv9 pc9 e9 d9 => by cases e9; exact hR lv9 pc9 d9) (by intros; rename_i e9; cases e9) h)
theorem cx_X10_setPattern {l : Launch} {z : GZ} (htr : l.stackTraces = false) {i0 : Int32} {i1 : Int32} {i2 : Int32} {i3 : Int32}  {M : GM} {F n : Nat} {M1 : GM} (h : f_X10_setPattern F i0 i1 i2 i3 M = some (Sum.inl (n, M1))) : gMetX l z yX10_setPattern cX10_setPattern 8 (some .int) 7 [.ref (gad z 0), .int i0, .int i1, .int i2, .int i3] M n M1 := gMetX_of (by decide +kernel) (Nat.le_of_ble_eq_true rfl) htr (fun x X ez el hT => by subst ez; subst el; exact w_X10_setPattern X  (by intros; rename_i e9 _; cases e9) (fun n9 M9 e9 => by cases e9; exact hT) h)
theorem dX10_setRepeats_0 : decode cX10_setRepeats 0 = .ok (.iload_n 1, 1) := by decide +kernel
theorem dX10_setRepeats_1 : decode cX10_setRepeats 1 = .ok (.invokestatic 153, 3) := by decide +kernel
theorem dX10_setRepeats_4 : decode cX10_setRepeats 4 = .ok (.aload_n 0, 1) := by decide +kernel
theorem dX10_setRepeats_5 : decode cX10_setRepeats 5 = .ok (.getfield 23, 3) := by decide +kernel
theorem dX10_setRepeats_8 : decode cX10_setRepeats 8 = .ok (.iload_n 1, 1) := by decide +kernel
theorem dX10_setRepeats_9 : decode cX10_setRepeats 9 = .ok (.aaload, 1) := by decide +kernel
theorem dX10_setRepeats_10 : decode cX10_setRepeats 10 = .ok (.getfield 164, 3) := by decide +kernel
theorem dX10_setRepeats_13 : decode cX10_setRepeats 13 = .ok (.istore_n 3, 1) := by decide +kernel
theorem dX10_setRepeats_14 : decode cX10_setRepeats 14 = .ok (.aload_n 0, 1) := by decide +kernel
theorem dX10_setRepeats_15 : decode cX10_setRepeats 15 = .ok (.getfield 23, 3) := by decide +kernel
theorem dX10_setRepeats_18 : decode cX10_setRepeats 18 = .ok (.iload_n 1, 1) := by decide +kernel
theorem dX10_setRepeats_19 : decode cX10_setRepeats 19 = .ok (.aaload, 1) := by decide +kernel
theorem dX10_setRepeats_20 : decode cX10_setRepeats 20 = .ok (.iload_n 2, 1) := by decide +kernel
theorem dX10_setRepeats_21 : decode cX10_setRepeats 21 = .ok (.putfield 164, 3) := by decide +kernel
theorem dX10_setRepeats_24 : decode cX10_setRepeats 24 = .ok (.iload_n 3, 1) := by decide +kernel
theorem dX10_setRepeats_25 : decode cX10_setRepeats 25 = .ok (.ireturn, 1) := by decide +kernel
def f_X10_setRepeats (F : Nat) (i0 : Int32) (i1 : Int32) (M : GM) : Option ((Nat × GM) ⊕ (Int32 × GM)) := bndT (f_X10_requirePattern F i0 M) (fun n2 => some (Sum.inl (n2, M))) (fun _ => grd (gIn i0 (gN 3)) (bnd (gR 3 i0.toNatClampNeg) (fun o4 => bnd (gI M o4 1) (fun v7 => grd (gIn i0 (gN 3)) (bnd (gR 3 i0.toNatClampNeg) (fun o10 => grd (gTf i1) (bnd (sI M o10 1 i1) (fun M14 => grd (gTf v7) (some (Sum.inr (v7, M14)))))))))))
set_option maxHeartbeats 4000000 in
set_option maxRecDepth 100000 in
theorem w_X10_setRepeats {x : GX} (X : GC x cX10_setRepeats 4 RX10 7) {i0 : Int32} {i1 : Int32}  {F : Nat} {M : GM} {r9 : ((Nat × GM) ⊕ (Int32 × GM))} (hR : ∀ (v9 : Int32) (M9 : GM) (lv9 : List (Nat × Value)) (pc9 : Nat), r9 = Sum.inr (v9, M9) → (v9 = 0 ∨ v9 = 1) → decode cX10_setRepeats pc9 = .ok (.ireturn, 1) → WG x M9 lv9 pc9 [.int v9]) (hX : ∀ (n9 : Nat) (M9 : GM), r9 = Sum.inl (n9, M9) → GThr x n9 M9) (h : f_X10_setRepeats F i0 i1 M = some r9) : WG x M [(0, .ref (gad (xz x) 0)), (1, .int i0), (2, .int i1)] 0 [] := by
  unfold f_X10_setRepeats at h
  refine g_iload_n X (j := 1) dX10_setRepeats_0 rfl rfl ?_
  rcases bndT_e h with ⟨n2, hc1, h⟩ | ⟨⟨⟩, hc1, h⟩
  · exact gx_X10_153 X (cx_X10_requirePattern X.htr  hc1) (by decide) (Nat.le_of_ble_eq_true rfl) dX10_setRepeats_1 (hX n2 M (Option.some.inj h).symm)
  refine gc_X10_153 X (ct_X10_requirePattern X.htr  hc1) (by decide) (Nat.le_of_ble_eq_true rfl) dX10_setRepeats_1 ?_
  refine g_aload_n X (j := 0) dX10_setRepeats_4 rfl rfl ?_
  refine gf_X10_23 X gT_c0 dX10_setRepeats_5 ?_
  refine g_iload_n X (j := 1) dX10_setRepeats_8 rfl rfl ?_
  obtain ⟨hg3, h⟩ := grd_e h
  refine g_aald_25 X gT_c3 hg3 dX10_setRepeats_9 ?_
  refine g_topr (fun o4 e5 => ?_)
  have h := bnd_e e5 h
  have k6 : gT o4 = 5 := by rw [e5]; exact gR_25 gT_c3 (gIn_lt hg3)
  refine gf_X10_164 X k6 dX10_setRepeats_10 ?_
  refine g_topi (fun v7 e8 => ?_)
  have h := bnd_e e8 h
  refine g_istore_n X (lv' := [(3, .int v7), (0, .ref (gad (xz x) 0)), (1, .int i0), (2, .int i1)]) dX10_setRepeats_13 rfl (by decide) rfl ?_
  refine g_aload_n X (j := 1) dX10_setRepeats_14 rfl rfl ?_
  refine gf_X10_23 X gT_c0 dX10_setRepeats_15 ?_
  refine g_iload_n X (j := 2) dX10_setRepeats_18 rfl rfl ?_
  obtain ⟨hg9, h⟩ := grd_e h
  refine g_aald_25 X gT_c3 hg9 dX10_setRepeats_19 ?_
  refine g_topr (fun o10 e11 => ?_)
  have h := bnd_e e11 h
  have k12 : gT o10 = 5 := by rw [e11]; exact gR_25 gT_c3 (gIn_lt hg9)
  refine g_iload_n X (j := 3) dX10_setRepeats_20 rfl rfl ?_
  obtain ⟨hg13, h⟩ := grd_e h
  refine gp_X10_164 X k12 (gTf_of hg13) dX10_setRepeats_21 ?_
  refine g_mem (fun M14 e15 => ?_)
  have h := bnd_e e15 h
  refine g_iload_n X (j := 0) dX10_setRepeats_24 rfl rfl ?_
  obtain ⟨hg16, h⟩ := grd_e h
  exact hR v7 M14 _ _ (Option.some.inj h).symm (gTf_of hg16) dX10_setRepeats_25
theorem ct_X10_setRepeats {l : Launch} {z : GZ} (htr : l.stackTraces = false) {i0 : Int32} {i1 : Int32}  {M : GM} {F : Nat} {v : Int32} {M1 : GM} (h : f_X10_setRepeats F i0 i1 M = some (Sum.inr (v, M1))) : gMet l z yX10_setRepeats cX10_setRepeats 4 (some .boolean) 7 [.ref (gad z 0), .int i0, .int i1] M (some (.int v)) M1 := gMet_ofZ (by decide +kernel) (Nat.le_of_ble_eq_true rfl) htr (fun x X ez el hR => by subst ez; subst el; exact w_X10_setRepeats X  (fun v9 M9 lv9 pc9 e9 z9 d9 => by cases e9; exact hR lv9 pc9 z9 d9) (by intros; rename_i e9; cases e9) h)
theorem cx_X10_setRepeats {l : Launch} {z : GZ} (htr : l.stackTraces = false) {i0 : Int32} {i1 : Int32}  {M : GM} {F n : Nat} {M1 : GM} (h : f_X10_setRepeats F i0 i1 M = some (Sum.inl (n, M1))) : gMetX l z yX10_setRepeats cX10_setRepeats 4 (some .boolean) 7 [.ref (gad z 0), .int i0, .int i1] M n M1 := gMetX_of (by decide +kernel) (Nat.le_of_ble_eq_true rfl) htr (fun x X ez el hT => by subst ez; subst el; exact w_X10_setRepeats X  (by intros; rename_i e9 _ _; cases e9) (fun n9 M9 e9 => by cases e9; exact hT) h)
