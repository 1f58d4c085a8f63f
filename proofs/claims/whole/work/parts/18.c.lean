/-! 18.c -/
theorem gc_X10_328 {x : GX} {cc : ByteArray} {nL d pc : Nat} {M : GM} {lv : List (Nat × Value)} {st : List Value} (X : GC x cc nL RX10 d) {i0 : Nat} {i1 : Int32} {M1 : GM} (hM : gMet (xl x) (xz x) yJ7_fill_53178 cJ7_fill_53178 4 none 0 [.ref (gad (xz x) i0), .int i1] M (none) M1) (hd : 1 ≤ d) (hsum : (st.map fun v => v.category).sum ≤ 8) (dec : decode cc pc = .ok (.invokestatic 328, 3)) (go : WG x M1 lv (pc + 3) (st)) : WG x M lv pc (.int i1 :: .ref (gad (xz x) i0) :: st) := g_callS X (n := 2) (As := [.ref (gad (xz x) i0), .int i1]) (rest := st) hM q_645 q_634 q_72 q_635 (by decide +kernel) rfl hd (by decide) rfl hsum dec go
theorem dX10_greatest_0 : decode cX10_greatest 0 = .ok (.aload_n 0, 1) := by decide +kernel
theorem dX10_greatest_1 : decode cX10_greatest 1 = .ok (.aload_n 0, 1) := by decide +kernel
theorem dX10_greatest_2 : decode cX10_greatest 2 = .ok (.getfield 48, 3) := by decide +kernel
theorem dX10_greatest_5 : decode cX10_greatest 5 = .ok (.aload_n 0, 1) := by decide +kernel
theorem dX10_greatest_6 : decode cX10_greatest 6 = .ok (.getfield 68, 3) := by decide +kernel
theorem dX10_greatest_9 : decode cX10_greatest 9 = .ok (.iconst (-1), 1) := by decide +kernel
theorem dX10_greatest_10 : decode cX10_greatest 10 = .ok (.invokevirtual 286, 3) := by decide +kernel
theorem dX10_greatest_13 : decode cX10_greatest 13 = .ok (.aload_n 0, 1) := by decide +kernel
theorem dX10_greatest_14 : decode cX10_greatest 14 = .ok (.getfield 61, 3) := by decide +kernel
theorem dX10_greatest_17 : decode cX10_greatest 17 = .ok (.iconst 0, 1) := by decide +kernel
theorem dX10_greatest_18 : decode cX10_greatest 18 = .ok (.invokestatic 328, 3) := by decide +kernel
theorem dX10_greatest_21 : decode cX10_greatest 21 = .ok (.aload_n 0, 1) := by decide +kernel
theorem dX10_greatest_22 : decode cX10_greatest 22 = .ok (.getfield 48, 3) := by decide +kernel
theorem dX10_greatest_25 : decode cX10_greatest 25 = .ok (.getfield 312, 3) := by decide +kernel
theorem dX10_greatest_28 : decode cX10_greatest 28 = .ok (.astore_n 1, 1) := by decide +kernel
theorem dX10_greatest_29 : decode cX10_greatest 29 = .ok (.aload_n 1, 1) := by decide +kernel
theorem dX10_greatest_30 : decode cX10_greatest 30 = .ok (.arraylength, 1) := by decide +kernel
theorem dX10_greatest_31 : decode cX10_greatest 31 = .ok (.istore_n 2, 1) := by decide +kernel
theorem dX10_greatest_32 : decode cX10_greatest 32 = .ok (.iconst 0, 1) := by decide +kernel
theorem dX10_greatest_33 : decode cX10_greatest 33 = .ok (.istore_n 3, 1) := by decide +kernel
theorem dX10_greatest_34 : decode cX10_greatest 34 = .ok (.iload_n 3, 1) := by decide +kernel
theorem dX10_greatest_35 : decode cX10_greatest 35 = .ok (.iload_n 2, 1) := by decide +kernel
theorem dX10_greatest_36 : decode cX10_greatest 36 = .ok (.if_icmp .ge 36, 3) := by decide +kernel
theorem dX10_greatest_39 : decode cX10_greatest 39 = .ok (.aload_n 1, 1) := by decide +kernel
theorem dX10_greatest_40 : decode cX10_greatest 40 = .ok (.iload_n 3, 1) := by decide +kernel
theorem dX10_greatest_41 : decode cX10_greatest 41 = .ok (.iaload, 1) := by decide +kernel
theorem dX10_greatest_42 : decode cX10_greatest 42 = .ok (.istore 4, 2) := by decide +kernel
theorem dX10_greatest_44 : decode cX10_greatest 44 = .ok (.iload 4, 2) := by decide +kernel
theorem dX10_greatest_46 : decode cX10_greatest 46 = .ok (.iconst 0, 1) := by decide +kernel
theorem dX10_greatest_47 : decode cX10_greatest 47 = .ok (.bipush 29, 2) := by decide +kernel
theorem dX10_greatest_49 : decode cX10_greatest 49 = .ok (.invokestatic 86, 3) := by decide +kernel
theorem dX10_greatest_52 : decode cX10_greatest 52 = .ok (.ifCond .eq 14, 3) := by decide +kernel
theorem dX10_greatest_55 : decode cX10_greatest 55 = .ok (.aload_n 0, 1) := by decide +kernel
theorem dX10_greatest_56 : decode cX10_greatest 56 = .ok (.getfield 61, 3) := by decide +kernel
theorem dX10_greatest_59 : decode cX10_greatest 59 = .ok (.iload 4, 2) := by decide +kernel
theorem dX10_greatest_61 : decode cX10_greatest 61 = .ok (.dup2, 1) := by decide +kernel
theorem dX10_greatest_62 : decode cX10_greatest 62 = .ok (.iaload, 1) := by decide +kernel
theorem dX10_greatest_63 : decode cX10_greatest 63 = .ok (.iconst 1, 1) := by decide +kernel
theorem dX10_greatest_64 : decode cX10_greatest 64 = .ok (.iadd, 1) := by decide +kernel
theorem dX10_greatest_65 : decode cX10_greatest 65 = .ok (.iastore, 1) := by decide +kernel
theorem dX10_greatest_66 : decode cX10_greatest 66 = .ok (.iinc 3 1, 3) := by decide +kernel
theorem dX10_greatest_69 : decode cX10_greatest 69 = .ok (.goto (-35), 3) := by decide +kernel
theorem dX10_greatest_72 : decode cX10_greatest 72 = .ok (.iconst (-1), 1) := by decide +kernel
theorem dX10_greatest_73 : decode cX10_greatest 73 = .ok (.istore_n 1, 1) := by decide +kernel
theorem dX10_greatest_74 : decode cX10_greatest 74 = .ok (.iconst 0, 1) := by decide +kernel
theorem dX10_greatest_75 : decode cX10_greatest 75 = .ok (.istore_n 2, 1) := by decide +kernel
theorem dX10_greatest_76 : decode cX10_greatest 76 = .ok (.iconst 0, 1) := by decide +kernel
theorem dX10_greatest_77 : decode cX10_greatest 77 = .ok (.istore_n 3, 1) := by decide +kernel
theorem dX10_greatest_78 : decode cX10_greatest 78 = .ok (.iload_n 3, 1) := by decide +kernel
theorem dX10_greatest_79 : decode cX10_greatest 79 = .ok (.bipush 30, 2) := by decide +kernel
theorem dX10_greatest_81 : decode cX10_greatest 81 = .ok (.if_icmp .ge 28, 3) := by decide +kernel
theorem dX10_greatest_84 : decode cX10_greatest 84 = .ok (.aload_n 0, 1) := by decide +kernel
theorem dX10_greatest_85 : decode cX10_greatest 85 = .ok (.getfield 61, 3) := by decide +kernel
theorem dX10_greatest_88 : decode cX10_greatest 88 = .ok (.iload_n 3, 1) := by decide +kernel
theorem dX10_greatest_89 : decode cX10_greatest 89 = .ok (.iaload, 1) := by decide +kernel
theorem dX10_greatest_90 : decode cX10_greatest 90 = .ok (.iload_n 2, 1) := by decide +kernel
theorem dX10_greatest_91 : decode cX10_greatest 91 = .ok (.if_icmp .le 12, 3) := by decide +kernel
theorem dX10_greatest_94 : decode cX10_greatest 94 = .ok (.aload_n 0, 1) := by decide +kernel
theorem dX10_greatest_95 : decode cX10_greatest 95 = .ok (.getfield 61, 3) := by decide +kernel
theorem dX10_greatest_98 : decode cX10_greatest 98 = .ok (.iload_n 3, 1) := by decide +kernel
theorem dX10_greatest_99 : decode cX10_greatest 99 = .ok (.iaload, 1) := by decide +kernel
theorem dX10_greatest_100 : decode cX10_greatest 100 = .ok (.istore_n 2, 1) := by decide +kernel
theorem dX10_greatest_101 : decode cX10_greatest 101 = .ok (.iload_n 3, 1) := by decide +kernel
theorem dX10_greatest_102 : decode cX10_greatest 102 = .ok (.istore_n 1, 1) := by decide +kernel
theorem dX10_greatest_103 : decode cX10_greatest 103 = .ok (.iinc 3 1, 3) := by decide +kernel
theorem dX10_greatest_106 : decode cX10_greatest 106 = .ok (.goto (-28), 3) := by decide +kernel
theorem dX10_greatest_109 : decode cX10_greatest 109 = .ok (.iload_n 1, 1) := by decide +kernel
theorem dX10_greatest_110 : decode cX10_greatest 110 = .ok (.ireturn, 1) := by decide +kernel
def st_X10_greatest_34 (F : Nat) (a9 : Int32) (rec : Int32 → GM → Option GM) (a10 : Int32) (M : GM) : Option GM := if a9 ≤ a10 then (some M) else (grd (gIn a10 (gN 34)) (bnd (gI M 34 a10.toNatClampNeg) (fun v12 => if (f_X10_isWithin v12 (0 : Int32) (29 : Int32)) = 0 then (bnd (a10 + (1 : Int32)) (fun v14 => rec v14 M)) else (grd (gIn v12 (gN 41)) (grd (gIn v12 (gN 41)) (bnd (sI M 41 v12.toNatClampNeg ((gI M 41 v12.toNatClampNeg) + (1 : Int32))) (fun M18 => bnd (a10 + (1 : Int32)) (fun v20 => rec v20 M18))))))))
def lp_X10_greatest_34 (F : Nat) (a9 : Int32) : Nat → Int32 → GM → Option GM
  | 0 => fun _ _ => none
  | f + 1 => fun a10 M => st_X10_greatest_34 F a9 (lp_X10_greatest_34 F a9 f) a10 M
set_option maxHeartbeats 4000000 in
set_option maxRecDepth 100000 in
theorem lw_X10_greatest_34 {x : GX} (X : GC x cX10_greatest 5 RX10 7) {a9 : Int32}  {F : Nat} {r9 : GM} (hE : ∀  (M9 : GM), r9 = M9 → WG x M9 [(0, .ref (gad (xz x) 0))] 72 []) : ∀ (f : Nat) (a10 : Int32) (M : GM), lp_X10_greatest_34 F a9 f a10 M = some r9 → WG x M [(0, .ref (gad (xz x) 0)), (1, .ref (gad (xz x) 34)), (2, .int a9), (3, .int a10)] 34 [] := by
  intro f
  induction f with
  | zero => intro a10 M h; cases h
  | succ f ih =>
    intro a10 M h
    have hrec := ih
    have h : st_X10_greatest_34 F a9 (lp_X10_greatest_34 F a9 f) a10 M = some r9 := h
    generalize lp_X10_greatest_34 F a9 f = rec at h hrec
    unfold st_X10_greatest_34 at h
    refine g_iload_n X (j := 3) dX10_greatest_34 rfl rfl ?_
    refine g_iload_n X (j := 2) dX10_greatest_35 rfl rfl ?_
    refine g_icmp_ge X (tgt := 72) dX10_greatest_36 (by decide) (fun hb => ?_) (fun hb => ?_)
    · have h := ite_t hb h
      refine g_lv [0] rfl ?_
      exact hE M (Option.some.inj h).symm
    · have h := ite_f hb h
      refine g_aload_n X (j := 1) dX10_greatest_39 rfl rfl ?_
      refine g_iload_n X (j := 3) dX10_greatest_40 rfl rfl ?_
      obtain ⟨hg11, h⟩ := grd_e h
      refine g_iald X gT_c34 hg11 dX10_greatest_41 ?_
      refine g_topi (fun v12 e13 => ?_)
      have h := bnd_e e13 h
      refine g_istore X (lv' := [(4, .int v12), (0, .ref (gad (xz x) 0)), (1, .ref (gad (xz x) 34)), (2, .int a9), (3, .int a10)]) dX10_greatest_42 (by decide) rfl ?_
      refine g_iload X (j := 0) dX10_greatest_44 rfl ?_
      refine g_iconst X (v := 0) dX10_greatest_46 (by decide) ?_
      refine g_bipush X (v := 29) dX10_greatest_47 (by decide) ?_
      refine gc_X10_86 X (ct_X10_isWithin X.htr ) (by decide) (Nat.le_of_ble_eq_true rfl) dX10_greatest_49 ?_
      refine g_if_eq X (tgt := 66) dX10_greatest_52 (by decide) (fun hb => ?_) (fun hb => ?_)
      · have h := ite_t hb h
        refine g_iinc X (j := 4) (w := a10 + (1 : Int32)) (lv' := [(4, .int v12), (0, .ref (gad (xz x) 0)), (1, .ref (gad (xz x) 34)), (2, .int a9)]) dX10_greatest_66 rfl (by rw [ii_1]) (by decide) (fun _ => rfl) (fun v14 e15 => ?_)
        have h := bnd_e e15 h
        refine g_goto X (tgt := 34) dX10_greatest_69 (by decide) ?_
        refine g_lv [2, 3, 4, 0] rfl ?_
        exact hrec v14 M h
      · have h := ite_f hb h
        refine g_aload_n X (j := 1) dX10_greatest_55 rfl rfl ?_
        refine gf_X10_61 X gT_c0 dX10_greatest_56 ?_
        refine g_iload X (j := 0) dX10_greatest_59 rfl ?_
        refine g_dup2 X dX10_greatest_61 rfl rfl ?_
        obtain ⟨hg16, h⟩ := grd_e h
        refine g_iald X gT_c41 hg16 dX10_greatest_62 ?_
        refine g_iconst X (v := 1) dX10_greatest_63 (by decide) ?_
        refine g_iadd X dX10_greatest_64 ?_
        obtain ⟨hg17, h⟩ := grd_e h
        refine g_iast X gT_c41 hg17 dX10_greatest_65 ?_
        refine g_mem (fun M18 e19 => ?_)
        have h := bnd_e e19 h
        refine g_iinc X (j := 4) (w := a10 + (1 : Int32)) (lv' := [(4, .int v12), (0, .ref (gad (xz x) 0)), (1, .ref (gad (xz x) 34)), (2, .int a9)]) dX10_greatest_66 rfl (by rw [ii_1]) (by decide) (fun _ => rfl) (fun v20 e21 => ?_)
        have h := bnd_e e21 h
        refine g_goto X (tgt := 34) dX10_greatest_69 (by decide) ?_
        refine g_lv [2, 3, 4, 0] rfl ?_
        exact hrec v20 M18 h
def st_X10_greatest_78 (F : Nat)  (rec : Int32 → Int32 → Int32 → GM → Option (Int32 × GM)) (a30 : Int32) (a31 : Int32) (a32 : Int32) (M : GM) : Option (Int32 × GM) := if (30 : Int32) ≤ a32 then (some (a30, M)) else (grd (gIn a32 (gN 41)) (if (gI M 41 a32.toNatClampNeg) ≤ a31 then (bnd (a32 + (1 : Int32)) (fun v34 => rec a30 a31 v34 M)) else (grd (gIn a32 (gN 41)) (bnd (gI M 41 a32.toNatClampNeg) (fun v37 => bnd a32 (fun v39 => bnd (a32 + (1 : Int32)) (fun v41 => rec v39 v37 v41 M)))))))
def lp_X10_greatest_78 (F : Nat)  : Nat → Int32 → Int32 → Int32 → GM → Option (Int32 × GM)
  | 0 => fun _ _ _ _ => none
  | f + 1 => fun a30 a31 a32 M => st_X10_greatest_78 F  (lp_X10_greatest_78 F  f) a30 a31 a32 M
set_option maxHeartbeats 4000000 in
set_option maxRecDepth 100000 in
theorem lw_X10_greatest_78 {x : GX} (X : GC x cX10_greatest 5 RX10 7)   {F : Nat} {r9 : (Int32 × GM)} (hE : ∀ (x1_9 : Int32) (M9 : GM), r9 = (x1_9, M9) → WG x M9 [(1, .int x1_9)] 109 []) : ∀ (f : Nat) (a30 : Int32) (a31 : Int32) (a32 : Int32) (M : GM), lp_X10_greatest_78 F  f a30 a31 a32 M = some r9 → WG x M [(0, .ref (gad (xz x) 0)), (1, .int a30), (2, .int a31), (3, .int a32)] 78 [] := by
  intro f
  induction f with
  | zero => intro a30 a31 a32 M h; cases h
  | succ f ih =>
    intro a30 a31 a32 M h
    have hrec := ih
    have h : st_X10_greatest_78 F  (lp_X10_greatest_78 F  f) a30 a31 a32 M = some r9 := h
    generalize lp_X10_greatest_78 F  f = rec at h hrec
    unfold st_X10_greatest_78 at h
    refine g_iload_n X (j := 3) dX10_greatest_78 rfl rfl ?_
    refine g_bipush X (v := 30) dX10_greatest_79 (by decide) ?_
    refine g_icmp_ge X (tgt := 109) dX10_greatest_81 (by decide) (fun hb => ?_) (fun hb => ?_)
    · have h := ite_t hb h
      refine g_lv [1] rfl ?_
      exact hE a30 M (Option.some.inj h).symm
    · have h := ite_f hb h
      refine g_aload_n X (j := 0) dX10_greatest_84 rfl rfl ?_
      refine gf_X10_61 X gT_c0 dX10_greatest_85 ?_
      refine g_iload_n X (j := 3) dX10_greatest_88 rfl rfl ?_
      obtain ⟨hg33, h⟩ := grd_e h
      refine g_iald X gT_c41 hg33 dX10_greatest_89 ?_
      refine g_iload_n X (j := 2) dX10_greatest_90 rfl rfl ?_
      refine g_icmp_le X (tgt := 103) dX10_greatest_91 (by decide) (fun hb => ?_) (fun hb => ?_)
      · have h := ite_t hb h
        refine g_iinc X (j := 3) (w := a32 + (1 : Int32)) (lv' := [(0, .ref (gad (xz x) 0)), (1, .int a30), (2, .int a31)]) dX10_greatest_103 rfl (by rw [ii_1]) (by decide) (fun _ => rfl) (fun v34 e35 => ?_)
        have h := bnd_e e35 h
        refine g_goto X (tgt := 78) dX10_greatest_106 (by decide) ?_
        refine g_lv [1, 2, 3, 0] rfl ?_
        exact hrec a30 a31 v34 M h
      · have h := ite_f hb h
        refine g_aload_n X (j := 0) dX10_greatest_94 rfl rfl ?_
        refine gf_X10_61 X gT_c0 dX10_greatest_95 ?_
        refine g_iload_n X (j := 3) dX10_greatest_98 rfl rfl ?_
        obtain ⟨hg36, h⟩ := grd_e h
        refine g_iald X gT_c41 hg36 dX10_greatest_99 ?_
        refine g_topi (fun v37 e38 => ?_)
        have h := bnd_e e38 h
        refine g_istore_n X (lv' := [(2, .int v37), (0, .ref (gad (xz x) 0)), (1, .int a30), (3, .int a32)]) dX10_greatest_100 rfl (by decide) rfl ?_
        refine g_iload_n X (j := 3) dX10_greatest_101 rfl rfl ?_
        refine g_topi (fun v39 e40 => ?_)
        have h := bnd_e e40 h
        refine g_istore_n X (lv' := [(1, .int v39), (2, .int v37), (0, .ref (gad (xz x) 0)), (3, .int a32)]) dX10_greatest_102 rfl (by decide) rfl ?_
        refine g_iinc X (j := 3) (w := a32 + (1 : Int32)) (lv' := [(1, .int v39), (2, .int v37), (0, .ref (gad (xz x) 0))]) dX10_greatest_103 rfl (by rw [ii_1]) (by decide) (fun _ => rfl) (fun v41 e42 => ?_)
        have h := bnd_e e42 h
        refine g_goto X (tgt := 78) dX10_greatest_106 (by decide) ?_
        refine g_lv [3, 1, 2, 0] rfl ?_
        exact hrec v39 v37 v41 M h
def f_X10_greatest (F : Nat) (M : GM) : Option (Int32 × GM) := bndO (f_X10_draw F 31 42 ((-1) : Int32) M) (fun M2 => bndO (f_J7_fill_53178 F 41 (0 : Int32) M2) (fun M4 => bnd (960 : Int32) (fun v5 => bnd (0 : Int32) (fun v7 => bndO (lp_X10_greatest_34 F v5 F v7 M4) (fun M22 => bnd ((-1) : Int32) (fun v24 => bnd (0 : Int32) (fun v26 => bnd (0 : Int32) (fun v28 => bndO (lp_X10_greatest_78 F  F v24 v26 v28 M22) (fun (v43, M44) => some (v43, M44))))))))))
set_option maxHeartbeats 4000000 in
set_option maxRecDepth 100000 in
theorem w_X10_greatest {x : GX} (X : GC x cX10_greatest 5 RX10 7)   {F : Nat} {M : GM} {r9 : (Int32 × GM)} (hR : ∀ (v9 : Int32) (M9 : GM) (lv9 : List (Nat × Value)) (pc9 : Nat), r9 = (v9, M9) → decode cX10_greatest pc9 = .ok (.ireturn, 1) → WG x M9 lv9 pc9 [.int v9]) (h : f_X10_greatest F M = some r9) : WG x M [(0, .ref (gad (xz x) 0))] 0 [] := by
  unfold f_X10_greatest at h
  refine g_aload_n X (j := 0) dX10_greatest_0 rfl rfl ?_
  refine g_aload_n X (j := 0) dX10_greatest_1 rfl rfl ?_
  refine gf_X10_48 X gT_c0 dX10_greatest_2 ?_
  refine g_aload_n X (j := 0) dX10_greatest_5 rfl rfl ?_
  refine gf_X10_68 X gT_c0 dX10_greatest_6 ?_
  refine g_iconst X (v := (-1)) dX10_greatest_9 (by decide) ?_
  obtain ⟨M2, hc1, h⟩ := bndO_e h
  refine gc_X10_286 X gT_c0 (ct_X10_draw X.htr gT_c31 gT_c42 hc1) (by decide) (Nat.le_of_ble_eq_true rfl) dX10_greatest_10 ?_
  refine g_aload_n X (j := 0) dX10_greatest_13 rfl rfl ?_
  refine gf_X10_61 X gT_c0 dX10_greatest_14 ?_
  refine g_iconst X (v := 0) dX10_greatest_17 (by decide) ?_
  obtain ⟨M4, hc3, h⟩ := bndO_e h
  refine gc_X10_328 X (ct_J7_fill_53178 X.htr gT_c41 hc3) (by decide) (Nat.le_of_ble_eq_true rfl) dX10_greatest_18 ?_
  refine g_aload_n X (j := 0) dX10_greatest_21 rfl rfl ?_
  refine gf_X10_48 X gT_c0 dX10_greatest_22 ?_
  refine gf_X10_312 X gT_c31 dX10_greatest_25 ?_
  refine g_astore_n X (lv' := [(1, .ref (gad (xz x) 34)), (0, .ref (gad (xz x) 0))]) dX10_greatest_28 rfl (by decide) rfl ?_
  refine g_aload_n X (j := 0) dX10_greatest_29 rfl rfl ?_
  refine g_alen_20 X gT_c34 dX10_greatest_30 ?_
  rw [show Int32.ofNat (gN 34) = 960 by decide +kernel]
  refine g_topi (fun v5 e6 => ?_)
  have h := bnd_e e6 h
  refine g_istore_n X (lv' := [(2, .int v5), (1, .ref (gad (xz x) 34)), (0, .ref (gad (xz x) 0))]) dX10_greatest_31 rfl (by decide) rfl ?_
  refine g_iconst X (v := 0) dX10_greatest_32 (by decide) ?_
  refine g_topi (fun v7 e8 => ?_)
  have h := bnd_e e8 h
  refine g_istore_n X (lv' := [(3, .int v7), (2, .int v5), (1, .ref (gad (xz x) 34)), (0, .ref (gad (xz x) 0))]) dX10_greatest_33 rfl (by decide) rfl ?_
  refine g_lv [3, 2, 1, 0] rfl ?_
  obtain ⟨M22, hl23, h⟩ := bndO_e h
  refine lw_X10_greatest_34 X  (fun M22_ e9 => ?_) F v7 M4 hl23
  cases e9
  refine g_iconst X (v := (-1)) dX10_greatest_72 (by decide) ?_
  refine g_topi (fun v24 e25 => ?_)
  have h := bnd_e e25 h
  refine g_istore_n X (lv' := [(1, .int v24), (0, .ref (gad (xz x) 0))]) dX10_greatest_73 rfl (by decide) rfl ?_
  refine g_iconst X (v := 0) dX10_greatest_74 (by decide) ?_
  refine g_topi (fun v26 e27 => ?_)
  have h := bnd_e e27 h
  refine g_istore_n X (lv' := [(2, .int v26), (1, .int v24), (0, .ref (gad (xz x) 0))]) dX10_greatest_75 rfl (by decide) rfl ?_
  refine g_iconst X (v := 0) dX10_greatest_76 (by decide) ?_
  refine g_topi (fun v28 e29 => ?_)
  have h := bnd_e e29 h
  refine g_istore_n X (lv' := [(3, .int v28), (2, .int v26), (1, .int v24), (0, .ref (gad (xz x) 0))]) dX10_greatest_77 rfl (by decide) rfl ?_
  refine g_lv [3, 2, 1, 0] rfl ?_
  obtain ⟨⟨v43, M44⟩, hl45, h⟩ := bndO_e h
  refine lw_X10_greatest_78 X  (fun v43_ M44_ e9 => ?_) F v24 v26 v28 M22 hl45
  cases e9
  refine g_iload_n X (j := 0) dX10_greatest_109 rfl rfl ?_
  exact hR v43 M44 _ _ (Option.some.inj h).symm dX10_greatest_110
theorem ct_X10_greatest {l : Launch} {z : GZ} (htr : l.stackTraces = false)   {M : GM} {F : Nat} {v : Int32} {M1 : GM} (h : f_X10_greatest F M = some (v, M1)) : gMet l z yX10_greatest cX10_greatest 5 (some .int) 7 [.ref (gad z 0)] M (some (.int v)) M1 := gMet_ofI (by decide +kernel) (Nat.le_of_ble_eq_true rfl) htr rfl (fun x X ez el hR => by subst ez; subst el; exact w_X10_greatest X  (fun v9 M9 lv9 pc9 e9 d9 => by cases e9; exact hR lv9 pc9 d9) h)
theorem dX10_glassAt_0 : decode cX10_glassAt 0 = .ok (.iload_n 1, 1) := by decide +kernel
theorem dX10_glassAt_1 : decode cX10_glassAt 1 = .ok (.iload_n 2, 1) := by decide +kernel
theorem dX10_glassAt_2 : decode cX10_glassAt 2 = .ok (.invokestatic 271, 3) := by decide +kernel
theorem dX10_glassAt_5 : decode cX10_glassAt 5 = .ok (.aload_n 0, 1) := by decide +kernel
theorem dX10_glassAt_6 : decode cX10_glassAt 6 = .ok (.getfield 72, 3) := by decide +kernel
theorem dX10_glassAt_9 : decode cX10_glassAt 9 = .ok (.iload_n 1, 1) := by decide +kernel
theorem dX10_glassAt_10 : decode cX10_glassAt 10 = .ok (.iload_n 2, 1) := by decide +kernel
theorem dX10_glassAt_11 : decode cX10_glassAt 11 = .ok (.iload_n 1, 1) := by decide +kernel
theorem dX10_glassAt_12 : decode cX10_glassAt 12 = .ok (.iload_n 2, 1) := by decide +kernel
theorem dX10_glassAt_13 : decode cX10_glassAt 13 = .ok (.invokevirtual 324, 3) := by decide +kernel
theorem dX10_glassAt_16 : decode cX10_glassAt 16 = .ok (.aload_n 0, 1) := by decide +kernel
theorem dX10_glassAt_17 : decode cX10_glassAt 17 = .ok (.getfield 48, 3) := by decide +kernel
theorem dX10_glassAt_20 : decode cX10_glassAt 20 = .ok (.aload_n 0, 1) := by decide +kernel
theorem dX10_glassAt_21 : decode cX10_glassAt 21 = .ok (.getfield 72, 3) := by decide +kernel
theorem dX10_glassAt_24 : decode cX10_glassAt 24 = .ok (.aload_n 0, 1) := by decide +kernel
theorem dX10_glassAt_25 : decode cX10_glassAt 25 = .ok (.getfield 192, 3) := by decide +kernel
theorem dX10_glassAt_28 : decode cX10_glassAt 28 = .ok (.invokevirtual 282, 3) := by decide +kernel
theorem dX10_glassAt_31 : decode cX10_glassAt 31 = .ok (.iconst 0, 1) := by decide +kernel
theorem dX10_glassAt_32 : decode cX10_glassAt 32 = .ok (.istore_n 3, 1) := by decide +kernel
theorem dX10_glassAt_33 : decode cX10_glassAt 33 = .ok (.iconst 0, 1) := by decide +kernel
theorem dX10_glassAt_34 : decode cX10_glassAt 34 = .ok (.istore 4, 2) := by decide +kernel
theorem dX10_glassAt_36 : decode cX10_glassAt 36 = .ok (.iload 4, 2) := by decide +kernel
theorem dX10_glassAt_38 : decode cX10_glassAt 38 = .ok (.aload_n 0, 1) := by decide +kernel
theorem dX10_glassAt_39 : decode cX10_glassAt 39 = .ok (.getfield 121, 3) := by decide +kernel
theorem dX10_glassAt_42 : decode cX10_glassAt 42 = .ok (.if_icmp .ge 55, 3) := by decide +kernel
theorem dX10_glassAt_45 : decode cX10_glassAt 45 = .ok (.aload_n 0, 1) := by decide +kernel
theorem dX10_glassAt_46 : decode cX10_glassAt 46 = .ok (.getfield 17, 3) := by decide +kernel
theorem dX10_glassAt_49 : decode cX10_glassAt 49 = .ok (.iload 4, 2) := by decide +kernel
theorem dX10_glassAt_51 : decode cX10_glassAt 51 = .ok (.aaload, 1) := by decide +kernel
theorem dX10_glassAt_52 : decode cX10_glassAt 52 = .ok (.getfield 147, 3) := by decide +kernel
theorem dX10_glassAt_55 : decode cX10_glassAt 55 = .ok (.ifCond .eq 36, 3) := by decide +kernel
theorem dX10_glassAt_58 : decode cX10_glassAt 58 = .ok (.aload_n 0, 1) := by decide +kernel
theorem dX10_glassAt_59 : decode cX10_glassAt 59 = .ok (.aload_n 0, 1) := by decide +kernel
theorem dX10_glassAt_60 : decode cX10_glassAt 60 = .ok (.getfield 48, 3) := by decide +kernel
theorem dX10_glassAt_63 : decode cX10_glassAt 63 = .ok (.aload_n 0, 1) := by decide +kernel
theorem dX10_glassAt_64 : decode cX10_glassAt 64 = .ok (.getfield 72, 3) := by decide +kernel
theorem dX10_glassAt_67 : decode cX10_glassAt 67 = .ok (.iload 4, 2) := by decide +kernel
theorem dX10_glassAt_69 : decode cX10_glassAt 69 = .ok (.invokevirtual 334, 3) := by decide +kernel
theorem dX10_glassAt_72 : decode cX10_glassAt 72 = .ok (.ifCond .eq 19, 3) := by decide +kernel
theorem dX10_glassAt_75 : decode cX10_glassAt 75 = .ok (.aload_n 0, 1) := by decide +kernel
theorem dX10_glassAt_76 : decode cX10_glassAt 76 = .ok (.getfield 17, 3) := by decide +kernel
theorem dX10_glassAt_79 : decode cX10_glassAt 79 = .ok (.iload 4, 2) := by decide +kernel
theorem dX10_glassAt_81 : decode cX10_glassAt 81 = .ok (.aaload, 1) := by decide +kernel
theorem dX10_glassAt_82 : decode cX10_glassAt 82 = .ok (.getfield 140, 3) := by decide +kernel
theorem dX10_glassAt_85 : decode cX10_glassAt 85 = .ok (.ifCond .eq 6, 3) := by decide +kernel
theorem dX10_glassAt_88 : decode cX10_glassAt 88 = .ok (.iinc 3 1, 3) := by decide +kernel
theorem dX10_glassAt_91 : decode cX10_glassAt 91 = .ok (.iinc 4 1, 3) := by decide +kernel
theorem dX10_glassAt_94 : decode cX10_glassAt 94 = .ok (.goto (-58), 3) := by decide +kernel
theorem dX10_glassAt_97 : decode cX10_glassAt 97 = .ok (.iload_n 3, 1) := by decide +kernel
theorem dX10_glassAt_98 : decode cX10_glassAt 98 = .ok (.ireturn, 1) := by decide +kernel
def st_X10_glassAt_36 (F : Nat)  (rec : Int32 → Int32 → GM → Option (Int32 × GM)) (a11 : Int32) (a12 : Int32) (M : GM) : Option (Int32 × GM) := if (gI M 0 13) ≤ a12 then (some (a11, M)) else (grd (gIn a12 (gN 2)) (bnd (gR 2 a12.toNatClampNeg) (fun o14 => if (gI M o14 6) = 0 then (bnd (a12 + (1 : Int32)) (fun v17 => rec a11 v17 M)) else (bndO (f_X10_drawPane F 31 43 a12 M) (fun (v20, M21) => if v20 = 0 then (bnd (a12 + (1 : Int32)) (fun v22 => rec a11 v22 M21)) else (grd (gIn a12 (gN 2)) (bnd (gR 2 a12.toNatClampNeg) (fun o25 => if (gI M21 o25 4) = 0 then (bnd (a12 + (1 : Int32)) (fun v28 => rec a11 v28 M21)) else (bnd (a11 + (1 : Int32)) (fun v30 => bnd (a12 + (1 : Int32)) (fun v32 => rec v30 v32 M21)))))))))))
def lp_X10_glassAt_36 (F : Nat)  : Nat → Int32 → Int32 → GM → Option (Int32 × GM)
  | 0 => fun _ _ _ => none
  | f + 1 => fun a11 a12 M => st_X10_glassAt_36 F  (lp_X10_glassAt_36 F  f) a11 a12 M
set_option maxHeartbeats 4000000 in
set_option maxRecDepth 100000 in
theorem lw_X10_glassAt_36 {x : GX} (X : GC x cX10_glassAt 5 RX10 7)   {F : Nat} {r9 : (Int32 × GM)} (hE : ∀ (x3_9 : Int32) (M9 : GM), r9 = (x3_9, M9) → WG x M9 [(3, .int x3_9)] 97 []) : ∀ (f : Nat) (a11 : Int32) (a12 : Int32) (M : GM), lp_X10_glassAt_36 F  f a11 a12 M = some r9 → WG x M [(0, .ref (gad (xz x) 0)), (3, .int a11), (4, .int a12)] 36 [] := by
  intro f
  induction f with
  | zero => intro a11 a12 M h; cases h
  | succ f ih =>
    intro a11 a12 M h
    have hrec := ih
    have h : st_X10_glassAt_36 F  (lp_X10_glassAt_36 F  f) a11 a12 M = some r9 := h
    generalize lp_X10_glassAt_36 F  f = rec at h hrec
    unfold st_X10_glassAt_36 at h
    refine g_iload X (j := 2) dX10_glassAt_36 rfl ?_
    refine g_aload_n X (j := 0) dX10_glassAt_38 rfl rfl ?_
    refine gf_X10_121 X gT_c0 dX10_glassAt_39 ?_
    refine g_icmp_ge X (tgt := 97) dX10_glassAt_42 (by decide) (fun hb => ?_) (fun hb => ?_)
    · have h := ite_t hb h
      refine g_lv [1] rfl ?_
      exact hE a11 M (Option.some.inj h).symm
    · have h := ite_f hb h
      refine g_aload_n X (j := 0) dX10_glassAt_45 rfl rfl ?_
      refine gf_X10_17 X gT_c0 dX10_glassAt_46 ?_
      refine g_iload X (j := 2) dX10_glassAt_49 rfl ?_
      obtain ⟨hg13, h⟩ := grd_e h
      refine g_aald_24 X gT_c2 hg13 dX10_glassAt_51 ?_
      refine g_topr (fun o14 e15 => ?_)
      have h := bnd_e e15 h
      have k16 : gT o14 = 4 := by rw [e15]; exact gR_24 gT_c2 (gIn_lt hg13)
      refine gf_X10_147 X k16 dX10_glassAt_52 ?_
      refine g_if_eq X (tgt := 91) dX10_glassAt_55 (by decide) (fun hb => ?_) (fun hb => ?_)
      · have h := ite_t hb h
        refine g_iinc X (j := 2) (w := a12 + (1 : Int32)) (lv' := [(0, .ref (gad (xz x) 0)), (3, .int a11)]) dX10_glassAt_91 rfl (by rw [ii_1]) (by decide) (fun _ => rfl) (fun v17 e18 => ?_)
        have h := bnd_e e18 h
        refine g_goto X (tgt := 36) dX10_glassAt_94 (by decide) ?_
        refine g_lv [1, 2, 0] rfl ?_
        exact hrec a11 v17 M h
      · have h := ite_f hb h
        refine g_aload_n X (j := 0) dX10_glassAt_58 rfl rfl ?_
        refine g_aload_n X (j := 0) dX10_glassAt_59 rfl rfl ?_
        refine gf_X10_48 X gT_c0 dX10_glassAt_60 ?_
        refine g_aload_n X (j := 0) dX10_glassAt_63 rfl rfl ?_
        refine gf_X10_72 X gT_c0 dX10_glassAt_64 ?_
        refine g_iload X (j := 2) dX10_glassAt_67 rfl ?_
        obtain ⟨⟨v20, M21⟩, hc19, h⟩ := bndO_e h
        refine gc_X10_334 X gT_c0 (ct_X10_drawPane X.htr gT_c31 gT_c43 hc19) (by decide) (Nat.le_of_ble_eq_true rfl) dX10_glassAt_69 ?_
        refine g_if_eq X (tgt := 91) dX10_glassAt_72 (by decide) (fun hb => ?_) (fun hb => ?_)
        · have h := ite_t hb h
          refine g_iinc X (j := 2) (w := a12 + (1 : Int32)) (lv' := [(0, .ref (gad (xz x) 0)), (3, .int a11)]) dX10_glassAt_91 rfl (by rw [ii_1]) (by decide) (fun _ => rfl) (fun v22 e23 => ?_)
          have h := bnd_e e23 h
          refine g_goto X (tgt := 36) dX10_glassAt_94 (by decide) ?_
          refine g_lv [1, 2, 0] rfl ?_
          exact hrec a11 v22 M21 h
        · have h := ite_f hb h
          refine g_aload_n X (j := 0) dX10_glassAt_75 rfl rfl ?_
          refine gf_X10_17 X gT_c0 dX10_glassAt_76 ?_
          refine g_iload X (j := 2) dX10_glassAt_79 rfl ?_
          obtain ⟨hg24, h⟩ := grd_e h
          refine g_aald_24 X gT_c2 hg24 dX10_glassAt_81 ?_
          refine g_topr (fun o25 e26 => ?_)
          have h := bnd_e e26 h
          have k27 : gT o25 = 4 := by rw [e26]; exact gR_24 gT_c2 (gIn_lt hg24)
          refine gf_X10_140 X k27 dX10_glassAt_82 ?_
          refine g_if_eq X (tgt := 91) dX10_glassAt_85 (by decide) (fun hb => ?_) (fun hb => ?_)
          · have h := ite_t hb h
            refine g_iinc X (j := 2) (w := a12 + (1 : Int32)) (lv' := [(0, .ref (gad (xz x) 0)), (3, .int a11)]) dX10_glassAt_91 rfl (by rw [ii_1]) (by decide) (fun _ => rfl) (fun v28 e29 => ?_)
            have h := bnd_e e29 h
            refine g_goto X (tgt := 36) dX10_glassAt_94 (by decide) ?_
            refine g_lv [1, 2, 0] rfl ?_
            exact hrec a11 v28 M21 h
          · have h := ite_f hb h
            refine g_iinc X (j := 1) (w := a11 + (1 : Int32)) (lv' := [(0, .ref (gad (xz x) 0)), (4, .int a12)]) dX10_glassAt_88 rfl (by rw [ii_1]) (by decide) (fun _ => rfl) (fun v30 e31 => ?_)
            have h := bnd_e e31 h
            refine g_iinc X (j := 2) (w := a12 + (1 : Int32)) (lv' := [(3, .int v30), (0, .ref (gad (xz x) 0))]) dX10_glassAt_91 rfl (by rw [ii_1]) (by decide) (fun _ => rfl) (fun v32 e33 => ?_)
            have h := bnd_e e33 h
            refine g_goto X (tgt := 36) dX10_glassAt_94 (by decide) ?_
            refine g_lv [2, 1, 0] rfl ?_
            exact hrec v30 v32 M21 h
def f_X10_glassAt (F : Nat) (i0 : Int32) (i1 : Int32) (M : GM) : Option ((Nat × GM) ⊕ (Int32 × GM)) := bndT (f_X10_requirePoint F i0 i1 M) (fun n2 => some (Sum.inl (n2, M))) (fun _ => bnd (f_X0_span 43 i0 i1 i0 i1 M) (fun M3 => bndO (f_X7_blank F 31 43 (gI M3 0 14) M3) (fun M6 => bnd (0 : Int32) (fun v7 => bnd (0 : Int32) (fun v9 => bndO (lp_X10_glassAt_36 F  F v7 v9 M6) (fun (v34, M35) => some (Sum.inr (v34, M35))))))))
set_option maxHeartbeats 4000000 in
set_option maxRecDepth 100000 in
theorem w_X10_glassAt {x : GX} (X : GC x cX10_glassAt 5 RX10 7) {i0 : Int32} {i1 : Int32}  {F : Nat} {M : GM} {r9 : ((Nat × GM) ⊕ (Int32 × GM))} (hR : ∀ (v9 : Int32) (M9 : GM) (lv9 : List (Nat × Value)) (pc9 : Nat), r9 = Sum.inr (v9, M9) → decode cX10_glassAt pc9 = .ok (.ireturn, 1) → WG x M9 lv9 pc9 [.int v9]) (hX : ∀ (n9 : Nat) (M9 : GM), r9 = Sum.inl (n9, M9) → GThr x n9 M9) (h : f_X10_glassAt F i0 i1 M = some r9) : WG x M [(0, .ref (gad (xz x) 0)), (1, .int i0), (2, .int i1)] 0 [] := by
  unfold f_X10_glassAt at h
  refine g_iload_n X (j := 1) dX10_glassAt_0 rfl rfl ?_
  refine g_iload_n X (j := 2) dX10_glassAt_1 rfl rfl ?_
  rcases bndT_e h with ⟨n2, hc1, h⟩ | ⟨⟨⟩, hc1, h⟩
  · exact gx_X10_271 X (cx_X10_requirePoint X.htr  hc1) (by decide) (Nat.le_of_ble_eq_true rfl) dX10_glassAt_2 (hX n2 M (Option.some.inj h).symm)
  refine gc_X10_271 X (ct_X10_requirePoint X.htr  hc1) (by decide) (Nat.le_of_ble_eq_true rfl) dX10_glassAt_2 ?_
  refine g_aload_n X (j := 0) dX10_glassAt_5 rfl rfl ?_
  refine gf_X10_72 X gT_c0 dX10_glassAt_6 ?_
  refine g_iload_n X (j := 1) dX10_glassAt_9 rfl rfl ?_
  refine g_iload_n X (j := 2) dX10_glassAt_10 rfl rfl ?_
  refine g_iload_n X (j := 1) dX10_glassAt_11 rfl rfl ?_
  refine g_iload_n X (j := 2) dX10_glassAt_12 rfl rfl ?_
  refine gc_X10_324 X gT_c43 (ct_X0_span X.htr gT_c43) (by decide) (Nat.le_of_ble_eq_true rfl) dX10_glassAt_13 ?_
  refine g_mem (fun M3 e4 => ?_)
  have h := bnd_e e4 h
  refine g_aload_n X (j := 0) dX10_glassAt_16 rfl rfl ?_
  refine gf_X10_48 X gT_c0 dX10_glassAt_17 ?_
  refine g_aload_n X (j := 0) dX10_glassAt_20 rfl rfl ?_
  refine gf_X10_72 X gT_c0 dX10_glassAt_21 ?_
  refine g_aload_n X (j := 0) dX10_glassAt_24 rfl rfl ?_
  refine gf_X10_192 X gT_c0 dX10_glassAt_25 ?_
  obtain ⟨M6, hc5, h⟩ := bndO_e h
  refine gc_X10_282 X gT_c31 (ct_X7_blank X.htr gT_c31 gT_c43 hc5) (by decide) (Nat.le_of_ble_eq_true rfl) dX10_glassAt_28 ?_
  refine g_iconst X (v := 0) dX10_glassAt_31 (by decide) ?_
  refine g_topi (fun v7 e8 => ?_)
  have h := bnd_e e8 h
  refine g_istore_n X (lv' := [(3, .int v7), (0, .ref (gad (xz x) 0)), (1, .int i0), (2, .int i1)]) dX10_glassAt_32 rfl (by decide) rfl ?_
  refine g_iconst X (v := 0) dX10_glassAt_33 (by decide) ?_
  refine g_topi (fun v9 e10 => ?_)
  have h := bnd_e e10 h
  refine g_istore X (lv' := [(4, .int v9), (3, .int v7), (0, .ref (gad (xz x) 0)), (1, .int i0), (2, .int i1)]) dX10_glassAt_34 (by decide) rfl ?_
  refine g_lv [2, 1, 0] rfl ?_
  obtain ⟨⟨v34, M35⟩, hl36, h⟩ := bndO_e h
  refine lw_X10_glassAt_36 X  (fun v34_ M35_ e9 => ?_) F v7 v9 M6 hl36
  cases e9
  refine g_iload_n X (j := 0) dX10_glassAt_97 rfl rfl ?_
  exact hR v34 M35 _ _ (Option.some.inj h).symm dX10_glassAt_98
theorem ct_X10_glassAt {l : Launch} {z : GZ} (htr : l.stackTraces = false) {i0 : Int32} {i1 : Int32}  {M : GM} {F : Nat} {v : Int32} {M1 : GM} (h : f_X10_glassAt F i0 i1 M = some (Sum.inr (v, M1))) : gMet l z yX10_glassAt cX10_glassAt 5 (some .int) 7 [.ref (gad z 0), .int i0, .int i1] M (some (.int v)) M1 := gMet_ofI (by decide +kernel) (Nat.le_of_ble_eq_true rfl) htr rfl (fun x X ez el hR => by subst ez; subst el; exact w_X10_glassAt X  (fun v9 M9 lv9 pc9 e9 d9 => by cases e9; exact hR lv9 pc9 d9) (by intros; rename_i e9; cases e9) h)
theorem cx_X10_glassAt {l : Launch} {z : GZ} (htr : l.stackTraces = false) {i0 : Int32} {i1 : Int32}  {M : GM} {F n : Nat} {M1 : GM} (h : f_X10_glassAt F i0 i1 M = some (Sum.inl (n, M1))) : gMetX l z yX10_glassAt cX10_glassAt 5 (some .int) 7 [.ref (gad z 0), .int i0, .int i1] M n M1 := gMetX_of (by decide +kernel) (Nat.le_of_ble_eq_true rfl) htr (fun x X ez el hT => by subst ez; subst el; exact w_X10_glassAt X  (by intros; rename_i e9 _; cases e9) (fun n9 M9 e9 => by cases e9; exact hT) h)
theorem dX10_brightness_0 : decode cX10_brightness 0 = .ok (.lconst 0, 1) := by decide +kernel
theorem dX10_brightness_1 : decode cX10_brightness 1 = .ok (.lstore_n 1, 1) := by decide +kernel
theorem dX10_brightness_2 : decode cX10_brightness 2 = .ok (.aload_n 0, 1) := by decide +kernel
theorem dX10_brightness_3 : decode cX10_brightness 3 = .ok (.getfield 44, 3) := by decide +kernel
theorem dX10_brightness_6 : decode cX10_brightness 6 = .ok (.getfield 306, 3) := by decide +kernel
theorem dX10_brightness_9 : decode cX10_brightness 9 = .ok (.astore_n 3, 1) := by decide +kernel
theorem dX10_brightness_10 : decode cX10_brightness 10 = .ok (.aload_n 3, 1) := by decide +kernel
theorem dX10_brightness_11 : decode cX10_brightness 11 = .ok (.arraylength, 1) := by decide +kernel
theorem dX10_brightness_12 : decode cX10_brightness 12 = .ok (.istore 4, 2) := by decide +kernel
theorem dX10_brightness_14 : decode cX10_brightness 14 = .ok (.iconst 0, 1) := by decide +kernel
theorem dX10_brightness_15 : decode cX10_brightness 15 = .ok (.istore 5, 2) := by decide +kernel
theorem dX10_brightness_17 : decode cX10_brightness 17 = .ok (.iload 5, 2) := by decide +kernel
theorem dX10_brightness_19 : decode cX10_brightness 19 = .ok (.iload 4, 2) := by decide +kernel
theorem dX10_brightness_21 : decode cX10_brightness 21 = .ok (.if_icmp .ge 36, 3) := by decide +kernel
theorem dX10_brightness_24 : decode cX10_brightness 24 = .ok (.aload_n 3, 1) := by decide +kernel
theorem dX10_brightness_25 : decode cX10_brightness 25 = .ok (.iload 5, 2) := by decide +kernel
theorem dX10_brightness_27 : decode cX10_brightness 27 = .ok (.iaload, 1) := by decide +kernel
theorem dX10_brightness_28 : decode cX10_brightness 28 = .ok (.istore 6, 2) := by decide +kernel
theorem dX10_brightness_30 : decode cX10_brightness 30 = .ok (.lload_n 1, 1) := by decide +kernel
theorem dX10_brightness_31 : decode cX10_brightness 31 = .ok (.iload 6, 2) := by decide +kernel
theorem dX10_brightness_33 : decode cX10_brightness 33 = .ok (.invokestatic 338, 3) := by decide +kernel
theorem dX10_brightness_36 : decode cX10_brightness 36 = .ok (.iload 6, 2) := by decide +kernel
theorem dX10_brightness_38 : decode cX10_brightness 38 = .ok (.invokestatic 341, 3) := by decide +kernel
theorem dX10_brightness_41 : decode cX10_brightness 41 = .ok (.iadd, 1) := by decide +kernel
theorem dX10_brightness_42 : decode cX10_brightness 42 = .ok (.iload 6, 2) := by decide +kernel
theorem dX10_brightness_44 : decode cX10_brightness 44 = .ok (.invokestatic 344, 3) := by decide +kernel
theorem dX10_brightness_47 : decode cX10_brightness 47 = .ok (.iadd, 1) := by decide +kernel
theorem dX10_brightness_48 : decode cX10_brightness 48 = .ok (.i2l, 1) := by decide +kernel
theorem dX10_brightness_49 : decode cX10_brightness 49 = .ok (.ladd, 1) := by decide +kernel
theorem dX10_brightness_50 : decode cX10_brightness 50 = .ok (.lstore_n 1, 1) := by decide +kernel
theorem dX10_brightness_51 : decode cX10_brightness 51 = .ok (.iinc 5 1, 3) := by decide +kernel
theorem dX10_brightness_54 : decode cX10_brightness 54 = .ok (.goto (-37), 3) := by decide +kernel
theorem dX10_brightness_57 : decode cX10_brightness 57 = .ok (.lload_n 1, 1) := by decide +kernel
theorem dX10_brightness_58 : decode cX10_brightness 58 = .ok (.l2d, 1) := by decide +kernel
theorem dX10_brightness_59 : decode cX10_brightness 59 = .ok (.ldc2_w 347, 3) := by decide +kernel
theorem dX10_brightness_62 : decode cX10_brightness 62 = .ok (.ddiv, 1) := by decide +kernel
theorem dX10_brightness_63 : decode cX10_brightness 63 = .ok (.dreturn, 1) := by decide +kernel
def st_X10_brightness_17 (F : Nat) (a8 : Int32) (rec : Int64 → Int32 → Option Int64) (b7 : Int64) (a9 : Int32) (M : GM) : Option Int64 := if a8 ≤ a9 then (some b7) else (grd (gIn a9 (gN 28)) (bnd (gI M 28 a9.toNatClampNeg) (fun v11 => bnd (b7 + ((((f_X10_redOf v11) + (f_X10_greenOf v11)) + (f_X10_blueOf v11)).toInt64)) (fun w13 => bnd (a9 + (1 : Int32)) (fun v15 => rec w13 v15)))))
def lp_X10_brightness_17 (F : Nat) (a8 : Int32) (M : GM) : Nat → Int64 → Int32 → Option Int64
  | 0 => fun _ _ => none
  | f + 1 => fun b7 a9 => st_X10_brightness_17 F a8 (lp_X10_brightness_17 F a8 M f) b7 a9 M
set_option maxHeartbeats 4000000 in
set_option maxRecDepth 100000 in
theorem lw_X10_brightness_17 {x : GX} (X : GC x cX10_brightness 7 RX10 1) {a8 : Int32}  {F : Nat} {M : GM} {r9 : Int64} (hE : ∀ (x1_9 : Int64), r9 = x1_9 → WG x M [(1, .long x1_9)] 57 []) : ∀ (f : Nat) (b7 : Int64) (a9 : Int32), lp_X10_brightness_17 F a8 M f b7 a9 = some r9 → WG x M [(1, .long b7), (3, .ref (gad (xz x) 28)), (4, .int a8), (5, .int a9)] 17 [] := by
  intro f
  induction f with
  | zero => intro b7 a9 h; cases h
  | succ f ih =>
    intro b7 a9 h
    have hrec := ih
    have h : st_X10_brightness_17 F a8 (lp_X10_brightness_17 F a8 M f) b7 a9 M = some r9 := h
    generalize lp_X10_brightness_17 F a8 M f = rec at h hrec
    unfold st_X10_brightness_17 at h
    refine g_iload X (j := 3) dX10_brightness_17 rfl ?_
    refine g_iload X (j := 2) dX10_brightness_19 rfl ?_
    refine g_icmp_ge X (tgt := 57) dX10_brightness_21 (by decide) (fun hb => ?_) (fun hb => ?_)
    · have h := ite_t hb h
      refine g_lv [0] rfl ?_
      exact hE b7 (Option.some.inj h).symm
    · have h := ite_f hb h
      refine g_aload_n X (j := 1) dX10_brightness_24 rfl rfl ?_
      refine g_iload X (j := 3) dX10_brightness_25 rfl ?_
      obtain ⟨hg10, h⟩ := grd_e h
      refine g_iald X gT_c28 hg10 dX10_brightness_27 ?_
      refine g_topi (fun v11 e12 => ?_)
      have h := bnd_e e12 h
      refine g_istore X (lv' := [(6, .int v11), (1, .long b7), (3, .ref (gad (xz x) 28)), (4, .int a8), (5, .int a9)]) dX10_brightness_28 (by decide) rfl ?_
      refine g_lload_n X (j := 1) dX10_brightness_30 rfl rfl ?_
      refine g_iload X (j := 0) dX10_brightness_31 rfl ?_
      refine gc_X10_338 X (ct_X10_redOf X.htr ) (by decide) (Nat.le_of_ble_eq_true rfl) dX10_brightness_33 ?_
      refine g_iload X (j := 0) dX10_brightness_36 rfl ?_
      refine gc_X10_341 X (ct_X10_greenOf X.htr ) (by decide) (Nat.le_of_ble_eq_true rfl) dX10_brightness_38 ?_
      refine g_iadd X dX10_brightness_41 ?_
      refine g_iload X (j := 0) dX10_brightness_42 rfl ?_
      refine gc_X10_344 X (ct_X10_blueOf X.htr ) (by decide) (Nat.le_of_ble_eq_true rfl) dX10_brightness_44 ?_
      refine g_iadd X dX10_brightness_47 ?_
      refine g_i2l X dX10_brightness_48 ?_
      refine g_ladd X dX10_brightness_49 ?_
      refine g_topl (fun w13 e14 => ?_)
      have h := bnd_e e14 h
      refine g_lstore_n X (lv' := [(1, .long w13), (6, .int v11), (3, .ref (gad (xz x) 28)), (4, .int a8), (5, .int a9)]) dX10_brightness_50 rfl (by decide) rfl ?_
      refine g_iinc X (j := 4) (w := a9 + (1 : Int32)) (lv' := [(1, .long w13), (6, .int v11), (3, .ref (gad (xz x) 28)), (4, .int a8)]) dX10_brightness_51 rfl (by rw [ii_1]) (by decide) (fun _ => rfl) (fun v15 e16 => ?_)
      have h := bnd_e e16 h
      refine g_goto X (tgt := 17) dX10_brightness_54 (by decide) ?_
      refine g_lv [1, 3, 4, 0] rfl ?_
      exact hrec w13 v15 h
def f_X10_brightness (F : Nat) (M : GM) : Option UInt64 := bnd (0 : Int64) (fun w1 => bnd (960 : Int32) (fun v3 => bnd (0 : Int32) (fun v5 => bndO (lp_X10_brightness_17 F v3 M F w1 v5) (fun w17 => grd (gNum (FP.ddiv (FP.l2d w17) (4651655465120301056 : UInt64))) (some (FP.ddiv (FP.l2d w17) (4651655465120301056 : UInt64)))))))
set_option maxHeartbeats 4000000 in
set_option maxRecDepth 100000 in
theorem w_X10_brightness {x : GX} (X : GC x cX10_brightness 7 RX10 1)   {F : Nat} {M : GM} {r9 : UInt64} (hR : ∀ (v9 : UInt64) (lv9 : List (Nat × Value)) (pc9 : Nat), r9 = v9 → decode cX10_brightness pc9 = .ok (.dreturn, 1) → WG x M lv9 pc9 [.double v9]) (h : f_X10_brightness F M = some r9) : WG x M [(0, .ref (gad (xz x) 0))] 0 [] := by
  unfold f_X10_brightness at h
  refine g_lconst X (v := 0) dX10_brightness_0 (by decide) ?_
  refine g_topl (fun w1 e2 => ?_)
  have h := bnd_e e2 h
  refine g_lstore_n X (lv' := [(1, .long w1), (0, .ref (gad (xz x) 0))]) dX10_brightness_1 rfl (by decide) rfl ?_
  refine g_aload_n X (j := 1) dX10_brightness_2 rfl rfl ?_
  refine gf_X10_44 X gT_c0 dX10_brightness_3 ?_
  refine gf_X10_306 X gT_c27 dX10_brightness_6 ?_
  refine g_astore_n X (lv' := [(3, .ref (gad (xz x) 28)), (1, .long w1), (0, .ref (gad (xz x) 0))]) dX10_brightness_9 rfl (by decide) rfl ?_
  refine g_aload_n X (j := 0) dX10_brightness_10 rfl rfl ?_
  refine g_alen_20 X gT_c28 dX10_brightness_11 ?_
  rw [show Int32.ofNat (gN 28) = 960 by decide +kernel]
  refine g_topi (fun v3 e4 => ?_)
  have h := bnd_e e4 h
  refine g_istore X (lv' := [(4, .int v3), (3, .ref (gad (xz x) 28)), (1, .long w1), (0, .ref (gad (xz x) 0))]) dX10_brightness_12 (by decide) rfl ?_
  refine g_iconst X (v := 0) dX10_brightness_14 (by decide) ?_
  refine g_topi (fun v5 e6 => ?_)
  have h := bnd_e e6 h
  refine g_istore X (lv' := [(5, .int v5), (4, .int v3), (3, .ref (gad (xz x) 28)), (1, .long w1), (0, .ref (gad (xz x) 0))]) dX10_brightness_15 (by decide) rfl ?_
  refine g_lv [3, 2, 1, 0] rfl ?_
  obtain ⟨w17, hl18, h⟩ := bndO_e h
  refine lw_X10_brightness_17 X  (fun w17_ e9 => ?_) F w1 v5 hl18
  cases e9
  refine g_lload_n X (j := 0) dX10_brightness_57 rfl rfl ?_
  refine g_l2d X dX10_brightness_58 ?_
  refine g_ldc2d X q_650 dX10_brightness_59 ?_
  obtain ⟨hg19, h⟩ := grd_e h
  refine g_ddiv X dX10_brightness_62 (gNum_of hg19) ?_
  exact hR (FP.ddiv (FP.l2d w17) (4651655465120301056 : UInt64)) _ _ (Option.some.inj h).symm dX10_brightness_63
theorem ct_X10_brightness {l : Launch} {z : GZ} (htr : l.stackTraces = false)   {M : GM} {F : Nat} {v : UInt64} (h : f_X10_brightness F M = some v) : gMet l z yX10_brightness cX10_brightness 7 (some .double) 1 [.ref (gad z 0)] M (some (.double v)) M := gMet_ofD (by decide +kernel) (Nat.le_of_ble_eq_true rfl) htr (fun x X ez el hR => by subst ez; subst el; exact w_X10_brightness X  (fun v9 lv9 pc9 e9 d9 => by cases e9; exact hR lv9 pc9 d9) h)
theorem gc_X10_376 {x : GX} {cc : ByteArray} {nL d pc : Nat} {M : GM} {lv : List (Nat × Value)} {st : List Value} (X : GC x cc nL RX10 d) {i0 : Int32} {M1 : GM} {r : Int32} (ht : gT 0 = 10) (hM : gMet (xl x) (xz x) yX10_polygonOf cX10_polygonOf 2 (some .int) 7 [.ref (gad (xz x) 0), .int i0] M (some (.int r)) M1) (hd : 8 ≤ d) (hsum : (st.map fun v => v.category).sum ≤ 8) (dec : decode cc pc = .ok (.invokevirtual 376, 3)) (go : WG x M1 lv (pc + 3) (.int r :: st)) : WG x M lv pc (.int i0 :: .ref (gad (xz x) 0) :: st) := g_callV X (n := 1) (As := [.int i0]) (rest := st) hM ht (by decide) (gE_10 ht) rfl q_744 q_745 q_746 q_52 q_747 (by decide +kernel) rfl hd (by decide) rfl hsum dec go
theorem gx_X10_376 {x : GX} {cc : ByteArray} {nL d pc : Nat} {M : GM} {lv : List (Nat × Value)} {st : List Value} (X : GC x cc nL RX10 d) {i0 : Int32} {M1 : GM} {n9 : Nat} (ht : gT 0 = 10) (hM : gMetX (xl x) (xz x) yX10_polygonOf cX10_polygonOf 2 (some .int) 7 [.ref (gad (xz x) 0), .int i0] M n9 M1) (hd : 8 ≤ d) (hsum : (st.map fun v => v.category).sum ≤ 8) (dec : decode cc pc = .ok (.invokevirtual 376, 3)) (hT : GThr x n9 M1) : WG x M lv pc (.int i0 :: .ref (gad (xz x) 0) :: st) := g_xV X (n := 1) (As := [.int i0]) (rest := st) hM ht (by decide) (gE_10 ht) rfl q_744 q_745 q_746 q_52 q_747 (by decide +kernel) rfl hd (by decide) rfl hsum dec hT
theorem gc_X10_379 {x : GX} {cc : ByteArray} {nL d pc : Nat} {M : GM} {lv : List (Nat × Value)} {st : List Value} (X : GC x cc nL RX10 d) {i0 : Int32} {M1 : GM} {r : Int32} (ht : gT 0 = 10) (hM : gMet (xl x) (xz x) yX10_piecesOf cX10_piecesOf 7 (some .int) 7 [.ref (gad (xz x) 0), .int i0] M (some (.int r)) M1) (hd : 8 ≤ d) (hsum : (st.map fun v => v.category).sum ≤ 8) (dec : decode cc pc = .ok (.invokevirtual 379, 3)) (go : WG x M1 lv (pc + 3) (.int r :: st)) : WG x M lv pc (.int i0 :: .ref (gad (xz x) 0) :: st) := g_callV X (n := 1) (As := [.int i0]) (rest := st) hM ht (by decide) (gE_10 ht) rfl q_753 q_754 q_755 q_52 q_756 (by decide +kernel) rfl hd (by decide) rfl hsum dec go
theorem gx_X10_379 {x : GX} {cc : ByteArray} {nL d pc : Nat} {M : GM} {lv : List (Nat × Value)} {st : List Value} (X : GC x cc nL RX10 d) {i0 : Int32} {M1 : GM} {n9 : Nat} (ht : gT 0 = 10) (hM : gMetX (xl x) (xz x) yX10_piecesOf cX10_piecesOf 7 (some .int) 7 [.ref (gad (xz x) 0), .int i0] M n9 M1) (hd : 8 ≤ d) (hsum : (st.map fun v => v.category).sum ≤ 8) (dec : decode cc pc = .ok (.invokevirtual 379, 3)) (hT : GThr x n9 M1) : WG x M lv pc (.int i0 :: .ref (gad (xz x) 0) :: st) := g_xV X (n := 1) (As := [.int i0]) (rest := st) hM ht (by decide) (gE_10 ht) rfl q_753 q_754 q_755 q_52 q_756 (by decide +kernel) rfl hd (by decide) rfl hsum dec hT
theorem gc_X10_382 {x : GX} {cc : ByteArray} {nL d pc : Nat} {M : GM} {lv : List (Nat × Value)} {st : List Value} (X : GC x cc nL RX10 d) {i0 : Int32} {M1 : GM} {r : Int32} (ht : gT 0 = 10) (hM : gMet (xl x) (xz x) yX10_pointsOf cX10_pointsOf 5 (some .int) 7 [.ref (gad (xz x) 0), .int i0] M (some (.int r)) M1) (hd : 8 ≤ d) (hsum : (st.map fun v => v.category).sum ≤ 8) (dec : decode cc pc = .ok (.invokevirtual 382, 3)) (go : WG x M1 lv (pc + 3) (.int r :: st)) : WG x M lv pc (.int i0 :: .ref (gad (xz x) 0) :: st) := g_callV X (n := 1) (As := [.int i0]) (rest := st) hM ht (by decide) (gE_10 ht) rfl q_757 q_758 q_759 q_52 q_760 (by decide +kernel) rfl hd (by decide) rfl hsum dec go
theorem gx_X10_382 {x : GX} {cc : ByteArray} {nL d pc : Nat} {M : GM} {lv : List (Nat × Value)} {st : List Value} (X : GC x cc nL RX10 d) {i0 : Int32} {M1 : GM} {n9 : Nat} (ht : gT 0 = 10) (hM : gMetX (xl x) (xz x) yX10_pointsOf cX10_pointsOf 5 (some .int) 7 [.ref (gad (xz x) 0), .int i0] M n9 M1) (hd : 8 ≤ d) (hsum : (st.map fun v => v.category).sum ≤ 8) (dec : decode cc pc = .ok (.invokevirtual 382, 3)) (hT : GThr x n9 M1) : WG x M lv pc (.int i0 :: .ref (gad (xz x) 0) :: st) := g_xV X (n := 1) (As := [.int i0]) (rest := st) hM ht (by decide) (gE_10 ht) rfl q_757 q_758 q_759 q_52 q_760 (by decide +kernel) rfl hd (by decide) rfl hsum dec hT
theorem gc_X10_385 {x : GX} {cc : ByteArray} {nL d pc : Nat} {M : GM} {lv : List (Nat × Value)} {st : List Value} (X : GC x cc nL RX10 d) {i0 : Int32} {M1 : GM} {r : Int32} (ht : gT 0 = 10) (hM : gMet (xl x) (xz x) yX10_pointsWith cX10_pointsWith 7 (some .int) 7 [.ref (gad (xz x) 0), .int i0] M (some (.int r)) M1) (hd : 8 ≤ d) (hsum : (st.map fun v => v.category).sum ≤ 8) (dec : decode cc pc = .ok (.invokevirtual 385, 3)) (go : WG x M1 lv (pc + 3) (.int r :: st)) : WG x M lv pc (.int i0 :: .ref (gad (xz x) 0) :: st) := g_callV X (n := 1) (As := [.int i0]) (rest := st) hM ht (by decide) (gE_10 ht) rfl q_771 q_772 q_773 q_52 q_774 (by decide +kernel) rfl hd (by decide) rfl hsum dec go
theorem gx_X10_385 {x : GX} {cc : ByteArray} {nL d pc : Nat} {M : GM} {lv : List (Nat × Value)} {st : List Value} (X : GC x cc nL RX10 d) {i0 : Int32} {M1 : GM} {n9 : Nat} (ht : gT 0 = 10) (hM : gMetX (xl x) (xz x) yX10_pointsWith cX10_pointsWith 7 (some .int) 7 [.ref (gad (xz x) 0), .int i0] M n9 M1) (hd : 8 ≤ d) (hsum : (st.map fun v => v.category).sum ≤ 8) (dec : decode cc pc = .ok (.invokevirtual 385, 3)) (hT : GThr x n9 M1) : WG x M lv pc (.int i0 :: .ref (gad (xz x) 0) :: st) := g_xV X (n := 1) (As := [.int i0]) (rest := st) hM ht (by decide) (gE_10 ht) rfl q_771 q_772 q_773 q_52 q_774 (by decide +kernel) rfl hd (by decide) rfl hsum dec hT
theorem gc_X10_388 {x : GX} {cc : ByteArray} {nL d pc : Nat} {M : GM} {lv : List (Nat × Value)} {st : List Value} (X : GC x cc nL RX10 d) {i0 : Int32} {i1 : Int32} {i2 : Int32} {M1 : GM} {r : Int32} (ht : gT 0 = 10) (hM : gMet (xl x) (xz x) yX10_screenOf cX10_screenOf 5 (some .int) 7 [.ref (gad (xz x) 0), .int i0, .int i1, .int i2] M (some (.int r)) M1) (hd : 8 ≤ d) (hsum : (st.map fun v => v.category).sum ≤ 8) (dec : decode cc pc = .ok (.invokevirtual 388, 3)) (go : WG x M1 lv (pc + 3) (.int r :: st)) : WG x M lv pc (.int i2 :: .int i1 :: .int i0 :: .ref (gad (xz x) 0) :: st) := g_callV X (n := 3) (As := [.int i0, .int i1, .int i2]) (rest := st) hM ht (by decide) (gE_10 ht) rfl q_775 q_776 q_777 q_52 q_778 (by decide +kernel) rfl hd (by decide) rfl hsum dec go
theorem gx_X10_388 {x : GX} {cc : ByteArray} {nL d pc : Nat} {M : GM} {lv : List (Nat × Value)} {st : List Value} (X : GC x cc nL RX10 d) {i0 : Int32} {i1 : Int32} {i2 : Int32} {M1 : GM} {n9 : Nat} (ht : gT 0 = 10) (hM : gMetX (xl x) (xz x) yX10_screenOf cX10_screenOf 5 (some .int) 7 [.ref (gad (xz x) 0), .int i0, .int i1, .int i2] M n9 M1) (hd : 8 ≤ d) (hsum : (st.map fun v => v.category).sum ≤ 8) (dec : decode cc pc = .ok (.invokevirtual 388, 3)) (hT : GThr x n9 M1) : WG x M lv pc (.int i2 :: .int i1 :: .int i0 :: .ref (gad (xz x) 0) :: st) := g_xV X (n := 3) (As := [.int i0, .int i1, .int i2]) (rest := st) hM ht (by decide) (gE_10 ht) rfl q_775 q_776 q_777 q_52 q_778 (by decide +kernel) rfl hd (by decide) rfl hsum dec hT
theorem dX10_digestPane_0 : decode cX10_digestPane 0 = .ok (.lload_n 1, 1) := by decide +kernel
theorem dX10_digestPane_1 : decode cX10_digestPane 1 = .ok (.lstore 4, 2) := by decide +kernel
theorem dX10_digestPane_3 : decode cX10_digestPane 3 = .ok (.aload_n 0, 1) := by decide +kernel
theorem dX10_digestPane_4 : decode cX10_digestPane 4 = .ok (.iload_n 3, 1) := by decide +kernel
theorem dX10_digestPane_5 : decode cX10_digestPane 5 = .ok (.invokevirtual 376, 3) := by decide +kernel
theorem dX10_digestPane_8 : decode cX10_digestPane 8 = .ok (.istore 6, 2) := by decide +kernel
theorem dX10_digestPane_10 : decode cX10_digestPane 10 = .ok (.lload 4, 2) := by decide +kernel
theorem dX10_digestPane_12 : decode cX10_digestPane 12 = .ok (.ldc2_w 351, 3) := by decide +kernel
theorem dX10_digestPane_15 : decode cX10_digestPane 15 = .ok (.lmul, 1) := by decide +kernel
theorem dX10_digestPane_16 : decode cX10_digestPane 16 = .ok (.iload 6, 2) := by decide +kernel
theorem dX10_digestPane_18 : decode cX10_digestPane 18 = .ok (.i2l, 1) := by decide +kernel
theorem dX10_digestPane_19 : decode cX10_digestPane 19 = .ok (.ladd, 1) := by decide +kernel
theorem dX10_digestPane_20 : decode cX10_digestPane 20 = .ok (.lstore 4, 2) := by decide +kernel
theorem dX10_digestPane_22 : decode cX10_digestPane 22 = .ok (.lload 4, 2) := by decide +kernel
theorem dX10_digestPane_24 : decode cX10_digestPane 24 = .ok (.ldc2_w 351, 3) := by decide +kernel
theorem dX10_digestPane_27 : decode cX10_digestPane 27 = .ok (.lmul, 1) := by decide +kernel
theorem dX10_digestPane_28 : decode cX10_digestPane 28 = .ok (.aload_n 0, 1) := by decide +kernel
theorem dX10_digestPane_29 : decode cX10_digestPane 29 = .ok (.iload_n 3, 1) := by decide +kernel
theorem dX10_digestPane_30 : decode cX10_digestPane 30 = .ok (.invokevirtual 379, 3) := by decide +kernel
theorem dX10_digestPane_33 : decode cX10_digestPane 33 = .ok (.i2l, 1) := by decide +kernel
theorem dX10_digestPane_34 : decode cX10_digestPane 34 = .ok (.ladd, 1) := by decide +kernel
theorem dX10_digestPane_35 : decode cX10_digestPane 35 = .ok (.lstore 4, 2) := by decide +kernel
theorem dX10_digestPane_37 : decode cX10_digestPane 37 = .ok (.lload 4, 2) := by decide +kernel
theorem dX10_digestPane_39 : decode cX10_digestPane 39 = .ok (.ldc2_w 351, 3) := by decide +kernel
theorem dX10_digestPane_42 : decode cX10_digestPane 42 = .ok (.lmul, 1) := by decide +kernel
theorem dX10_digestPane_43 : decode cX10_digestPane 43 = .ok (.aload_n 0, 1) := by decide +kernel
theorem dX10_digestPane_44 : decode cX10_digestPane 44 = .ok (.iload_n 3, 1) := by decide +kernel
theorem dX10_digestPane_45 : decode cX10_digestPane 45 = .ok (.invokevirtual 382, 3) := by decide +kernel
theorem dX10_digestPane_48 : decode cX10_digestPane 48 = .ok (.i2l, 1) := by decide +kernel
theorem dX10_digestPane_49 : decode cX10_digestPane 49 = .ok (.ladd, 1) := by decide +kernel
theorem dX10_digestPane_50 : decode cX10_digestPane 50 = .ok (.lstore 4, 2) := by decide +kernel
theorem dX10_digestPane_52 : decode cX10_digestPane 52 = .ok (.lload 4, 2) := by decide +kernel
theorem dX10_digestPane_54 : decode cX10_digestPane 54 = .ok (.ldc2_w 351, 3) := by decide +kernel
theorem dX10_digestPane_57 : decode cX10_digestPane 57 = .ok (.lmul, 1) := by decide +kernel
theorem dX10_digestPane_58 : decode cX10_digestPane 58 = .ok (.aload_n 0, 1) := by decide +kernel
theorem dX10_digestPane_59 : decode cX10_digestPane 59 = .ok (.iload_n 3, 1) := by decide +kernel
theorem dX10_digestPane_60 : decode cX10_digestPane 60 = .ok (.invokevirtual 385, 3) := by decide +kernel
theorem dX10_digestPane_63 : decode cX10_digestPane 63 = .ok (.i2l, 1) := by decide +kernel
theorem dX10_digestPane_64 : decode cX10_digestPane 64 = .ok (.ladd, 1) := by decide +kernel
theorem dX10_digestPane_65 : decode cX10_digestPane 65 = .ok (.lstore 4, 2) := by decide +kernel
theorem dX10_digestPane_67 : decode cX10_digestPane 67 = .ok (.iconst 0, 1) := by decide +kernel
theorem dX10_digestPane_68 : decode cX10_digestPane 68 = .ok (.istore 7, 2) := by decide +kernel
theorem dX10_digestPane_70 : decode cX10_digestPane 70 = .ok (.iload 7, 2) := by decide +kernel
theorem dX10_digestPane_72 : decode cX10_digestPane 72 = .ok (.iload 6, 2) := by decide +kernel
theorem dX10_digestPane_74 : decode cX10_digestPane 74 = .ok (.if_icmp .ge 43, 3) := by decide +kernel
theorem dX10_digestPane_77 : decode cX10_digestPane 77 = .ok (.iconst 0, 1) := by decide +kernel
theorem dX10_digestPane_78 : decode cX10_digestPane 78 = .ok (.istore 8, 2) := by decide +kernel
theorem dX10_digestPane_80 : decode cX10_digestPane 80 = .ok (.iload 8, 2) := by decide +kernel
theorem dX10_digestPane_82 : decode cX10_digestPane 82 = .ok (.iconst 4, 1) := by decide +kernel
theorem dX10_digestPane_83 : decode cX10_digestPane 83 = .ok (.if_icmp .ge 28, 3) := by decide +kernel
theorem dX10_digestPane_86 : decode cX10_digestPane 86 = .ok (.lload 4, 2) := by decide +kernel
theorem dX10_digestPane_88 : decode cX10_digestPane 88 = .ok (.ldc2_w 351, 3) := by decide +kernel
theorem dX10_digestPane_91 : decode cX10_digestPane 91 = .ok (.lmul, 1) := by decide +kernel
theorem dX10_digestPane_92 : decode cX10_digestPane 92 = .ok (.aload_n 0, 1) := by decide +kernel
theorem dX10_digestPane_93 : decode cX10_digestPane 93 = .ok (.iload_n 3, 1) := by decide +kernel
theorem dX10_digestPane_94 : decode cX10_digestPane 94 = .ok (.iload 7, 2) := by decide +kernel
theorem dX10_digestPane_96 : decode cX10_digestPane 96 = .ok (.iload 8, 2) := by decide +kernel
theorem dX10_digestPane_98 : decode cX10_digestPane 98 = .ok (.invokevirtual 388, 3) := by decide +kernel
theorem dX10_digestPane_101 : decode cX10_digestPane 101 = .ok (.i2l, 1) := by decide +kernel
theorem dX10_digestPane_102 : decode cX10_digestPane 102 = .ok (.ladd, 1) := by decide +kernel
theorem dX10_digestPane_103 : decode cX10_digestPane 103 = .ok (.lstore 4, 2) := by decide +kernel
theorem dX10_digestPane_105 : decode cX10_digestPane 105 = .ok (.iinc 8 1, 3) := by decide +kernel
theorem dX10_digestPane_108 : decode cX10_digestPane 108 = .ok (.goto (-28), 3) := by decide +kernel
theorem dX10_digestPane_111 : decode cX10_digestPane 111 = .ok (.iinc 7 1, 3) := by decide +kernel
theorem dX10_digestPane_114 : decode cX10_digestPane 114 = .ok (.goto (-44), 3) := by decide +kernel
theorem dX10_digestPane_117 : decode cX10_digestPane 117 = .ok (.lload 4, 2) := by decide +kernel
theorem dX10_digestPane_119 : decode cX10_digestPane 119 = .ok (.lreturn, 1) := by decide +kernel
def st_X10_digestPane_80 (F : Nat) (a39 : Int32) (a41 : Int32) (a42 : Int32) (rec : Int64 → Int32 → GM → Option ((Int64 × GM) ⊕ ((Nat × GM) ⊕ (Int64 × GM)))) (b40 : Int64) (a43 : Int32) (M : GM) : Option ((Int64 × GM) ⊕ ((Nat × GM) ⊕ (Int64 × GM))) := if (4 : Int32) ≤ a43 then (some (Sum.inl (b40, M))) else (bndT (f_X10_screenOf F a39 a42 a43 M) (fun (n47, M48) => some (Sum.inr (Sum.inl (n47, M48)))) (fun (v45, M46) => bnd ((b40 * (31 : Int64)) + v45.toInt64) (fun w49 => bnd (a43 + (1 : Int32)) (fun v51 => rec w49 v51 M46))))
def lp_X10_digestPane_80 (F : Nat) (a39 : Int32) (a41 : Int32) (a42 : Int32) : Nat → Int64 → Int32 → GM → Option ((Int64 × GM) ⊕ ((Nat × GM) ⊕ (Int64 × GM)))
  | 0 => fun _ _ _ => none
  | f + 1 => fun b40 a43 M => st_X10_digestPane_80 F a39 a41 a42 (lp_X10_digestPane_80 F a39 a41 a42 f) b40 a43 M
set_option maxHeartbeats 4000000 in
set_option maxRecDepth 100000 in
theorem lw_X10_digestPane_80 {x : GX} (X : GC x cX10_digestPane 9 RX10 8) {a39 : Int32} {a41 : Int32} {a42 : Int32}  {F : Nat} {r9 : ((Int64 × GM) ⊕ ((Nat × GM) ⊕ (Int64 × GM)))} (hR : ∀ (v9 : Int64) (M9 : GM) (lv9 : List (Nat × Value)) (pc9 : Nat), r9 = Sum.inr (Sum.inr (v9, M9)) → decode cX10_digestPane pc9 = .ok (.lreturn, 1) → WG x M9 lv9 pc9 [.long v9]) (hX : ∀ (n9 : Nat) (M9 : GM), r9 = Sum.inr (Sum.inl (n9, M9)) → GThr x n9 M9) (hE : ∀ (x4_9 : Int64) (M9 : GM), r9 = Sum.inl (x4_9, M9) → WG x M9 [(0, .ref (gad (xz x) 0)), (3, .int a39), (4, .long x4_9), (6, .int a41), (7, .int a42)] 111 []) : ∀ (f : Nat) (b40 : Int64) (a43 : Int32) (M : GM), lp_X10_digestPane_80 F a39 a41 a42 f b40 a43 M = some r9 → WG x M [(0, .ref (gad (xz x) 0)), (3, .int a39), (4, .long b40), (6, .int a41), (7, .int a42), (8, .int a43)] 80 [] := by
  intro f
  induction f with
  | zero => intro b40 a43 M h; cases h
  | succ f ih =>
    intro b40 a43 M h
    have hrec := ih
    have h : st_X10_digestPane_80 F a39 a41 a42 (lp_X10_digestPane_80 F a39 a41 a42 f) b40 a43 M = some r9 := h
    generalize lp_X10_digestPane_80 F a39 a41 a42 f = rec at h hrec
    unfold st_X10_digestPane_80 at h
    refine g_iload X (j := 5) dX10_digestPane_80 rfl ?_
    refine g_iconst X (v := 4) dX10_digestPane_82 (by decide) ?_
    refine g_icmp_ge X (tgt := 111) dX10_digestPane_83 (by decide) (fun hb => ?_) (fun hb => ?_)
    · have h := ite_t hb h
      refine g_lv [0, 1, 2, 3, 4] rfl ?_
      exact hE b40 M (Option.some.inj h).symm
    · have h := ite_f hb h
      refine g_lload X (j := 2) dX10_digestPane_86 rfl ?_
      refine g_ldc2 X q_656 dX10_digestPane_88 ?_
      refine g_lmul X dX10_digestPane_91 ?_
      refine g_aload_n X (j := 0) dX10_digestPane_92 rfl rfl ?_
      refine g_iload_n X (j := 1) dX10_digestPane_93 rfl rfl ?_
      refine g_iload X (j := 4) dX10_digestPane_94 rfl ?_
      refine g_iload X (j := 5) dX10_digestPane_96 rfl ?_
      rcases bndT_e h with ⟨⟨n47, M48⟩, hc44, h⟩ | ⟨⟨v45, M46⟩, hc44, h⟩
      · exact gx_X10_388 X gT_c0 (cx_X10_screenOf X.htr  hc44) (by decide) (Nat.le_of_ble_eq_true rfl) dX10_digestPane_98 (hX n47 M48 (Option.some.inj h).symm)
      refine gc_X10_388 X gT_c0 (ct_X10_screenOf X.htr  hc44) (by decide) (Nat.le_of_ble_eq_true rfl) dX10_digestPane_98 ?_
      refine g_i2l X dX10_digestPane_101 ?_
      refine g_ladd X dX10_digestPane_102 ?_
      refine g_topl (fun w49 e50 => ?_)
      have h := bnd_e e50 h
      refine g_lstore X (lv' := [(4, .long w49), (0, .ref (gad (xz x) 0)), (3, .int a39), (6, .int a41), (7, .int a42), (8, .int a43)]) dX10_digestPane_103 (by decide) rfl ?_
      refine g_iinc X (j := 5) (w := a43 + (1 : Int32)) (lv' := [(4, .long w49), (0, .ref (gad (xz x) 0)), (3, .int a39), (6, .int a41), (7, .int a42)]) dX10_digestPane_105 rfl (by rw [ii_1]) (by decide) (fun _ => rfl) (fun v51 e52 => ?_)
      have h := bnd_e e52 h
      refine g_goto X (tgt := 80) dX10_digestPane_108 (by decide) ?_
      refine g_lv [2, 3, 1, 4, 5, 0] rfl ?_
      exact hrec w49 v51 M46 h
def st_X10_digestPane_70 (F : Nat) (a33 : Int32) (a35 : Int32) (rec : Int64 → Int32 → GM → Option ((Int64 × GM) ⊕ ((Nat × GM) ⊕ (Int64 × GM)))) (b34 : Int64) (a36 : Int32) (M : GM) : Option ((Int64 × GM) ⊕ ((Nat × GM) ⊕ (Int64 × GM))) := if a35 ≤ a36 then (some (Sum.inl (b34, M))) else (bnd (0 : Int32) (fun v37 => bndT (lp_X10_digestPane_80 F a33 a35 a36 F b34 v37 M) (fun (w53, M54) => bnd (a36 + (1 : Int32)) (fun v57 => rec w53 v57 M54)) (fun r56 => some (Sum.inr r56))))
def lp_X10_digestPane_70 (F : Nat) (a33 : Int32) (a35 : Int32) : Nat → Int64 → Int32 → GM → Option ((Int64 × GM) ⊕ ((Nat × GM) ⊕ (Int64 × GM)))
  | 0 => fun _ _ _ => none
  | f + 1 => fun b34 a36 M => st_X10_digestPane_70 F a33 a35 (lp_X10_digestPane_70 F a33 a35 f) b34 a36 M
set_option maxHeartbeats 4000000 in
set_option maxRecDepth 100000 in
theorem lw_X10_digestPane_70 {x : GX} (X : GC x cX10_digestPane 9 RX10 8) {a33 : Int32} {a35 : Int32}  {F : Nat} {r9 : ((Int64 × GM) ⊕ ((Nat × GM) ⊕ (Int64 × GM)))} (hR : ∀ (v9 : Int64) (M9 : GM) (lv9 : List (Nat × Value)) (pc9 : Nat), r9 = Sum.inr (Sum.inr (v9, M9)) → decode cX10_digestPane pc9 = .ok (.lreturn, 1) → WG x M9 lv9 pc9 [.long v9]) (hX : ∀ (n9 : Nat) (M9 : GM), r9 = Sum.inr (Sum.inl (n9, M9)) → GThr x n9 M9) (hE : ∀ (x4_9 : Int64) (M9 : GM), r9 = Sum.inl (x4_9, M9) → WG x M9 [(4, .long x4_9)] 117 []) : ∀ (f : Nat) (b34 : Int64) (a36 : Int32) (M : GM), lp_X10_digestPane_70 F a33 a35 f b34 a36 M = some r9 → WG x M [(0, .ref (gad (xz x) 0)), (3, .int a33), (4, .long b34), (6, .int a35), (7, .int a36)] 70 [] := by
  intro f
  induction f with
  | zero => intro b34 a36 M h; cases h
  | succ f ih =>
    intro b34 a36 M h
    have hrec := ih
    have h : st_X10_digestPane_70 F a33 a35 (lp_X10_digestPane_70 F a33 a35 f) b34 a36 M = some r9 := h
    generalize lp_X10_digestPane_70 F a33 a35 f = rec at h hrec
    unfold st_X10_digestPane_70 at h
    refine g_iload X (j := 4) dX10_digestPane_70 rfl ?_
    refine g_iload X (j := 3) dX10_digestPane_72 rfl ?_
    refine g_icmp_ge X (tgt := 117) dX10_digestPane_74 (by decide) (fun hb => ?_) (fun hb => ?_)
    · have h := ite_t hb h
      refine g_lv [2] rfl ?_
      exact hE b34 M (Option.some.inj h).symm
    · have h := ite_f hb h
      refine g_iconst X (v := 0) dX10_digestPane_77 (by decide) ?_
      refine g_topi (fun v37 e38 => ?_)
      have h := bnd_e e38 h
      refine g_istore X (lv' := [(8, .int v37), (0, .ref (gad (xz x) 0)), (3, .int a33), (4, .long b34), (6, .int a35), (7, .int a36)]) dX10_digestPane_78 (by decide) rfl ?_
      refine g_lv [1, 2, 3, 4, 5, 0] rfl ?_
      rcases bndT_e h with ⟨⟨w53, M54⟩, hl55, h⟩ | ⟨r56, hl55, h⟩
      · refine lw_X10_digestPane_80 X  (by intros; rename_i e9 _ ; cases e9) (by intros; rename_i e9; cases e9) (fun w53_ M54_  e9 => ?_) F b34 v37 M hl55
        cases e9
        refine g_iinc X (j := 4) (w := a36 + (1 : Int32)) (lv' := [(0, .ref (gad (xz x) 0)), (3, .int a33), (4, .long w53), (6, .int a35)]) dX10_digestPane_111 rfl (by rw [ii_1]) (by decide) (fun _ => rfl) (fun v57 e58 => ?_)
        have h := bnd_e e58 h
        refine g_goto X (tgt := 70) dX10_digestPane_114 (by decide) ?_
        refine g_lv [1, 2, 3, 4, 0] rfl ?_
        exact hrec w53 v57 M54 h
      · exact lw_X10_digestPane_80 X  (fun v9 M9 lv9 pc9 e9 d9 => by cases e9; exact hR _ _ lv9 pc9 (Option.some.inj h).symm d9) (fun n9 M9 e9 => by cases e9; exact hX _ _ (Option.some.inj h).symm) (by intros; rename_i e9; cases e9) F b34 v37 M hl55
def f_X10_digestPane (F : Nat) (j0 : Int64) (i1 : Int32) (M : GM) : Option ((Nat × GM) ⊕ (Int64 × GM)) := bnd j0 (fun w1 => bndT (f_X10_polygonOf F i1 M) (fun (n6, M7) => some (Sum.inl (n6, M7))) (fun (v4, M5) => bnd v4 (fun v8 => bnd ((w1 * (31 : Int64)) + v8.toInt64) (fun w10 => bndT (f_X10_piecesOf F i1 M5) (fun (n15, M16) => some (Sum.inl (n15, M16))) (fun (v13, M14) => bnd ((w10 * (31 : Int64)) + v13.toInt64) (fun w17 => bndT (f_X10_pointsOf F i1 M14) (fun (n22, M23) => some (Sum.inl (n22, M23))) (fun (v20, M21) => bnd ((w17 * (31 : Int64)) + v20.toInt64) (fun w24 => bndT (f_X10_pointsWith F i1 M21) (fun n28 => some (Sum.inl (n28, M21))) (fun v27 => bnd ((w24 * (31 : Int64)) + v27.toInt64) (fun w29 => bnd (0 : Int32) (fun v31 => bndT (lp_X10_digestPane_70 F i1 v8 F w29 v31 M21) (fun (w59, M60) => some (Sum.inr (w59, M60))) (fun r62 => some r62))))))))))))
set_option maxHeartbeats 4000000 in
set_option maxRecDepth 100000 in
theorem w_X10_digestPane {x : GX} (X : GC x cX10_digestPane 9 RX10 8) {j0 : Int64} {i1 : Int32}  {F : Nat} {M : GM} {r9 : ((Nat × GM) ⊕ (Int64 × GM))} (hR : ∀ (v9 : Int64) (M9 : GM) (lv9 : List (Nat × Value)) (pc9 : Nat), r9 = Sum.inr (v9, M9) → decode cX10_digestPane pc9 = .ok (.lreturn, 1) → WG x M9 lv9 pc9 [.long v9]) (hX : ∀ (n9 : Nat) (M9 : GM), r9 = Sum.inl (n9, M9) → GThr x n9 M9) (h : f_X10_digestPane F j0 i1 M = some r9) : WG x M [(0, .ref (gad (xz x) 0)), (1, .long j0), (3, .int i1)] 0 [] := by
  unfold f_X10_digestPane at h
  refine g_lload_n X (j := 1) dX10_digestPane_0 rfl rfl ?_
  refine g_topl (fun w1 e2 => ?_)
  have h := bnd_e e2 h
  refine g_lstore X (lv' := [(4, .long w1), (0, .ref (gad (xz x) 0)), (1, .long j0), (3, .int i1)]) dX10_digestPane_1 (by decide) rfl ?_
  refine g_aload_n X (j := 1) dX10_digestPane_3 rfl rfl ?_
  refine g_iload_n X (j := 3) dX10_digestPane_4 rfl rfl ?_
  rcases bndT_e h with ⟨⟨n6, M7⟩, hc3, h⟩ | ⟨⟨v4, M5⟩, hc3, h⟩
  · exact gx_X10_376 X gT_c0 (cx_X10_polygonOf X.htr  hc3) (by decide) (Nat.le_of_ble_eq_true rfl) dX10_digestPane_5 (hX n6 M7 (Option.some.inj h).symm)
  refine gc_X10_376 X gT_c0 (ct_X10_polygonOf X.htr  hc3) (by decide) (Nat.le_of_ble_eq_true rfl) dX10_digestPane_5 ?_
  refine g_topi (fun v8 e9 => ?_)
  have h := bnd_e e9 h
  refine g_istore X (lv' := [(6, .int v8), (4, .long w1), (0, .ref (gad (xz x) 0)), (1, .long j0), (3, .int i1)]) dX10_digestPane_8 (by decide) rfl ?_
  refine g_lload X (j := 1) dX10_digestPane_10 rfl ?_
  refine g_ldc2 X q_656 dX10_digestPane_12 ?_
  refine g_lmul X dX10_digestPane_15 ?_
  refine g_iload X (j := 0) dX10_digestPane_16 rfl ?_
  refine g_i2l X dX10_digestPane_18 ?_
  refine g_ladd X dX10_digestPane_19 ?_
  refine g_topl (fun w10 e11 => ?_)
  have h := bnd_e e11 h
  refine g_lstore X (lv' := [(4, .long w10), (6, .int v8), (0, .ref (gad (xz x) 0)), (1, .long j0), (3, .int i1)]) dX10_digestPane_20 (by decide) rfl ?_
  refine g_lload X (j := 0) dX10_digestPane_22 rfl ?_
  refine g_ldc2 X q_656 dX10_digestPane_24 ?_
  refine g_lmul X dX10_digestPane_27 ?_
  refine g_aload_n X (j := 2) dX10_digestPane_28 rfl rfl ?_
  refine g_iload_n X (j := 4) dX10_digestPane_29 rfl rfl ?_
  rcases bndT_e h with ⟨⟨n15, M16⟩, hc12, h⟩ | ⟨⟨v13, M14⟩, hc12, h⟩
  · exact gx_X10_379 X gT_c0 (cx_X10_piecesOf X.htr  hc12) (by decide) (Nat.le_of_ble_eq_true rfl) dX10_digestPane_30 (hX n15 M16 (Option.some.inj h).symm)
  refine gc_X10_379 X gT_c0 (ct_X10_piecesOf X.htr  hc12) (by decide) (Nat.le_of_ble_eq_true rfl) dX10_digestPane_30 ?_
  refine g_i2l X dX10_digestPane_33 ?_
  refine g_ladd X dX10_digestPane_34 ?_
  refine g_topl (fun w17 e18 => ?_)
  have h := bnd_e e18 h
  refine g_lstore X (lv' := [(4, .long w17), (6, .int v8), (0, .ref (gad (xz x) 0)), (1, .long j0), (3, .int i1)]) dX10_digestPane_35 (by decide) rfl ?_
  refine g_lload X (j := 0) dX10_digestPane_37 rfl ?_
  refine g_ldc2 X q_656 dX10_digestPane_39 ?_
  refine g_lmul X dX10_digestPane_42 ?_
  refine g_aload_n X (j := 2) dX10_digestPane_43 rfl rfl ?_
  refine g_iload_n X (j := 4) dX10_digestPane_44 rfl rfl ?_
  rcases bndT_e h with ⟨⟨n22, M23⟩, hc19, h⟩ | ⟨⟨v20, M21⟩, hc19, h⟩
  · exact gx_X10_382 X gT_c0 (cx_X10_pointsOf X.htr  hc19) (by decide) (Nat.le_of_ble_eq_true rfl) dX10_digestPane_45 (hX n22 M23 (Option.some.inj h).symm)
  refine gc_X10_382 X gT_c0 (ct_X10_pointsOf X.htr  hc19) (by decide) (Nat.le_of_ble_eq_true rfl) dX10_digestPane_45 ?_
  refine g_i2l X dX10_digestPane_48 ?_
  refine g_ladd X dX10_digestPane_49 ?_
  refine g_topl (fun w24 e25 => ?_)
  have h := bnd_e e25 h
  refine g_lstore X (lv' := [(4, .long w24), (6, .int v8), (0, .ref (gad (xz x) 0)), (1, .long j0), (3, .int i1)]) dX10_digestPane_50 (by decide) rfl ?_
  refine g_lload X (j := 0) dX10_digestPane_52 rfl ?_
  refine g_ldc2 X q_656 dX10_digestPane_54 ?_
  refine g_lmul X dX10_digestPane_57 ?_
  refine g_aload_n X (j := 2) dX10_digestPane_58 rfl rfl ?_
  refine g_iload_n X (j := 4) dX10_digestPane_59 rfl rfl ?_
  rcases bndT_e h with ⟨n28, hc26, h⟩ | ⟨v27, hc26, h⟩
  · exact gx_X10_385 X gT_c0 (cx_X10_pointsWith X.htr  hc26) (by decide) (Nat.le_of_ble_eq_true rfl) dX10_digestPane_60 (hX n28 M21 (Option.some.inj h).symm)
  refine gc_X10_385 X gT_c0 (ct_X10_pointsWith X.htr  hc26) (by decide) (Nat.le_of_ble_eq_true rfl) dX10_digestPane_60 ?_
  refine g_i2l X dX10_digestPane_63 ?_
  refine g_ladd X dX10_digestPane_64 ?_
  refine g_topl (fun w29 e30 => ?_)
  have h := bnd_e e30 h
  refine g_lstore X (lv' := [(4, .long w29), (6, .int v8), (0, .ref (gad (xz x) 0)), (1, .long j0), (3, .int i1)]) dX10_digestPane_65 (by decide) rfl ?_
  refine g_iconst X (v := 0) dX10_digestPane_67 (by decide) ?_
  refine g_topi (fun v31 e32 => ?_)
  have h := bnd_e e32 h
  refine g_istore X (lv' := [(7, .int v31), (4, .long w29), (6, .int v8), (0, .ref (gad (xz x) 0)), (1, .long j0), (3, .int i1)]) dX10_digestPane_68 (by decide) rfl ?_
  refine g_lv [3, 5, 1, 2, 0] rfl ?_
  rcases bndT_e h with ⟨⟨w59, M60⟩, hl61, h⟩ | ⟨r62, hl61, h⟩
  · refine lw_X10_digestPane_70 X  (by intros; rename_i e9 _ ; cases e9) (by intros; rename_i e9; cases e9) (fun w59_ M60_  e9 => ?_) F w29 v31 M21 hl61
    cases e9
    refine g_lload X (j := 0) dX10_digestPane_117 rfl ?_
    exact hR w59 M60 _ _ (Option.some.inj h).symm dX10_digestPane_119
  · exact lw_X10_digestPane_70 X  (fun v9 M9 lv9 pc9 e9 d9 => by cases e9; exact hR _ _ lv9 pc9 (Option.some.inj h).symm d9) (fun n9 M9 e9 => by cases e9; exact hX _ _ (Option.some.inj h).symm) (by intros; rename_i e9; cases e9) F w29 v31 M21 hl61
theorem ct_X10_digestPane {l : Launch} {z : GZ} (htr : l.stackTraces = false) {j0 : Int64} {i1 : Int32}  {M : GM} {F : Nat} {v : Int64} {M1 : GM} (h : f_X10_digestPane F j0 i1 M = some (Sum.inr (v, M1))) : gMet l z yX10_digestPane cX10_digestPane 9 (some .long) 8 [.ref (gad z 0), .long j0, .int i1] M (some (.long v)) M1 := gMet_ofL (by decide +kernel) (Nat.le_of_ble_eq_true rfl) htr (fun x X ez el hR => by subst ez; subst el; exact w_X10_digestPane X  (fun v9 M9 lv9 pc9 e9 d9 => by cases e9; exact hR lv9 pc9 d9) (by intros; rename_i e9; cases e9) h)
theorem cx_X10_digestPane {l : Launch} {z : GZ} (htr : l.stackTraces = false) {j0 : Int64} {i1 : Int32}  {M : GM} {F n : Nat} {M1 : GM} (h : f_X10_digestPane F j0 i1 M = some (Sum.inl (n, M1))) : gMetX l z yX10_digestPane cX10_digestPane 9 (some .long) 8 [.ref (gad z 0), .long j0, .int i1] M n M1 := gMetX_of (by decide +kernel) (Nat.le_of_ble_eq_true rfl) htr (fun x X ez el hT => by subst ez; subst el; exact w_X10_digestPane X  (by intros; rename_i e9 _; cases e9) (fun n9 M9 e9 => by cases e9; exact hT) h)
theorem gc_X10_353 {x : GX} {cc : ByteArray} {nL d pc : Nat} {M : GM} {lv : List (Nat × Value)} {st : List Value} (X : GC x cc nL RX10 d)  {M1 : GM} {r : Int32} (ht : gT 0 = 10) (hM : gMet (xl x) (xz x) yX10_corners cX10_corners 1 (some .int) 0 [.ref (gad (xz x) 0)] M (some (.int r)) M1) (hd : 1 ≤ d) (hsum : (st.map fun v => v.category).sum ≤ 8) (dec : decode cc pc = .ok (.invokevirtual 353, 3)) (go : WG x M1 lv (pc + 3) (.int r :: st)) : WG x M lv pc (.ref (gad (xz x) 0) :: st) := g_callV X (n := 0) (As := []) (rest := st) hM ht (by decide) (gE_10 ht) rfl q_657 q_428 q_429 q_52 q_430 (by decide +kernel) rfl hd (by decide) rfl hsum dec go
theorem gc_X10_356 {x : GX} {cc : ByteArray} {nL d pc : Nat} {M : GM} {lv : List (Nat × Value)} {st : List Value} (X : GC x cc nL RX10 d)  {M1 : GM} {r : Int32} (ht : gT 0 = 10) (hM : gMet (xl x) (xz x) yX10_panes cX10_panes 1 (some .int) 0 [.ref (gad (xz x) 0)] M (some (.int r)) M1) (hd : 1 ≤ d) (hsum : (st.map fun v => v.category).sum ≤ 8) (dec : decode cc pc = .ok (.invokevirtual 356, 3)) (go : WG x M1 lv (pc + 3) (.int r :: st)) : WG x M lv pc (.ref (gad (xz x) 0) :: st) := g_callV X (n := 0) (As := []) (rest := st) hM ht (by decide) (gE_10 ht) rfl q_658 q_432 q_433 q_52 q_434 (by decide +kernel) rfl hd (by decide) rfl hsum dec go
theorem gc_X10_358 {x : GX} {cc : ByteArray} {nL d pc : Nat} {M : GM} {lv : List (Nat × Value)} {st : List Value} (X : GC x cc nL RX10 d) {i0 : Int32} {i1 : Int32} {M1 : GM} {r : Int32} (ht : gT 0 = 10) (hM : gMet (xl x) (xz x) yX10_seen cX10_seen 3 (some .int) 7 [.ref (gad (xz x) 0), .int i0, .int i1] M (some (.int r)) M1) (hd : 8 ≤ d) (hsum : (st.map fun v => v.category).sum ≤ 8) (dec : decode cc pc = .ok (.invokevirtual 358, 3)) (go : WG x M1 lv (pc + 3) (.int r :: st)) : WG x M lv pc (.int i1 :: .int i0 :: .ref (gad (xz x) 0) :: st) := g_callV X (n := 2) (As := [.int i0, .int i1]) (rest := st) hM ht (by decide) (gE_10 ht) rfl q_659 q_660 q_661 q_52 q_662 (by decide +kernel) rfl hd (by decide) rfl hsum dec go
theorem gx_X10_358 {x : GX} {cc : ByteArray} {nL d pc : Nat} {M : GM} {lv : List (Nat × Value)} {st : List Value} (X : GC x cc nL RX10 d) {i0 : Int32} {i1 : Int32} {M1 : GM} {n9 : Nat} (ht : gT 0 = 10) (hM : gMetX (xl x) (xz x) yX10_seen cX10_seen 3 (some .int) 7 [.ref (gad (xz x) 0), .int i0, .int i1] M n9 M1) (hd : 8 ≤ d) (hsum : (st.map fun v => v.category).sum ≤ 8) (dec : decode cc pc = .ok (.invokevirtual 358, 3)) (hT : GThr x n9 M1) : WG x M lv pc (.int i1 :: .int i0 :: .ref (gad (xz x) 0) :: st) := g_xV X (n := 2) (As := [.int i0, .int i1]) (rest := st) hM ht (by decide) (gE_10 ht) rfl q_659 q_660 q_661 q_52 q_662 (by decide +kernel) rfl hd (by decide) rfl hsum dec hT
theorem gc_X10_361 {x : GX} {cc : ByteArray} {nL d pc : Nat} {M : GM} {lv : List (Nat × Value)} {st : List Value} (X : GC x cc nL RX10 d) {i0 : Int64} {i1 : Int32} {M1 : GM} {r : Int64} (ht : gT 0 = 10) (hM : gMet (xl x) (xz x) yX10_digestPane cX10_digestPane 9 (some .long) 8 [.ref (gad (xz x) 0), .long i0, .int i1] M (some (.long r)) M1) (hd : 9 ≤ d) (hsum : (st.map fun v => v.category).sum ≤ 8) (dec : decode cc pc = .ok (.invokevirtual 361, 3)) (go : WG x M1 lv (pc + 3) (.long r :: st)) : WG x M lv pc (.int i1 :: .long i0 :: .ref (gad (xz x) 0) :: st) := g_callV X (n := 2) (As := [.long i0, .int i1]) (rest := st) hM ht (by decide) (gE_10 ht) rfl q_740 q_742 q_11 q_52 q_743 (by decide +kernel) rfl hd (by decide) rfl hsum dec go
theorem gx_X10_361 {x : GX} {cc : ByteArray} {nL d pc : Nat} {M : GM} {lv : List (Nat × Value)} {st : List Value} (X : GC x cc nL RX10 d) {i0 : Int64} {i1 : Int32} {M1 : GM} {n9 : Nat} (ht : gT 0 = 10) (hM : gMetX (xl x) (xz x) yX10_digestPane cX10_digestPane 9 (some .long) 8 [.ref (gad (xz x) 0), .long i0, .int i1] M n9 M1) (hd : 9 ≤ d) (hsum : (st.map fun v => v.category).sum ≤ 8) (dec : decode cc pc = .ok (.invokevirtual 361, 3)) (hT : GThr x n9 M1) : WG x M lv pc (.int i1 :: .long i0 :: .ref (gad (xz x) 0) :: st) := g_xV X (n := 2) (As := [.long i0, .int i1]) (rest := st) hM ht (by decide) (gE_10 ht) rfl q_740 q_742 q_11 q_52 q_743 (by decide +kernel) rfl hd (by decide) rfl hsum dec hT
theorem gc_X10_365 {x : GX} {cc : ByteArray} {nL d pc : Nat} {M : GM} {lv : List (Nat × Value)} {st : List Value} (X : GC x cc nL RX10 d)  {M1 : GM} {r : Int32} (ht : gT 0 = 10) (hM : gMet (xl x) (xz x) yX10_colours cX10_colours 5 (some .int) 2 [.ref (gad (xz x) 0)] M (some (.int r)) M1) (hd : 3 ≤ d) (hsum : (st.map fun v => v.category).sum ≤ 8) (dec : decode cc pc = .ok (.invokevirtual 365, 3)) (go : WG x M1 lv (pc + 3) (.int r :: st)) : WG x M lv pc (.ref (gad (xz x) 0) :: st) := g_callV X (n := 0) (As := []) (rest := st) hM ht (by decide) (gE_10 ht) rfl q_788 q_626 q_627 q_52 q_628 (by decide +kernel) rfl hd (by decide) rfl hsum dec go
theorem gc_X10_367 {x : GX} {cc : ByteArray} {nL d pc : Nat} {M : GM} {lv : List (Nat × Value)} {st : List Value} (X : GC x cc nL RX10 d) {i0 : Int32} {i1 : Int32} {M1 : GM} {r : Int32} (ht : gT 0 = 10) (hM : gMet (xl x) (xz x) yX10_colourAt cX10_colourAt 3 (some .int) 7 [.ref (gad (xz x) 0), .int i0, .int i1] M (some (.int r)) M1) (hd : 8 ≤ d) (hsum : (st.map fun v => v.category).sum ≤ 8) (dec : decode cc pc = .ok (.invokevirtual 367, 3)) (go : WG x M1 lv (pc + 3) (.int r :: st)) : WG x M lv pc (.int i1 :: .int i0 :: .ref (gad (xz x) 0) :: st) := g_callV X (n := 2) (As := [.int i0, .int i1]) (rest := st) hM ht (by decide) (gE_10 ht) rfl q_789 q_790 q_791 q_52 q_792 (by decide +kernel) rfl hd (by decide) rfl hsum dec go
theorem gx_X10_367 {x : GX} {cc : ByteArray} {nL d pc : Nat} {M : GM} {lv : List (Nat × Value)} {st : List Value} (X : GC x cc nL RX10 d) {i0 : Int32} {i1 : Int32} {M1 : GM} {n9 : Nat} (ht : gT 0 = 10) (hM : gMetX (xl x) (xz x) yX10_colourAt cX10_colourAt 3 (some .int) 7 [.ref (gad (xz x) 0), .int i0, .int i1] M n9 M1) (hd : 8 ≤ d) (hsum : (st.map fun v => v.category).sum ≤ 8) (dec : decode cc pc = .ok (.invokevirtual 367, 3)) (hT : GThr x n9 M1) : WG x M lv pc (.int i1 :: .int i0 :: .ref (gad (xz x) 0) :: st) := g_xV X (n := 2) (As := [.int i0, .int i1]) (rest := st) hM ht (by decide) (gE_10 ht) rfl q_789 q_790 q_791 q_52 q_792 (by decide +kernel) rfl hd (by decide) rfl hsum dec hT
theorem gc_X10_370 {x : GX} {cc : ByteArray} {nL d pc : Nat} {M : GM} {lv : List (Nat × Value)} {st : List Value} (X : GC x cc nL RX10 d) {i0 : Int32} {i1 : Int32} {M1 : GM} {r : Int32} (ht : gT 0 = 10) (hM : gMet (xl x) (xz x) yX10_depthAt cX10_depthAt 3 (some .int) 7 [.ref (gad (xz x) 0), .int i0, .int i1] M (some (.int r)) M1) (hd : 8 ≤ d) (hsum : (st.map fun v => v.category).sum ≤ 8) (dec : decode cc pc = .ok (.invokevirtual 370, 3)) (go : WG x M1 lv (pc + 3) (.int r :: st)) : WG x M lv pc (.int i1 :: .int i0 :: .ref (gad (xz x) 0) :: st) := g_callV X (n := 2) (As := [.int i0, .int i1]) (rest := st) hM ht (by decide) (gE_10 ht) rfl q_798 q_799 q_800 q_52 q_801 (by decide +kernel) rfl hd (by decide) rfl hsum dec go
theorem gx_X10_370 {x : GX} {cc : ByteArray} {nL d pc : Nat} {M : GM} {lv : List (Nat × Value)} {st : List Value} (X : GC x cc nL RX10 d) {i0 : Int32} {i1 : Int32} {M1 : GM} {n9 : Nat} (ht : gT 0 = 10) (hM : gMetX (xl x) (xz x) yX10_depthAt cX10_depthAt 3 (some .int) 7 [.ref (gad (xz x) 0), .int i0, .int i1] M n9 M1) (hd : 8 ≤ d) (hsum : (st.map fun v => v.category).sum ≤ 8) (dec : decode cc pc = .ok (.invokevirtual 370, 3)) (hT : GThr x n9 M1) : WG x M lv pc (.int i1 :: .int i0 :: .ref (gad (xz x) 0) :: st) := g_xV X (n := 2) (As := [.int i0, .int i1]) (rest := st) hM ht (by decide) (gE_10 ht) rfl q_798 q_799 q_800 q_52 q_801 (by decide +kernel) rfl hd (by decide) rfl hsum dec hT
theorem gc_X10_373 {x : GX} {cc : ByteArray} {nL d pc : Nat} {M : GM} {lv : List (Nat × Value)} {st : List Value} (X : GC x cc nL RX10 d) {i0 : Int32} {i1 : Int32} {M1 : GM} {r : Int32} (ht : gT 0 = 10) (hM : gMet (xl x) (xz x) yX10_paneAt cX10_paneAt 3 (some .int) 7 [.ref (gad (xz x) 0), .int i0, .int i1] M (some (.int r)) M1) (hd : 8 ≤ d) (hsum : (st.map fun v => v.category).sum ≤ 8) (dec : decode cc pc = .ok (.invokevirtual 373, 3)) (go : WG x M1 lv (pc + 3) (.int r :: st)) : WG x M lv pc (.int i1 :: .int i0 :: .ref (gad (xz x) 0) :: st) := g_callV X (n := 2) (As := [.int i0, .int i1]) (rest := st) hM ht (by decide) (gE_10 ht) rfl q_802 q_803 q_804 q_52 q_805 (by decide +kernel) rfl hd (by decide) rfl hsum dec go
theorem gx_X10_373 {x : GX} {cc : ByteArray} {nL d pc : Nat} {M : GM} {lv : List (Nat × Value)} {st : List Value} (X : GC x cc nL RX10 d) {i0 : Int32} {i1 : Int32} {M1 : GM} {n9 : Nat} (ht : gT 0 = 10) (hM : gMetX (xl x) (xz x) yX10_paneAt cX10_paneAt 3 (some .int) 7 [.ref (gad (xz x) 0), .int i0, .int i1] M n9 M1) (hd : 8 ≤ d) (hsum : (st.map fun v => v.category).sum ≤ 8) (dec : decode cc pc = .ok (.invokevirtual 373, 3)) (hT : GThr x n9 M1) : WG x M lv pc (.int i1 :: .int i0 :: .ref (gad (xz x) 0) :: st) := g_xV X (n := 2) (As := [.int i0, .int i1]) (rest := st) hM ht (by decide) (gE_10 ht) rfl q_802 q_803 q_804 q_52 q_805 (by decide +kernel) rfl hd (by decide) rfl hsum dec hT
theorem dX10_digest_0 : decode cX10_digest 0 = .ok (.ldc2_w 349, 3) := by decide +kernel
theorem dX10_digest_3 : decode cX10_digest 3 = .ok (.lstore_n 1, 1) := by decide +kernel
theorem dX10_digest_4 : decode cX10_digest 4 = .ok (.lload_n 1, 1) := by decide +kernel
theorem dX10_digest_5 : decode cX10_digest 5 = .ok (.ldc2_w 351, 3) := by decide +kernel
theorem dX10_digest_8 : decode cX10_digest 8 = .ok (.lmul, 1) := by decide +kernel
theorem dX10_digest_9 : decode cX10_digest 9 = .ok (.aload_n 0, 1) := by decide +kernel
theorem dX10_digest_10 : decode cX10_digest 10 = .ok (.invokevirtual 353, 3) := by decide +kernel
theorem dX10_digest_13 : decode cX10_digest 13 = .ok (.i2l, 1) := by decide +kernel
theorem dX10_digest_14 : decode cX10_digest 14 = .ok (.ladd, 1) := by decide +kernel
theorem dX10_digest_15 : decode cX10_digest 15 = .ok (.lstore_n 1, 1) := by decide +kernel
theorem dX10_digest_16 : decode cX10_digest 16 = .ok (.lload_n 1, 1) := by decide +kernel
theorem dX10_digest_17 : decode cX10_digest 17 = .ok (.ldc2_w 351, 3) := by decide +kernel
theorem dX10_digest_20 : decode cX10_digest 20 = .ok (.lmul, 1) := by decide +kernel
theorem dX10_digest_21 : decode cX10_digest 21 = .ok (.aload_n 0, 1) := by decide +kernel
theorem dX10_digest_22 : decode cX10_digest 22 = .ok (.invokevirtual 356, 3) := by decide +kernel
theorem dX10_digest_25 : decode cX10_digest 25 = .ok (.i2l, 1) := by decide +kernel
theorem dX10_digest_26 : decode cX10_digest 26 = .ok (.ladd, 1) := by decide +kernel
theorem dX10_digest_27 : decode cX10_digest 27 = .ok (.lstore_n 1, 1) := by decide +kernel
theorem dX10_digest_28 : decode cX10_digest 28 = .ok (.aload_n 0, 1) := by decide +kernel
theorem dX10_digest_29 : decode cX10_digest 29 = .ok (.aload_n 0, 1) := by decide +kernel
theorem dX10_digest_30 : decode cX10_digest 30 = .ok (.getfield 48, 3) := by decide +kernel
theorem dX10_digest_33 : decode cX10_digest 33 = .ok (.aload_n 0, 1) := by decide +kernel
theorem dX10_digest_34 : decode cX10_digest 34 = .ok (.getfield 68, 3) := by decide +kernel
theorem dX10_digest_37 : decode cX10_digest 37 = .ok (.iconst (-1), 1) := by decide +kernel
theorem dX10_digest_38 : decode cX10_digest 38 = .ok (.invokevirtual 286, 3) := by decide +kernel
theorem dX10_digest_41 : decode cX10_digest 41 = .ok (.lload_n 1, 1) := by decide +kernel
theorem dX10_digest_42 : decode cX10_digest 42 = .ok (.ldc2_w 351, 3) := by decide +kernel
theorem dX10_digest_45 : decode cX10_digest 45 = .ok (.lmul, 1) := by decide +kernel
theorem dX10_digest_46 : decode cX10_digest 46 = .ok (.aload_n 0, 1) := by decide +kernel
theorem dX10_digest_47 : decode cX10_digest 47 = .ok (.invokevirtual 290, 3) := by decide +kernel
theorem dX10_digest_50 : decode cX10_digest 50 = .ok (.i2l, 1) := by decide +kernel
theorem dX10_digest_51 : decode cX10_digest 51 = .ok (.ladd, 1) := by decide +kernel
theorem dX10_digest_52 : decode cX10_digest 52 = .ok (.lstore_n 1, 1) := by decide +kernel
theorem dX10_digest_53 : decode cX10_digest 53 = .ok (.iconst 0, 1) := by decide +kernel
theorem dX10_digest_54 : decode cX10_digest 54 = .ok (.istore_n 3, 1) := by decide +kernel
theorem dX10_digest_55 : decode cX10_digest 55 = .ok (.iload_n 3, 1) := by decide +kernel
theorem dX10_digest_56 : decode cX10_digest 56 = .ok (.aload_n 0, 1) := by decide +kernel
theorem dX10_digest_57 : decode cX10_digest 57 = .ok (.getfield 97, 3) := by decide +kernel
theorem dX10_digest_60 : decode cX10_digest 60 = .ok (.if_icmp .ge 39, 3) := by decide +kernel
theorem dX10_digest_63 : decode cX10_digest 63 = .ok (.iconst 0, 1) := by decide +kernel
theorem dX10_digest_64 : decode cX10_digest 64 = .ok (.istore 4, 2) := by decide +kernel
theorem dX10_digest_66 : decode cX10_digest 66 = .ok (.iload 4, 2) := by decide +kernel
theorem dX10_digest_68 : decode cX10_digest 68 = .ok (.iconst 3, 1) := by decide +kernel
theorem dX10_digest_69 : decode cX10_digest 69 = .ok (.if_icmp .ge 24, 3) := by decide +kernel
theorem dX10_digest_72 : decode cX10_digest 72 = .ok (.lload_n 1, 1) := by decide +kernel
theorem dX10_digest_73 : decode cX10_digest 73 = .ok (.ldc2_w 351, 3) := by decide +kernel
theorem dX10_digest_76 : decode cX10_digest 76 = .ok (.lmul, 1) := by decide +kernel
theorem dX10_digest_77 : decode cX10_digest 77 = .ok (.aload_n 0, 1) := by decide +kernel
theorem dX10_digest_78 : decode cX10_digest 78 = .ok (.iload_n 3, 1) := by decide +kernel
theorem dX10_digest_79 : decode cX10_digest 79 = .ok (.iload 4, 2) := by decide +kernel
theorem dX10_digest_81 : decode cX10_digest 81 = .ok (.invokevirtual 358, 3) := by decide +kernel
theorem dX10_digest_84 : decode cX10_digest 84 = .ok (.i2l, 1) := by decide +kernel
theorem dX10_digest_85 : decode cX10_digest 85 = .ok (.ladd, 1) := by decide +kernel
theorem dX10_digest_86 : decode cX10_digest 86 = .ok (.lstore_n 1, 1) := by decide +kernel
theorem dX10_digest_87 : decode cX10_digest 87 = .ok (.iinc 4 1, 3) := by decide +kernel
theorem dX10_digest_90 : decode cX10_digest 90 = .ok (.goto (-24), 3) := by decide +kernel
theorem dX10_digest_93 : decode cX10_digest 93 = .ok (.iinc 3 1, 3) := by decide +kernel
theorem dX10_digest_96 : decode cX10_digest 96 = .ok (.goto (-41), 3) := by decide +kernel
theorem dX10_digest_99 : decode cX10_digest 99 = .ok (.iconst 0, 1) := by decide +kernel
theorem dX10_digest_100 : decode cX10_digest 100 = .ok (.istore_n 3, 1) := by decide +kernel
theorem dX10_digest_101 : decode cX10_digest 101 = .ok (.iload_n 3, 1) := by decide +kernel
theorem dX10_digest_102 : decode cX10_digest 102 = .ok (.aload_n 0, 1) := by decide +kernel
theorem dX10_digest_103 : decode cX10_digest 103 = .ok (.getfield 121, 3) := by decide +kernel
theorem dX10_digest_106 : decode cX10_digest 106 = .ok (.if_icmp .ge 16, 3) := by decide +kernel
theorem dX10_digest_109 : decode cX10_digest 109 = .ok (.aload_n 0, 1) := by decide +kernel
theorem dX10_digest_110 : decode cX10_digest 110 = .ok (.lload_n 1, 1) := by decide +kernel
theorem dX10_digest_111 : decode cX10_digest 111 = .ok (.iload_n 3, 1) := by decide +kernel
theorem dX10_digest_112 : decode cX10_digest 112 = .ok (.invokevirtual 361, 3) := by decide +kernel
theorem dX10_digest_115 : decode cX10_digest 115 = .ok (.lstore_n 1, 1) := by decide +kernel
theorem dX10_digest_116 : decode cX10_digest 116 = .ok (.iinc 3 1, 3) := by decide +kernel
theorem dX10_digest_119 : decode cX10_digest 119 = .ok (.goto (-18), 3) := by decide +kernel
theorem dX10_digest_122 : decode cX10_digest 122 = .ok (.lload_n 1, 1) := by decide +kernel
theorem dX10_digest_123 : decode cX10_digest 123 = .ok (.ldc2_w 351, 3) := by decide +kernel
theorem dX10_digest_126 : decode cX10_digest 126 = .ok (.lmul, 1) := by decide +kernel
theorem dX10_digest_127 : decode cX10_digest 127 = .ok (.aload_n 0, 1) := by decide +kernel
theorem dX10_digest_128 : decode cX10_digest 128 = .ok (.invokevirtual 365, 3) := by decide +kernel
theorem dX10_digest_131 : decode cX10_digest 131 = .ok (.i2l, 1) := by decide +kernel
theorem dX10_digest_132 : decode cX10_digest 132 = .ok (.ladd, 1) := by decide +kernel
theorem dX10_digest_133 : decode cX10_digest 133 = .ok (.lstore_n 1, 1) := by decide +kernel
theorem dX10_digest_134 : decode cX10_digest 134 = .ok (.iconst 0, 1) := by decide +kernel
theorem dX10_digest_135 : decode cX10_digest 135 = .ok (.istore_n 3, 1) := by decide +kernel
theorem dX10_digest_136 : decode cX10_digest 136 = .ok (.iload_n 3, 1) := by decide +kernel
theorem dX10_digest_137 : decode cX10_digest 137 = .ok (.bipush 24, 2) := by decide +kernel
theorem dX10_digest_139 : decode cX10_digest 139 = .ok (.if_icmp .ge 70, 3) := by decide +kernel
theorem dX10_digest_142 : decode cX10_digest 142 = .ok (.iconst 0, 1) := by decide +kernel
theorem dX10_digest_143 : decode cX10_digest 143 = .ok (.istore 4, 2) := by decide +kernel
theorem dX10_digest_145 : decode cX10_digest 145 = .ok (.iload 4, 2) := by decide +kernel
theorem dX10_digest_147 : decode cX10_digest 147 = .ok (.bipush 40, 2) := by decide +kernel
theorem dX10_digest_149 : decode cX10_digest 149 = .ok (.if_icmp .ge 54, 3) := by decide +kernel
theorem dX10_digest_152 : decode cX10_digest 152 = .ok (.lload_n 1, 1) := by decide +kernel
theorem dX10_digest_153 : decode cX10_digest 153 = .ok (.ldc2_w 351, 3) := by decide +kernel
theorem dX10_digest_156 : decode cX10_digest 156 = .ok (.lmul, 1) := by decide +kernel
theorem dX10_digest_157 : decode cX10_digest 157 = .ok (.aload_n 0, 1) := by decide +kernel
theorem dX10_digest_158 : decode cX10_digest 158 = .ok (.iload 4, 2) := by decide +kernel
theorem dX10_digest_160 : decode cX10_digest 160 = .ok (.iload_n 3, 1) := by decide +kernel
theorem dX10_digest_161 : decode cX10_digest 161 = .ok (.invokevirtual 367, 3) := by decide +kernel
theorem dX10_digest_164 : decode cX10_digest 164 = .ok (.i2l, 1) := by decide +kernel
theorem dX10_digest_165 : decode cX10_digest 165 = .ok (.ladd, 1) := by decide +kernel
theorem dX10_digest_166 : decode cX10_digest 166 = .ok (.lstore_n 1, 1) := by decide +kernel
theorem dX10_digest_167 : decode cX10_digest 167 = .ok (.lload_n 1, 1) := by decide +kernel
theorem dX10_digest_168 : decode cX10_digest 168 = .ok (.ldc2_w 351, 3) := by decide +kernel
theorem dX10_digest_171 : decode cX10_digest 171 = .ok (.lmul, 1) := by decide +kernel
theorem dX10_digest_172 : decode cX10_digest 172 = .ok (.aload_n 0, 1) := by decide +kernel
theorem dX10_digest_173 : decode cX10_digest 173 = .ok (.iload 4, 2) := by decide +kernel
theorem dX10_digest_175 : decode cX10_digest 175 = .ok (.iload_n 3, 1) := by decide +kernel
theorem dX10_digest_176 : decode cX10_digest 176 = .ok (.invokevirtual 370, 3) := by decide +kernel
theorem dX10_digest_179 : decode cX10_digest 179 = .ok (.i2l, 1) := by decide +kernel
theorem dX10_digest_180 : decode cX10_digest 180 = .ok (.ladd, 1) := by decide +kernel
theorem dX10_digest_181 : decode cX10_digest 181 = .ok (.lstore_n 1, 1) := by decide +kernel
theorem dX10_digest_182 : decode cX10_digest 182 = .ok (.lload_n 1, 1) := by decide +kernel
theorem dX10_digest_183 : decode cX10_digest 183 = .ok (.ldc2_w 351, 3) := by decide +kernel
theorem dX10_digest_186 : decode cX10_digest 186 = .ok (.lmul, 1) := by decide +kernel
theorem dX10_digest_187 : decode cX10_digest 187 = .ok (.aload_n 0, 1) := by decide +kernel
theorem dX10_digest_188 : decode cX10_digest 188 = .ok (.iload 4, 2) := by decide +kernel
theorem dX10_digest_190 : decode cX10_digest 190 = .ok (.iload_n 3, 1) := by decide +kernel
theorem dX10_digest_191 : decode cX10_digest 191 = .ok (.invokevirtual 373, 3) := by decide +kernel
theorem dX10_digest_194 : decode cX10_digest 194 = .ok (.i2l, 1) := by decide +kernel
theorem dX10_digest_195 : decode cX10_digest 195 = .ok (.ladd, 1) := by decide +kernel
theorem dX10_digest_196 : decode cX10_digest 196 = .ok (.lstore_n 1, 1) := by decide +kernel
theorem dX10_digest_197 : decode cX10_digest 197 = .ok (.iinc 4 1, 3) := by decide +kernel
theorem dX10_digest_200 : decode cX10_digest 200 = .ok (.goto (-55), 3) := by decide +kernel
theorem dX10_digest_203 : decode cX10_digest 203 = .ok (.iinc 3 1, 3) := by decide +kernel
theorem dX10_digest_206 : decode cX10_digest 206 = .ok (.goto (-70), 3) := by decide +kernel
theorem dX10_digest_209 : decode cX10_digest 209 = .ok (.lload_n 1, 1) := by decide +kernel
theorem dX10_digest_210 : decode cX10_digest 210 = .ok (.lreturn, 1) := by decide +kernel
def st_X10_digest_66 (F : Nat) (a21 : Int32) (rec : Int64 → Int32 → GM → Option ((Int64 × GM) ⊕ ((Nat × GM) ⊕ (Int64 × GM)))) (b20 : Int64) (a22 : Int32) (M : GM) : Option ((Int64 × GM) ⊕ ((Nat × GM) ⊕ (Int64 × GM))) := if (3 : Int32) ≤ a22 then (some (Sum.inl (b20, M))) else (bndT (f_X10_seen F a21 a22 M) (fun n25 => some (Sum.inr (Sum.inl (n25, M)))) (fun v24 => bnd ((b20 * (31 : Int64)) + v24.toInt64) (fun w26 => bnd (a22 + (1 : Int32)) (fun v28 => rec w26 v28 M))))
def lp_X10_digest_66 (F : Nat) (a21 : Int32) : Nat → Int64 → Int32 → GM → Option ((Int64 × GM) ⊕ ((Nat × GM) ⊕ (Int64 × GM)))
  | 0 => fun _ _ _ => none
  | f + 1 => fun b20 a22 M => st_X10_digest_66 F a21 (lp_X10_digest_66 F a21 f) b20 a22 M
set_option maxHeartbeats 4000000 in
set_option maxRecDepth 100000 in
theorem lw_X10_digest_66 {x : GX} (X : GC x cX10_digest 5 RX10 9) {a21 : Int32}  {F : Nat} {r9 : ((Int64 × GM) ⊕ ((Nat × GM) ⊕ (Int64 × GM)))} (hR : ∀ (v9 : Int64) (M9 : GM) (lv9 : List (Nat × Value)) (pc9 : Nat), r9 = Sum.inr (Sum.inr (v9, M9)) → decode cX10_digest pc9 = .ok (.lreturn, 1) → WG x M9 lv9 pc9 [.long v9]) (hX : ∀ (n9 : Nat) (M9 : GM), r9 = Sum.inr (Sum.inl (n9, M9)) → GThr x n9 M9) (hE : ∀ (x1_9 : Int64) (M9 : GM), r9 = Sum.inl (x1_9, M9) → WG x M9 [(0, .ref (gad (xz x) 0)), (1, .long x1_9), (3, .int a21)] 93 []) : ∀ (f : Nat) (b20 : Int64) (a22 : Int32) (M : GM), lp_X10_digest_66 F a21 f b20 a22 M = some r9 → WG x M [(0, .ref (gad (xz x) 0)), (1, .long b20), (3, .int a21), (4, .int a22)] 66 [] := by
  intro f
  induction f with
  | zero => intro b20 a22 M h; cases h
  | succ f ih =>
    intro b20 a22 M h
    have hrec := ih
    have h : st_X10_digest_66 F a21 (lp_X10_digest_66 F a21 f) b20 a22 M = some r9 := h
    generalize lp_X10_digest_66 F a21 f = rec at h hrec
    unfold st_X10_digest_66 at h
    refine g_iload X (j := 3) dX10_digest_66 rfl ?_
    refine g_iconst X (v := 3) dX10_digest_68 (by decide) ?_
    refine g_icmp_ge X (tgt := 93) dX10_digest_69 (by decide) (fun hb => ?_) (fun hb => ?_)
    · have h := ite_t hb h
      refine g_lv [0, 1, 2] rfl ?_
      exact hE b20 M (Option.some.inj h).symm
    · have h := ite_f hb h
      refine g_lload_n X (j := 1) dX10_digest_72 rfl rfl ?_
      refine g_ldc2 X q_656 dX10_digest_73 ?_
      refine g_lmul X dX10_digest_76 ?_
      refine g_aload_n X (j := 0) dX10_digest_77 rfl rfl ?_
      refine g_iload_n X (j := 2) dX10_digest_78 rfl rfl ?_
      refine g_iload X (j := 3) dX10_digest_79 rfl ?_
      rcases bndT_e h with ⟨n25, hc23, h⟩ | ⟨v24, hc23, h⟩
      · exact gx_X10_358 X gT_c0 (cx_X10_seen X.htr  hc23) (by decide) (Nat.le_of_ble_eq_true rfl) dX10_digest_81 (hX n25 M (Option.some.inj h).symm)
      refine gc_X10_358 X gT_c0 (ct_X10_seen X.htr  hc23) (by decide) (Nat.le_of_ble_eq_true rfl) dX10_digest_81 ?_
      refine g_i2l X dX10_digest_84 ?_
      refine g_ladd X dX10_digest_85 ?_
      refine g_topl (fun w26 e27 => ?_)
      have h := bnd_e e27 h
      refine g_lstore_n X (lv' := [(1, .long w26), (0, .ref (gad (xz x) 0)), (3, .int a21), (4, .int a22)]) dX10_digest_86 rfl (by decide) rfl ?_
      refine g_iinc X (j := 3) (w := a22 + (1 : Int32)) (lv' := [(1, .long w26), (0, .ref (gad (xz x) 0)), (3, .int a21)]) dX10_digest_87 rfl (by rw [ii_1]) (by decide) (fun _ => rfl) (fun v28 e29 => ?_)
      have h := bnd_e e29 h
      refine g_goto X (tgt := 66) dX10_digest_90 (by decide) ?_
      refine g_lv [2, 1, 3, 0] rfl ?_
      exact hrec w26 v28 M h
def st_X10_digest_55 (F : Nat)  (rec : Int64 → Int32 → GM → Option ((Int64 × GM) ⊕ ((Nat × GM) ⊕ (Int64 × GM)))) (b16 : Int64) (a17 : Int32) (M : GM) : Option ((Int64 × GM) ⊕ ((Nat × GM) ⊕ (Int64 × GM))) := if (gI M 0 12) ≤ a17 then (some (Sum.inl (b16, M))) else (bnd (0 : Int32) (fun v18 => bndT (lp_X10_digest_66 F a17 F b16 v18 M) (fun (w30, M31) => bnd (a17 + (1 : Int32)) (fun v34 => rec w30 v34 M31)) (fun r33 => some (Sum.inr r33))))
def lp_X10_digest_55 (F : Nat)  : Nat → Int64 → Int32 → GM → Option ((Int64 × GM) ⊕ ((Nat × GM) ⊕ (Int64 × GM)))
  | 0 => fun _ _ _ => none
  | f + 1 => fun b16 a17 M => st_X10_digest_55 F  (lp_X10_digest_55 F  f) b16 a17 M
set_option maxHeartbeats 4000000 in
set_option maxRecDepth 100000 in
theorem lw_X10_digest_55 {x : GX} (X : GC x cX10_digest 5 RX10 9)   {F : Nat} {r9 : ((Int64 × GM) ⊕ ((Nat × GM) ⊕ (Int64 × GM)))} (hR : ∀ (v9 : Int64) (M9 : GM) (lv9 : List (Nat × Value)) (pc9 : Nat), r9 = Sum.inr (Sum.inr (v9, M9)) → decode cX10_digest pc9 = .ok (.lreturn, 1) → WG x M9 lv9 pc9 [.long v9]) (hX : ∀ (n9 : Nat) (M9 : GM), r9 = Sum.inr (Sum.inl (n9, M9)) → GThr x n9 M9) (hE : ∀ (x1_9 : Int64) (M9 : GM), r9 = Sum.inl (x1_9, M9) → WG x M9 [(0, .ref (gad (xz x) 0)), (1, .long x1_9)] 99 []) : ∀ (f : Nat) (b16 : Int64) (a17 : Int32) (M : GM), lp_X10_digest_55 F  f b16 a17 M = some r9 → WG x M [(0, .ref (gad (xz x) 0)), (1, .long b16), (3, .int a17)] 55 [] := by
  intro f
  induction f with
  | zero => intro b16 a17 M h; cases h
  | succ f ih =>
    intro b16 a17 M h
    have hrec := ih
    have h : st_X10_digest_55 F  (lp_X10_digest_55 F  f) b16 a17 M = some r9 := h
    generalize lp_X10_digest_55 F  f = rec at h hrec
    unfold st_X10_digest_55 at h
    refine g_iload_n X (j := 2) dX10_digest_55 rfl rfl ?_
    refine g_aload_n X (j := 0) dX10_digest_56 rfl rfl ?_
    refine gf_X10_97 X gT_c0 dX10_digest_57 ?_
    refine g_icmp_ge X (tgt := 99) dX10_digest_60 (by decide) (fun hb => ?_) (fun hb => ?_)
    · have h := ite_t hb h
      refine g_lv [0, 1] rfl ?_
      exact hE b16 M (Option.some.inj h).symm
    · have h := ite_f hb h
      refine g_iconst X (v := 0) dX10_digest_63 (by decide) ?_
      refine g_topi (fun v18 e19 => ?_)
      have h := bnd_e e19 h
      refine g_istore X (lv' := [(4, .int v18), (0, .ref (gad (xz x) 0)), (1, .long b16), (3, .int a17)]) dX10_digest_64 (by decide) rfl ?_
      refine g_lv [1, 2, 3, 0] rfl ?_
      rcases bndT_e h with ⟨⟨w30, M31⟩, hl32, h⟩ | ⟨r33, hl32, h⟩
      · refine lw_X10_digest_66 X  (by intros; rename_i e9 _ ; cases e9) (by intros; rename_i e9; cases e9) (fun w30_ M31_  e9 => ?_) F b16 v18 M hl32
        cases e9
        refine g_iinc X (j := 2) (w := a17 + (1 : Int32)) (lv' := [(0, .ref (gad (xz x) 0)), (1, .long w30)]) dX10_digest_93 rfl (by rw [ii_1]) (by decide) (fun _ => rfl) (fun v34 e35 => ?_)
        have h := bnd_e e35 h
        refine g_goto X (tgt := 55) dX10_digest_96 (by decide) ?_
        refine g_lv [1, 2, 0] rfl ?_
        exact hrec w30 v34 M31 h
      · exact lw_X10_digest_66 X  (fun v9 M9 lv9 pc9 e9 d9 => by cases e9; exact hR _ _ lv9 pc9 (Option.some.inj h).symm d9) (fun n9 M9 e9 => by cases e9; exact hX _ _ (Option.some.inj h).symm) (by intros; rename_i e9; cases e9) F b16 v18 M hl32
def st_X10_digest_101 (F : Nat)  (rec : Int64 → Int32 → GM → Option ((Int64 × GM) ⊕ ((Nat × GM) ⊕ (Int64 × GM)))) (b42 : Int64) (a43 : Int32) (M : GM) : Option ((Int64 × GM) ⊕ ((Nat × GM) ⊕ (Int64 × GM))) := if (gI M 0 13) ≤ a43 then (some (Sum.inl (b42, M))) else (bndT (f_X10_digestPane F b42 a43 M) (fun (n47, M48) => some (Sum.inr (Sum.inl (n47, M48)))) (fun (w45, M46) => bnd w45 (fun w49 => bnd (a43 + (1 : Int32)) (fun v51 => rec w49 v51 M46))))
def lp_X10_digest_101 (F : Nat)  : Nat → Int64 → Int32 → GM → Option ((Int64 × GM) ⊕ ((Nat × GM) ⊕ (Int64 × GM)))
  | 0 => fun _ _ _ => none
  | f + 1 => fun b42 a43 M => st_X10_digest_101 F  (lp_X10_digest_101 F  f) b42 a43 M
set_option maxHeartbeats 4000000 in
set_option maxRecDepth 100000 in
theorem lw_X10_digest_101 {x : GX} (X : GC x cX10_digest 5 RX10 9)   {F : Nat} {r9 : ((Int64 × GM) ⊕ ((Nat × GM) ⊕ (Int64 × GM)))} (hR : ∀ (v9 : Int64) (M9 : GM) (lv9 : List (Nat × Value)) (pc9 : Nat), r9 = Sum.inr (Sum.inr (v9, M9)) → decode cX10_digest pc9 = .ok (.lreturn, 1) → WG x M9 lv9 pc9 [.long v9]) (hX : ∀ (n9 : Nat) (M9 : GM), r9 = Sum.inr (Sum.inl (n9, M9)) → GThr x n9 M9) (hE : ∀ (x1_9 : Int64) (M9 : GM), r9 = Sum.inl (x1_9, M9) → WG x M9 [(0, .ref (gad (xz x) 0)), (1, .long x1_9)] 122 []) : ∀ (f : Nat) (b42 : Int64) (a43 : Int32) (M : GM), lp_X10_digest_101 F  f b42 a43 M = some r9 → WG x M [(0, .ref (gad (xz x) 0)), (1, .long b42), (3, .int a43)] 101 [] := by
  intro f
  induction f with
  | zero => intro b42 a43 M h; cases h
  | succ f ih =>
    intro b42 a43 M h
    have hrec := ih
    have h : st_X10_digest_101 F  (lp_X10_digest_101 F  f) b42 a43 M = some r9 := h
    generalize lp_X10_digest_101 F  f = rec at h hrec
    unfold st_X10_digest_101 at h
    refine g_iload_n X (j := 2) dX10_digest_101 rfl rfl ?_
    refine g_aload_n X (j := 0) dX10_digest_102 rfl rfl ?_
    refine gf_X10_121 X gT_c0 dX10_digest_103 ?_
    refine g_icmp_ge X (tgt := 122) dX10_digest_106 (by decide) (fun hb => ?_) (fun hb => ?_)
    · have h := ite_t hb h
      refine g_lv [0, 1] rfl ?_
      exact hE b42 M (Option.some.inj h).symm
    · have h := ite_f hb h
      refine g_aload_n X (j := 0) dX10_digest_109 rfl rfl ?_
      refine g_lload_n X (j := 1) dX10_digest_110 rfl rfl ?_
      refine g_iload_n X (j := 2) dX10_digest_111 rfl rfl ?_
      rcases bndT_e h with ⟨⟨n47, M48⟩, hc44, h⟩ | ⟨⟨w45, M46⟩, hc44, h⟩
      · exact gx_X10_361 X gT_c0 (cx_X10_digestPane X.htr  hc44) (by decide) (Nat.le_of_ble_eq_true rfl) dX10_digest_112 (hX n47 M48 (Option.some.inj h).symm)
      refine gc_X10_361 X gT_c0 (ct_X10_digestPane X.htr  hc44) (by decide) (Nat.le_of_ble_eq_true rfl) dX10_digest_112 ?_
      refine g_topl (fun w49 e50 => ?_)
      have h := bnd_e e50 h
      refine g_lstore_n X (lv' := [(1, .long w49), (0, .ref (gad (xz x) 0)), (3, .int a43)]) dX10_digest_115 rfl (by decide) rfl ?_
      refine g_iinc X (j := 2) (w := a43 + (1 : Int32)) (lv' := [(1, .long w49), (0, .ref (gad (xz x) 0))]) dX10_digest_116 rfl (by rw [ii_1]) (by decide) (fun _ => rfl) (fun v51 e52 => ?_)
      have h := bnd_e e52 h
      refine g_goto X (tgt := 101) dX10_digest_119 (by decide) ?_
      refine g_lv [2, 1, 0] rfl ?_
      exact hrec w49 v51 M46 h
def st_X10_digest_145 (F : Nat) (a69 : Int32) (rec : Int64 → Int32 → GM → Option ((Int64 × GM) ⊕ ((Nat × GM) ⊕ (Int64 × GM)))) (b68 : Int64) (a70 : Int32) (M : GM) : Option ((Int64 × GM) ⊕ ((Nat × GM) ⊕ (Int64 × GM))) := if (40 : Int32) ≤ a70 then (some (Sum.inl (b68, M))) else (bndT (f_X10_colourAt F a70 a69 M) (fun n73 => some (Sum.inr (Sum.inl (n73, M)))) (fun v72 => bnd ((b68 * (31 : Int64)) + v72.toInt64) (fun w74 => bndT (f_X10_depthAt F a70 a69 M) (fun n78 => some (Sum.inr (Sum.inl (n78, M)))) (fun v77 => bnd ((w74 * (31 : Int64)) + v77.toInt64) (fun w79 => bndT (f_X10_paneAt F a70 a69 M) (fun n83 => some (Sum.inr (Sum.inl (n83, M)))) (fun v82 => bnd ((w79 * (31 : Int64)) + v82.toInt64) (fun w84 => bnd (a70 + (1 : Int32)) (fun v86 => rec w84 v86 M))))))))
def lp_X10_digest_145 (F : Nat) (a69 : Int32) : Nat → Int64 → Int32 → GM → Option ((Int64 × GM) ⊕ ((Nat × GM) ⊕ (Int64 × GM)))
  | 0 => fun _ _ _ => none
  | f + 1 => fun b68 a70 M => st_X10_digest_145 F a69 (lp_X10_digest_145 F a69 f) b68 a70 M
set_option maxHeartbeats 4000000 in
set_option maxRecDepth 100000 in
theorem lw_X10_digest_145 {x : GX} (X : GC x cX10_digest 5 RX10 9) {a69 : Int32}  {F : Nat} {r9 : ((Int64 × GM) ⊕ ((Nat × GM) ⊕ (Int64 × GM)))} (hR : ∀ (v9 : Int64) (M9 : GM) (lv9 : List (Nat × Value)) (pc9 : Nat), r9 = Sum.inr (Sum.inr (v9, M9)) → decode cX10_digest pc9 = .ok (.lreturn, 1) → WG x M9 lv9 pc9 [.long v9]) (hX : ∀ (n9 : Nat) (M9 : GM), r9 = Sum.inr (Sum.inl (n9, M9)) → GThr x n9 M9) (hE : ∀ (x1_9 : Int64) (M9 : GM), r9 = Sum.inl (x1_9, M9) → WG x M9 [(0, .ref (gad (xz x) 0)), (1, .long x1_9), (3, .int a69)] 203 []) : ∀ (f : Nat) (b68 : Int64) (a70 : Int32) (M : GM), lp_X10_digest_145 F a69 f b68 a70 M = some r9 → WG x M [(0, .ref (gad (xz x) 0)), (1, .long b68), (3, .int a69), (4, .int a70)] 145 [] := by
  intro f
  induction f with
  | zero => intro b68 a70 M h; cases h
  | succ f ih =>
    intro b68 a70 M h
    have hrec := ih
    have h : st_X10_digest_145 F a69 (lp_X10_digest_145 F a69 f) b68 a70 M = some r9 := h
    generalize lp_X10_digest_145 F a69 f = rec at h hrec
    unfold st_X10_digest_145 at h
    refine g_iload X (j := 3) dX10_digest_145 rfl ?_
    refine g_bipush X (v := 40) dX10_digest_147 (by decide) ?_
    refine g_icmp_ge X (tgt := 203) dX10_digest_149 (by decide) (fun hb => ?_) (fun hb => ?_)
    · have h := ite_t hb h
      refine g_lv [0, 1, 2] rfl ?_
      exact hE b68 M (Option.some.inj h).symm
    · have h := ite_f hb h
      refine g_lload_n X (j := 1) dX10_digest_152 rfl rfl ?_
      refine g_ldc2 X q_656 dX10_digest_153 ?_
      refine g_lmul X dX10_digest_156 ?_
      refine g_aload_n X (j := 0) dX10_digest_157 rfl rfl ?_
      refine g_iload X (j := 3) dX10_digest_158 rfl ?_
      refine g_iload_n X (j := 2) dX10_digest_160 rfl rfl ?_
      rcases bndT_e h with ⟨n73, hc71, h⟩ | ⟨v72, hc71, h⟩
      · exact gx_X10_367 X gT_c0 (cx_X10_colourAt X.htr  hc71) (by decide) (Nat.le_of_ble_eq_true rfl) dX10_digest_161 (hX n73 M (Option.some.inj h).symm)
      refine gc_X10_367 X gT_c0 (ct_X10_colourAt X.htr  hc71) (by decide) (Nat.le_of_ble_eq_true rfl) dX10_digest_161 ?_
      refine g_i2l X dX10_digest_164 ?_
      refine g_ladd X dX10_digest_165 ?_
      refine g_topl (fun w74 e75 => ?_)
      have h := bnd_e e75 h
      refine g_lstore_n X (lv' := [(1, .long w74), (0, .ref (gad (xz x) 0)), (3, .int a69), (4, .int a70)]) dX10_digest_166 rfl (by decide) rfl ?_
      refine g_lload_n X (j := 0) dX10_digest_167 rfl rfl ?_
      refine g_ldc2 X q_656 dX10_digest_168 ?_
      refine g_lmul X dX10_digest_171 ?_
      refine g_aload_n X (j := 1) dX10_digest_172 rfl rfl ?_
      refine g_iload X (j := 3) dX10_digest_173 rfl ?_
      refine g_iload_n X (j := 2) dX10_digest_175 rfl rfl ?_
      rcases bndT_e h with ⟨n78, hc76, h⟩ | ⟨v77, hc76, h⟩
      · exact gx_X10_370 X gT_c0 (cx_X10_depthAt X.htr  hc76) (by decide) (Nat.le_of_ble_eq_true rfl) dX10_digest_176 (hX n78 M (Option.some.inj h).symm)
      refine gc_X10_370 X gT_c0 (ct_X10_depthAt X.htr  hc76) (by decide) (Nat.le_of_ble_eq_true rfl) dX10_digest_176 ?_
      refine g_i2l X dX10_digest_179 ?_
      refine g_ladd X dX10_digest_180 ?_
      refine g_topl (fun w79 e80 => ?_)
      have h := bnd_e e80 h
      refine g_lstore_n X (lv' := [(1, .long w79), (0, .ref (gad (xz x) 0)), (3, .int a69), (4, .int a70)]) dX10_digest_181 rfl (by decide) rfl ?_
      refine g_lload_n X (j := 0) dX10_digest_182 rfl rfl ?_
      refine g_ldc2 X q_656 dX10_digest_183 ?_
      refine g_lmul X dX10_digest_186 ?_
      refine g_aload_n X (j := 1) dX10_digest_187 rfl rfl ?_
      refine g_iload X (j := 3) dX10_digest_188 rfl ?_
      refine g_iload_n X (j := 2) dX10_digest_190 rfl rfl ?_
      rcases bndT_e h with ⟨n83, hc81, h⟩ | ⟨v82, hc81, h⟩
      · exact gx_X10_373 X gT_c0 (cx_X10_paneAt X.htr  hc81) (by decide) (Nat.le_of_ble_eq_true rfl) dX10_digest_191 (hX n83 M (Option.some.inj h).symm)
      refine gc_X10_373 X gT_c0 (ct_X10_paneAt X.htr  hc81) (by decide) (Nat.le_of_ble_eq_true rfl) dX10_digest_191 ?_
      refine g_i2l X dX10_digest_194 ?_
      refine g_ladd X dX10_digest_195 ?_
      refine g_topl (fun w84 e85 => ?_)
      have h := bnd_e e85 h
      refine g_lstore_n X (lv' := [(1, .long w84), (0, .ref (gad (xz x) 0)), (3, .int a69), (4, .int a70)]) dX10_digest_196 rfl (by decide) rfl ?_
      refine g_iinc X (j := 3) (w := a70 + (1 : Int32)) (lv' := [(1, .long w84), (0, .ref (gad (xz x) 0)), (3, .int a69)]) dX10_digest_197 rfl (by rw [ii_1]) (by decide) (fun _ => rfl) (fun v86 e87 => ?_)
      have h := bnd_e e87 h
      refine g_goto X (tgt := 145) dX10_digest_200 (by decide) ?_
      refine g_lv [2, 1, 3, 0] rfl ?_
      exact hrec w84 v86 M h
def st_X10_digest_136 (F : Nat)  (rec : Int64 → Int32 → GM → Option ((Int64 × GM) ⊕ ((Nat × GM) ⊕ (Int64 × GM)))) (b64 : Int64) (a65 : Int32) (M : GM) : Option ((Int64 × GM) ⊕ ((Nat × GM) ⊕ (Int64 × GM))) := if (24 : Int32) ≤ a65 then (some (Sum.inl (b64, M))) else (bnd (0 : Int32) (fun v66 => bndT (lp_X10_digest_145 F a65 F b64 v66 M) (fun (w88, M89) => bnd (a65 + (1 : Int32)) (fun v92 => rec w88 v92 M89)) (fun r91 => some (Sum.inr r91))))
def lp_X10_digest_136 (F : Nat)  : Nat → Int64 → Int32 → GM → Option ((Int64 × GM) ⊕ ((Nat × GM) ⊕ (Int64 × GM)))
  | 0 => fun _ _ _ => none
  | f + 1 => fun b64 a65 M => st_X10_digest_136 F  (lp_X10_digest_136 F  f) b64 a65 M
set_option maxHeartbeats 4000000 in
set_option maxRecDepth 100000 in
theorem lw_X10_digest_136 {x : GX} (X : GC x cX10_digest 5 RX10 9)   {F : Nat} {r9 : ((Int64 × GM) ⊕ ((Nat × GM) ⊕ (Int64 × GM)))} (hR : ∀ (v9 : Int64) (M9 : GM) (lv9 : List (Nat × Value)) (pc9 : Nat), r9 = Sum.inr (Sum.inr (v9, M9)) → decode cX10_digest pc9 = .ok (.lreturn, 1) → WG x M9 lv9 pc9 [.long v9]) (hX : ∀ (n9 : Nat) (M9 : GM), r9 = Sum.inr (Sum.inl (n9, M9)) → GThr x n9 M9) (hE : ∀ (x1_9 : Int64) (M9 : GM), r9 = Sum.inl (x1_9, M9) → WG x M9 [(1, .long x1_9)] 209 []) : ∀ (f : Nat) (b64 : Int64) (a65 : Int32) (M : GM), lp_X10_digest_136 F  f b64 a65 M = some r9 → WG x M [(0, .ref (gad (xz x) 0)), (1, .long b64), (3, .int a65)] 136 [] := by
  intro f
  induction f with
  | zero => intro b64 a65 M h; cases h
  | succ f ih =>
    intro b64 a65 M h
    have hrec := ih
    have h : st_X10_digest_136 F  (lp_X10_digest_136 F  f) b64 a65 M = some r9 := h
    generalize lp_X10_digest_136 F  f = rec at h hrec
    unfold st_X10_digest_136 at h
    refine g_iload_n X (j := 2) dX10_digest_136 rfl rfl ?_
    refine g_bipush X (v := 24) dX10_digest_137 (by decide) ?_
    refine g_icmp_ge X (tgt := 209) dX10_digest_139 (by decide) (fun hb => ?_) (fun hb => ?_)
    · have h := ite_t hb h
      refine g_lv [1] rfl ?_
      exact hE b64 M (Option.some.inj h).symm
    · have h := ite_f hb h
      refine g_iconst X (v := 0) dX10_digest_142 (by decide) ?_
      refine g_topi (fun v66 e67 => ?_)
      have h := bnd_e e67 h
      refine g_istore X (lv' := [(4, .int v66), (0, .ref (gad (xz x) 0)), (1, .long b64), (3, .int a65)]) dX10_digest_143 (by decide) rfl ?_
      refine g_lv [1, 2, 3, 0] rfl ?_
      rcases bndT_e h with ⟨⟨w88, M89⟩, hl90, h⟩ | ⟨r91, hl90, h⟩
      · refine lw_X10_digest_145 X  (by intros; rename_i e9 _ ; cases e9) (by intros; rename_i e9; cases e9) (fun w88_ M89_  e9 => ?_) F b64 v66 M hl90
        cases e9
        refine g_iinc X (j := 2) (w := a65 + (1 : Int32)) (lv' := [(0, .ref (gad (xz x) 0)), (1, .long w88)]) dX10_digest_203 rfl (by rw [ii_1]) (by decide) (fun _ => rfl) (fun v92 e93 => ?_)
        have h := bnd_e e93 h
        refine g_goto X (tgt := 136) dX10_digest_206 (by decide) ?_
        refine g_lv [1, 2, 0] rfl ?_
        exact hrec w88 v92 M89 h
      · exact lw_X10_digest_145 X  (fun v9 M9 lv9 pc9 e9 d9 => by cases e9; exact hR _ _ lv9 pc9 (Option.some.inj h).symm d9) (fun n9 M9 e9 => by cases e9; exact hX _ _ (Option.some.inj h).symm) (by intros; rename_i e9; cases e9) F b64 v66 M hl90
def f_X10_digest (F : Nat) (M : GM) : Option ((Nat × GM) ⊕ (Int64 × GM)) := bnd (2459 : Int64) (fun w1 => bnd ((w1 * (31 : Int64)) + ((f_X10_corners M).toInt64)) (fun w3 => bnd ((w3 * (31 : Int64)) + ((f_X10_panes M).toInt64)) (fun w5 => bndO (f_X10_draw F 31 42 ((-1) : Int32) M) (fun M8 => bndO (f_X10_countStaleTiles F M8) (fun (v10, M11) => bnd ((w5 * (31 : Int64)) + v10.toInt64) (fun w12 => bnd (0 : Int32) (fun v14 => bndT (lp_X10_digest_55 F  F w12 v14 M11) (fun (w36, M37) => bnd (0 : Int32) (fun v40 => bndT (lp_X10_digest_101 F  F w36 v40 M37) (fun (w53, M54) => bndO (f_X10_colours F M54) (fun (v58, M59) => bnd ((w53 * (31 : Int64)) + v58.toInt64) (fun w60 => bnd (0 : Int32) (fun v62 => bndT (lp_X10_digest_136 F  F w60 v62 M59) (fun (w94, M95) => some (Sum.inr (w94, M95))) (fun r97 => some r97))))) (fun r56 => some r56))) (fun r39 => some r39))))))))
set_option maxHeartbeats 4000000 in
set_option maxRecDepth 100000 in
theorem w_X10_digest {x : GX} (X : GC x cX10_digest 5 RX10 9)   {F : Nat} {M : GM} {r9 : ((Nat × GM) ⊕ (Int64 × GM))} (hR : ∀ (v9 : Int64) (M9 : GM) (lv9 : List (Nat × Value)) (pc9 : Nat), r9 = Sum.inr (v9, M9) → decode cX10_digest pc9 = .ok (.lreturn, 1) → WG x M9 lv9 pc9 [.long v9]) (hX : ∀ (n9 : Nat) (M9 : GM), r9 = Sum.inl (n9, M9) → GThr x n9 M9) (h : f_X10_digest F M = some r9) : WG x M [(0, .ref (gad (xz x) 0))] 0 [] := by
  unfold f_X10_digest at h
  refine g_ldc2 X q_655 dX10_digest_0 ?_
  refine g_topl (fun w1 e2 => ?_)
  have h := bnd_e e2 h
  refine g_lstore_n X (lv' := [(1, .long w1), (0, .ref (gad (xz x) 0))]) dX10_digest_3 rfl (by decide) rfl ?_
  refine g_lload_n X (j := 0) dX10_digest_4 rfl rfl ?_
  refine g_ldc2 X q_656 dX10_digest_5 ?_
  refine g_lmul X dX10_digest_8 ?_
  refine g_aload_n X (j := 1) dX10_digest_9 rfl rfl ?_
  refine gc_X10_353 X gT_c0 (ct_X10_corners X.htr ) (by decide) (Nat.le_of_ble_eq_true rfl) dX10_digest_10 ?_
  refine g_i2l X dX10_digest_13 ?_
  refine g_ladd X dX10_digest_14 ?_
  refine g_topl (fun w3 e4 => ?_)
  have h := bnd_e e4 h
  refine g_lstore_n X (lv' := [(1, .long w3), (0, .ref (gad (xz x) 0))]) dX10_digest_15 rfl (by decide) rfl ?_
  refine g_lload_n X (j := 0) dX10_digest_16 rfl rfl ?_
  refine g_ldc2 X q_656 dX10_digest_17 ?_
  refine g_lmul X dX10_digest_20 ?_
  refine g_aload_n X (j := 1) dX10_digest_21 rfl rfl ?_
  refine gc_X10_356 X gT_c0 (ct_X10_panes X.htr ) (by decide) (Nat.le_of_ble_eq_true rfl) dX10_digest_22 ?_
  refine g_i2l X dX10_digest_25 ?_
  refine g_ladd X dX10_digest_26 ?_
  refine g_topl (fun w5 e6 => ?_)
  have h := bnd_e e6 h
  refine g_lstore_n X (lv' := [(1, .long w5), (0, .ref (gad (xz x) 0))]) dX10_digest_27 rfl (by decide) rfl ?_
  refine g_aload_n X (j := 1) dX10_digest_28 rfl rfl ?_
  refine g_aload_n X (j := 1) dX10_digest_29 rfl rfl ?_
  refine gf_X10_48 X gT_c0 dX10_digest_30 ?_
  refine g_aload_n X (j := 1) dX10_digest_33 rfl rfl ?_
  refine gf_X10_68 X gT_c0 dX10_digest_34 ?_
  refine g_iconst X (v := (-1)) dX10_digest_37 (by decide) ?_
  obtain ⟨M8, hc7, h⟩ := bndO_e h
  refine gc_X10_286 X gT_c0 (ct_X10_draw X.htr gT_c31 gT_c42 hc7) (by decide) (Nat.le_of_ble_eq_true rfl) dX10_digest_38 ?_
  refine g_lload_n X (j := 0) dX10_digest_41 rfl rfl ?_
  refine g_ldc2 X q_656 dX10_digest_42 ?_
  refine g_lmul X dX10_digest_45 ?_
  refine g_aload_n X (j := 1) dX10_digest_46 rfl rfl ?_
  obtain ⟨⟨v10, M11⟩, hc9, h⟩ := bndO_e h
  refine gc_X10_290 X gT_c0 (ct_X10_countStaleTiles X.htr  hc9) (by decide) (Nat.le_of_ble_eq_true rfl) dX10_digest_47 ?_
  refine g_i2l X dX10_digest_50 ?_
  refine g_ladd X dX10_digest_51 ?_
  refine g_topl (fun w12 e13 => ?_)
  have h := bnd_e e13 h
  refine g_lstore_n X (lv' := [(1, .long w12), (0, .ref (gad (xz x) 0))]) dX10_digest_52 rfl (by decide) rfl ?_
  refine g_iconst X (v := 0) dX10_digest_53 (by decide) ?_
  refine g_topi (fun v14 e15 => ?_)
  have h := bnd_e e15 h
  refine g_istore_n X (lv' := [(3, .int v14), (1, .long w12), (0, .ref (gad (xz x) 0))]) dX10_digest_54 rfl (by decide) rfl ?_
  refine g_lv [2, 1, 0] rfl ?_
  rcases bndT_e h with ⟨⟨w36, M37⟩, hl38, h⟩ | ⟨r39, hl38, h⟩
  · refine lw_X10_digest_55 X  (by intros; rename_i e9 _ ; cases e9) (by intros; rename_i e9; cases e9) (fun w36_ M37_  e9 => ?_) F w12 v14 M11 hl38
    cases e9
    refine g_iconst X (v := 0) dX10_digest_99 (by decide) ?_
    refine g_topi (fun v40 e41 => ?_)
    have h := bnd_e e41 h
    refine g_istore_n X (lv' := [(3, .int v40), (0, .ref (gad (xz x) 0)), (1, .long w36)]) dX10_digest_100 rfl (by decide) rfl ?_
    refine g_lv [1, 2, 0] rfl ?_
    rcases bndT_e h with ⟨⟨w53, M54⟩, hl55, h⟩ | ⟨r56, hl55, h⟩
    · refine lw_X10_digest_101 X  (by intros; rename_i e9 _ ; cases e9) (by intros; rename_i e9; cases e9) (fun w53_ M54_  e9 => ?_) F w36 v40 M37 hl55
      cases e9
      refine g_lload_n X (j := 1) dX10_digest_122 rfl rfl ?_
      refine g_ldc2 X q_656 dX10_digest_123 ?_
      refine g_lmul X dX10_digest_126 ?_
      refine g_aload_n X (j := 0) dX10_digest_127 rfl rfl ?_
      obtain ⟨⟨v58, M59⟩, hc57, h⟩ := bndO_e h
      refine gc_X10_365 X gT_c0 (ct_X10_colours X.htr  hc57) (by decide) (Nat.le_of_ble_eq_true rfl) dX10_digest_128 ?_
      refine g_i2l X dX10_digest_131 ?_
      refine g_ladd X dX10_digest_132 ?_
      refine g_topl (fun w60 e61 => ?_)
      have h := bnd_e e61 h
      refine g_lstore_n X (lv' := [(1, .long w60), (0, .ref (gad (xz x) 0))]) dX10_digest_133 rfl (by decide) rfl ?_
      refine g_iconst X (v := 0) dX10_digest_134 (by decide) ?_
      refine g_topi (fun v62 e63 => ?_)
      have h := bnd_e e63 h
      refine g_istore_n X (lv' := [(3, .int v62), (1, .long w60), (0, .ref (gad (xz x) 0))]) dX10_digest_135 rfl (by decide) rfl ?_
      refine g_lv [2, 1, 0] rfl ?_
      rcases bndT_e h with ⟨⟨w94, M95⟩, hl96, h⟩ | ⟨r97, hl96, h⟩
      · refine lw_X10_digest_136 X  (by intros; rename_i e9 _ ; cases e9) (by intros; rename_i e9; cases e9) (fun w94_ M95_  e9 => ?_) F w60 v62 M59 hl96
        cases e9
        refine g_lload_n X (j := 0) dX10_digest_209 rfl rfl ?_
        exact hR w94 M95 _ _ (Option.some.inj h).symm dX10_digest_210
      · exact lw_X10_digest_136 X  (fun v9 M9 lv9 pc9 e9 d9 => by cases e9; exact hR _ _ lv9 pc9 (Option.some.inj h).symm d9) (fun n9 M9 e9 => by cases e9; exact hX _ _ (Option.some.inj h).symm) (by intros; rename_i e9; cases e9) F w60 v62 M59 hl96
    · exact lw_X10_digest_101 X  (fun v9 M9 lv9 pc9 e9 d9 => by cases e9; exact hR _ _ lv9 pc9 (Option.some.inj h).symm d9) (fun n9 M9 e9 => by cases e9; exact hX _ _ (Option.some.inj h).symm) (by intros; rename_i e9; cases e9) F w36 v40 M37 hl55
  · exact lw_X10_digest_55 X  (fun v9 M9 lv9 pc9 e9 d9 => by cases e9; exact hR _ _ lv9 pc9 (Option.some.inj h).symm d9) (fun n9 M9 e9 => by cases e9; exact hX _ _ (Option.some.inj h).symm) (by intros; rename_i e9; cases e9) F w12 v14 M11 hl38
theorem ct_X10_digest {l : Launch} {z : GZ} (htr : l.stackTraces = false)   {M : GM} {F : Nat} {v : Int64} {M1 : GM} (h : f_X10_digest F M = some (Sum.inr (v, M1))) : gMet l z yX10_digest cX10_digest 5 (some .long) 9 [.ref (gad z 0)] M (some (.long v)) M1 := gMet_ofL (by decide +kernel) (Nat.le_of_ble_eq_true rfl) htr (fun x X ez el hR => by subst ez; subst el; exact w_X10_digest X  (fun v9 M9 lv9 pc9 e9 d9 => by cases e9; exact hR lv9 pc9 d9) (by intros; rename_i e9; cases e9) h)
theorem cx_X10_digest {l : Launch} {z : GZ} (htr : l.stackTraces = false)   {M : GM} {F n : Nat} {M1 : GM} (h : f_X10_digest F M = some (Sum.inl (n, M1))) : gMetX l z yX10_digest cX10_digest 5 (some .long) 9 [.ref (gad z 0)] M n M1 := gMetX_of (by decide +kernel) (Nat.le_of_ble_eq_true rfl) htr (fun x X ez el hT => by subst ez; subst el; exact w_X10_digest X  (by intros; rename_i e9 _; cases e9) (fun n9 M9 e9 => by cases e9; exact hT) h)
