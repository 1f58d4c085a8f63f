/-! 23.smove: methods of the law -/
theorem gc_X11_122 {x : GX} {cc : ByteArray} {nL d pc : Nat} {M : GM} {lv : List (Nat × Value)} {st : List Value} (X : GC x cc nL RX11 d) {i0 : Int32} {i1 : Int32} {i2 : Int32} {i3 : Int32} {M1 : GM} {r : Int32} (ht : gT 0 = 10) (hM : gMet (xl x) (xz x) yX10_moveCorner cX10_moveCorner 7 (some .int) 7 [.ref (gad (xz x) 0), .int i0, .int i1, .int i2, .int i3] M (some (.int r)) M1) (hd : 8 ≤ d) (hsum : (st.map fun v => v.category).sum ≤ 8) (dec : decode cc pc = .ok (.invokevirtual 122, 3)) (go : WG x M1 lv (pc + 3) (.int r :: st)) : WG x M lv pc (.int i3 :: .int i2 :: .int i1 :: .int i0 :: .ref (gad (xz x) 0) :: st) := g_callV X (n := 4) (As := [.int i0, .int i1, .int i2, .int i3]) (rest := st) hM ht (by decide) (gE_10 ht) rfl q_966 q_38 q_39 q_17 q_40 (by decide +kernel) rfl hd (by decide) rfl hsum dec go
theorem gx_X11_122 {x : GX} {cc : ByteArray} {nL d pc : Nat} {M : GM} {lv : List (Nat × Value)} {st : List Value} (X : GC x cc nL RX11 d) {i0 : Int32} {i1 : Int32} {i2 : Int32} {i3 : Int32} {M1 : GM} {n9 : Nat} (ht : gT 0 = 10) (hM : gMetX (xl x) (xz x) yX10_moveCorner cX10_moveCorner 7 (some .int) 7 [.ref (gad (xz x) 0), .int i0, .int i1, .int i2, .int i3] M n9 M1) (hd : 8 ≤ d) (hsum : (st.map fun v => v.category).sum ≤ 8) (dec : decode cc pc = .ok (.invokevirtual 122, 3)) (hT : GThr x n9 M1) : WG x M lv pc (.int i3 :: .int i2 :: .int i1 :: .int i0 :: .ref (gad (xz x) 0) :: st) := g_xV X (n := 4) (As := [.int i0, .int i1, .int i2, .int i3]) (rest := st) hM ht (by decide) (gE_10 ht) rfl q_966 q_38 q_39 q_17 q_40 (by decide +kernel) rfl hd (by decide) rfl hsum dec hT
theorem dX11_move_0 : decode cX11_move 0 = .ok (.iconst 3, 1) := by decide +kernel
theorem dX11_move_1 : decode cX11_move 1 = .ok (.newarray .int, 2) := by decide +kernel
theorem dX11_move_3 : decode cX11_move 3 = .ok (.dup, 1) := by decide +kernel
theorem dX11_move_4 : decode cX11_move 4 = .ok (.iconst 0, 1) := by decide +kernel
theorem dX11_move_5 : decode cX11_move 5 = .ok (.aload_n 0, 1) := by decide +kernel
theorem dX11_move_6 : decode cX11_move 6 = .ok (.sipush (-400), 3) := by decide +kernel
theorem dX11_move_9 : decode cX11_move 9 = .ok (.sipush 400, 3) := by decide +kernel
theorem dX11_move_12 : decode cX11_move 12 = .ok (.invokevirtual 68, 3) := by decide +kernel
theorem dX11_move_15 : decode cX11_move 15 = .ok (.iastore, 1) := by decide +kernel
theorem dX11_move_16 : decode cX11_move 16 = .ok (.dup, 1) := by decide +kernel
theorem dX11_move_17 : decode cX11_move 17 = .ok (.iconst 1, 1) := by decide +kernel
theorem dX11_move_18 : decode cX11_move 18 = .ok (.aload_n 0, 1) := by decide +kernel
theorem dX11_move_19 : decode cX11_move 19 = .ok (.sipush (-300), 3) := by decide +kernel
theorem dX11_move_22 : decode cX11_move 22 = .ok (.sipush 300, 3) := by decide +kernel
theorem dX11_move_25 : decode cX11_move 25 = .ok (.invokevirtual 68, 3) := by decide +kernel
theorem dX11_move_28 : decode cX11_move 28 = .ok (.iastore, 1) := by decide +kernel
theorem dX11_move_29 : decode cX11_move 29 = .ok (.dup, 1) := by decide +kernel
theorem dX11_move_30 : decode cX11_move 30 = .ok (.iconst 2, 1) := by decide +kernel
theorem dX11_move_31 : decode cX11_move 31 = .ok (.aload_n 0, 1) := by decide +kernel
theorem dX11_move_32 : decode cX11_move 32 = .ok (.sipush (-600), 3) := by decide +kernel
theorem dX11_move_35 : decode cX11_move 35 = .ok (.sipush 700, 3) := by decide +kernel
theorem dX11_move_38 : decode cX11_move 38 = .ok (.invokevirtual 68, 3) := by decide +kernel
theorem dX11_move_41 : decode cX11_move 41 = .ok (.iastore, 1) := by decide +kernel
theorem dX11_move_42 : decode cX11_move 42 = .ok (.astore_n 2, 1) := by decide +kernel
theorem dX11_move_43 : decode cX11_move 43 = .ok (.iconst 0, 1) := by decide +kernel
theorem dX11_move_44 : decode cX11_move 44 = .ok (.istore_n 3, 1) := by decide +kernel
theorem dX11_move_45 : decode cX11_move 45 = .ok (.iload_n 3, 1) := by decide +kernel
theorem dX11_move_46 : decode cX11_move 46 = .ok (.iconst 3, 1) := by decide +kernel
theorem dX11_move_47 : decode cX11_move 47 = .ok (.if_icmp .ge 20, 3) := by decide +kernel
theorem dX11_move_50 : decode cX11_move 50 = .ok (.aload_n 0, 1) := by decide +kernel
theorem dX11_move_51 : decode cX11_move 51 = .ok (.getfield 18, 3) := by decide +kernel
theorem dX11_move_54 : decode cX11_move 54 = .ok (.iload_n 1, 1) := by decide +kernel
theorem dX11_move_55 : decode cX11_move 55 = .ok (.aaload, 1) := by decide +kernel
theorem dX11_move_56 : decode cX11_move 56 = .ok (.iload_n 3, 1) := by decide +kernel
theorem dX11_move_57 : decode cX11_move 57 = .ok (.aload_n 2, 1) := by decide +kernel
theorem dX11_move_58 : decode cX11_move 58 = .ok (.iload_n 3, 1) := by decide +kernel
theorem dX11_move_59 : decode cX11_move 59 = .ok (.iaload, 1) := by decide +kernel
theorem dX11_move_60 : decode cX11_move 60 = .ok (.iastore, 1) := by decide +kernel
theorem dX11_move_61 : decode cX11_move 61 = .ok (.iinc 3 1, 3) := by decide +kernel
theorem dX11_move_64 : decode cX11_move 64 = .ok (.goto (-19), 3) := by decide +kernel
theorem dX11_move_67 : decode cX11_move 67 = .ok (.iconst 0, 1) := by decide +kernel
theorem dX11_move_68 : decode cX11_move 68 = .ok (.istore_n 3, 1) := by decide +kernel
theorem dX11_move_69 : decode cX11_move 69 = .ok (.iconst 0, 1) := by decide +kernel
theorem dX11_move_70 : decode cX11_move 70 = .ok (.istore 4, 2) := by decide +kernel
theorem dX11_move_72 : decode cX11_move 72 = .ok (.iload 4, 2) := by decide +kernel
theorem dX11_move_74 : decode cX11_move 74 = .ok (.aload_n 0, 1) := by decide +kernel
theorem dX11_move_75 : decode cX11_move 75 = .ok (.getfield 82, 3) := by decide +kernel
theorem dX11_move_78 : decode cX11_move 78 = .ok (.if_icmp .ge 46, 3) := by decide +kernel
theorem dX11_move_81 : decode cX11_move 81 = .ok (.iconst 0, 1) := by decide +kernel
theorem dX11_move_82 : decode cX11_move 82 = .ok (.istore 5, 2) := by decide +kernel
theorem dX11_move_84 : decode cX11_move 84 = .ok (.iload 5, 2) := by decide +kernel
theorem dX11_move_86 : decode cX11_move 86 = .ok (.iconst 3, 1) := by decide +kernel
theorem dX11_move_87 : decode cX11_move 87 = .ok (.if_icmp .ge 31, 3) := by decide +kernel
theorem dX11_move_90 : decode cX11_move 90 = .ok (.iload_n 3, 1) := by decide +kernel
theorem dX11_move_91 : decode cX11_move 91 = .ok (.aload_n 0, 1) := by decide +kernel
theorem dX11_move_92 : decode cX11_move 92 = .ok (.getfield 21, 3) := by decide +kernel
theorem dX11_move_95 : decode cX11_move 95 = .ok (.iload 4, 2) := by decide +kernel
theorem dX11_move_97 : decode cX11_move 97 = .ok (.aaload, 1) := by decide +kernel
theorem dX11_move_98 : decode cX11_move 98 = .ok (.iload 5, 2) := by decide +kernel
theorem dX11_move_100 : decode cX11_move 100 = .ok (.iaload, 1) := by decide +kernel
theorem dX11_move_101 : decode cX11_move 101 = .ok (.iload_n 1, 1) := by decide +kernel
theorem dX11_move_102 : decode cX11_move 102 = .ok (.if_icmp .ne 7, 3) := by decide +kernel
theorem dX11_move_105 : decode cX11_move 105 = .ok (.iconst 1, 1) := by decide +kernel
theorem dX11_move_106 : decode cX11_move 106 = .ok (.goto 4, 3) := by decide +kernel
theorem dX11_move_109 : decode cX11_move 109 = .ok (.iconst 0, 1) := by decide +kernel
theorem dX11_move_110 : decode cX11_move 110 = .ok (.iadd, 1) := by decide +kernel
theorem dX11_move_111 : decode cX11_move 111 = .ok (.istore_n 3, 1) := by decide +kernel
theorem dX11_move_112 : decode cX11_move 112 = .ok (.iinc 5 1, 3) := by decide +kernel
theorem dX11_move_115 : decode cX11_move 115 = .ok (.goto (-31), 3) := by decide +kernel
theorem dX11_move_118 : decode cX11_move 118 = .ok (.iinc 4 1, 3) := by decide +kernel
theorem dX11_move_121 : decode cX11_move 121 = .ok (.goto (-49), 3) := by decide +kernel
theorem dX11_move_124 : decode cX11_move 124 = .ok (.aload_n 0, 1) := by decide +kernel
theorem dX11_move_125 : decode cX11_move 125 = .ok (.getfield 10, 3) := by decide +kernel
theorem dX11_move_128 : decode cX11_move 128 = .ok (.iload_n 1, 1) := by decide +kernel
theorem dX11_move_129 : decode cX11_move 129 = .ok (.aload_n 2, 1) := by decide +kernel
theorem dX11_move_130 : decode cX11_move 130 = .ok (.iconst 0, 1) := by decide +kernel
theorem dX11_move_131 : decode cX11_move 131 = .ok (.iaload, 1) := by decide +kernel
theorem dX11_move_132 : decode cX11_move 132 = .ok (.aload_n 2, 1) := by decide +kernel
theorem dX11_move_133 : decode cX11_move 133 = .ok (.iconst 1, 1) := by decide +kernel
theorem dX11_move_134 : decode cX11_move 134 = .ok (.iaload, 1) := by decide +kernel
theorem dX11_move_135 : decode cX11_move 135 = .ok (.aload_n 2, 1) := by decide +kernel
theorem dX11_move_136 : decode cX11_move 136 = .ok (.iconst 2, 1) := by decide +kernel
theorem dX11_move_137 : decode cX11_move 137 = .ok (.iaload, 1) := by decide +kernel
theorem dX11_move_138 : decode cX11_move 138 = .ok (.invokevirtual 122, 3) := by decide +kernel
theorem dX11_move_141 : decode cX11_move 141 = .ok (.iload_n 3, 1) := by decide +kernel
theorem dX11_move_142 : decode cX11_move 142 = .ok (.if_icmp .ne 7, 3) := by decide +kernel
theorem dX11_move_145 : decode cX11_move 145 = .ok (.iconst 1, 1) := by decide +kernel
theorem dX11_move_146 : decode cX11_move 146 = .ok (.goto 4, 3) := by decide +kernel
theorem dX11_move_149 : decode cX11_move 149 = .ok (.iconst 0, 1) := by decide +kernel
theorem dX11_move_150 : decode cX11_move 150 = .ok (.ireturn, 1) := by decide +kernel
def st_X11_move_45 (F : Nat) (L9 : Nat) (xs9 : Nat → Int32) (a20 : Int32) (rec : Int32 → GM → Option GM) (a21 : Int32) (M : GM) : Option GM := if (3 : Int32) ≤ a21 then (some M) else (grd (gIn a20 (gN 123)) (bnd (gR 123 a20.toNatClampNeg) (fun o23 => grd (gIn a21 (gN 239)) (grd (gIn a21 (gN o23)) (bnd (sI M o23 a21.toNatClampNeg (gI M 239 a21.toNatClampNeg)) (fun M28 => bnd (a21 + (1 : Int32)) (fun v30 => rec v30 M28)))))))
def lp_X11_move_45 (F : Nat) (L9 : Nat) (xs9 : Nat → Int32) (a20 : Int32) : Nat → Int32 → GM → Option GM
  | 0 => fun _ _ => none
  | f + 1 => fun a21 M => st_X11_move_45 F L9 xs9 a20 (lp_X11_move_45 F L9 xs9 a20 f) a21 M
set_option maxHeartbeats 4000000 in
set_option maxRecDepth 100000 in
theorem lw_X11_move_45 {x0 : GX} {ke : Nat} {a20 : Int32}  {F : Nat} {L9 : Nat} {xs9 : Nat → Int32} {r9 : GM} (hsc0 : gsl (xz x0) = L9 ∧ gsx (xz x0) = xs9) (hE : ∀ (x9 : GX)  (M9 : GM), XR x0 x9 → GC x9 cX11_move 6 RX11 8 → XB x9 ke → TZ (xz x9) [3] → r9 = M9 → WG x9 M9 [(0, .ref (gad (xz x9) 122)), (1, .int a20), (2, .ref (gad (xz x9) 239))] 67 []) : ∀ (f : Nat) (x : GX) (a21 : Int32) (M : GM), XR x0 x → GC x cX11_move 6 RX11 8 → XB x (f * 0 + ke) → TZ (xz x) [3] → lp_X11_move_45 F L9 xs9 a20 f a21 M = some r9 → WG x M [(0, .ref (gad (xz x) 122)), (1, .int a20), (2, .ref (gad (xz x) 239)), (3, .int a21)] 45 [] := by
  intro f
  induction f with
  | zero => intro x a21 M hx X B hz h; cases h
  | succ f ih =>
    intro x a21 M hx X B hz h
    have hrec := ih
    have h : st_X11_move_45 F L9 xs9 a20 (lp_X11_move_45 F L9 xs9 a20 f) a21 M = some r9 := h
    generalize lp_X11_move_45 F L9 xs9 a20 f = rec at h hrec
    unfold st_X11_move_45 at h
    have hsc := hx.sc hsc0
    have hk : ke ≤ f * 0 + ke := Nat.le_add_left _ _
    refine g_iload_n X (j := 3) dX11_move_45 rfl rfl ?_
    refine g_iconst X (v := 3) dX11_move_46 (by decide) ?_
    refine g_icmp_ge X (tgt := 67) dX11_move_47 (by decide) (fun hb => ?_) (fun hb => ?_)
    · have h := ite_t hb h
      refine g_lv [0, 1, 2] rfl ?_
      exact hE x M hx X (B.le (by omega)) hz (Option.some.inj h).symm
    · have h := ite_f hb h
      refine g_aload_n X (j := 0) dX11_move_50 rfl rfl ?_
      refine gf_X11_18 X gT_c122 dX11_move_51 ?_
      refine g_iload_n X (j := 1) dX11_move_54 rfl rfl ?_
      obtain ⟨hg22, h⟩ := grd_e h
      refine g_aald_28 X gT_c123 hg22 dX11_move_55 ?_
      refine g_topr (fun o23 e24 => ?_)
      have h := bnd_e e24 h
      have k25 : gT o23 = 20 := by rw [e24]; exact gR_28 gT_c123 (gIn_lt hg22)
      refine g_iload_n X (j := 3) dX11_move_56 rfl rfl ?_
      refine g_aload_n X (j := 2) dX11_move_57 rfl rfl ?_
      refine g_iload_n X (j := 3) dX11_move_58 rfl rfl ?_
      obtain ⟨hg26, h⟩ := grd_e h
      refine t_iald X (hz.mem (t := 3) (by decide)) gT_c239 hg26 dX11_move_59 ?_
      obtain ⟨hg27, h⟩ := grd_e h
      refine g_iast X k25 hg27 dX11_move_60 ?_
      refine g_mem (fun M28 e29 => ?_)
      have h := bnd_e e29 h
      refine g_iinc X (j := 3) (w := a21 + (1 : Int32)) (lv' := [(0, .ref (gad (xz x) 122)), (1, .int a20), (2, .ref (gad (xz x) 239))]) dX11_move_61 rfl (by rw [ii_1]) (by decide) (fun _ => rfl) (fun v30 e31 => ?_)
      have h := bnd_e e31 h
      refine g_goto X (tgt := 45) dX11_move_64 (by decide) ?_
      refine g_lv [1, 2, 3, 0] rfl ?_
      exact hrec x v30 M28 hx X (B.le (by omega)) hz h
def st_X11_move_84 (F : Nat) (L9 : Nat) (xs9 : Nat → Int32) (a43 : Int32) (a45 : Int32) (rec : Int32 → Int32 → GM → Option (Int32 × GM)) (a44 : Int32) (a46 : Int32) (M : GM) : Option (Int32 × GM) := if (3 : Int32) ≤ a46 then (some (a44, M)) else (grd (gIn a45 (gN 124)) (bnd (gR 124 a45.toNatClampNeg) (fun o48 => grd (gIn a46 (gN o48)) (if (gI M o48 a46.toNatClampNeg) = a43 then (bnd (a44 + (1 : Int32)) (fun v56 => bnd (a46 + (1 : Int32)) (fun v58 => rec v56 v58 M))) else (bnd (a44 + (0 : Int32)) (fun v52 => bnd (a46 + (1 : Int32)) (fun v54 => rec v52 v54 M)))))))
def lp_X11_move_84 (F : Nat) (L9 : Nat) (xs9 : Nat → Int32) (a43 : Int32) (a45 : Int32) : Nat → Int32 → Int32 → GM → Option (Int32 × GM)
  | 0 => fun _ _ _ => none
  | f + 1 => fun a44 a46 M => st_X11_move_84 F L9 xs9 a43 a45 (lp_X11_move_84 F L9 xs9 a43 a45 f) a44 a46 M
set_option maxHeartbeats 4000000 in
set_option maxRecDepth 100000 in
theorem lw_X11_move_84 {x0 : GX} {ke : Nat} {a43 : Int32} {a45 : Int32}  {F : Nat} {L9 : Nat} {xs9 : Nat → Int32} {r9 : (Int32 × GM)} (hsc0 : gsl (xz x0) = L9 ∧ gsx (xz x0) = xs9) (hE : ∀ (x9 : GX) (x3_9 : Int32) (M9 : GM), XR x0 x9 → GC x9 cX11_move 6 RX11 8 → XB x9 ke → TZ (xz x9) [3] → r9 = (x3_9, M9) → WG x9 M9 [(0, .ref (gad (xz x9) 122)), (1, .int a43), (2, .ref (gad (xz x9) 239)), (3, .int x3_9), (4, .int a45)] 118 []) : ∀ (f : Nat) (x : GX) (a44 : Int32) (a46 : Int32) (M : GM), XR x0 x → GC x cX11_move 6 RX11 8 → XB x (f * 0 + ke) → TZ (xz x) [3] → lp_X11_move_84 F L9 xs9 a43 a45 f a44 a46 M = some r9 → WG x M [(0, .ref (gad (xz x) 122)), (1, .int a43), (2, .ref (gad (xz x) 239)), (3, .int a44), (4, .int a45), (5, .int a46)] 84 [] := by
  intro f
  induction f with
  | zero => intro x a44 a46 M hx X B hz h; cases h
  | succ f ih =>
    intro x a44 a46 M hx X B hz h
    have hrec := ih
    have h : st_X11_move_84 F L9 xs9 a43 a45 (lp_X11_move_84 F L9 xs9 a43 a45 f) a44 a46 M = some r9 := h
    generalize lp_X11_move_84 F L9 xs9 a43 a45 f = rec at h hrec
    unfold st_X11_move_84 at h
    have hsc := hx.sc hsc0
    have hk : ke ≤ f * 0 + ke := Nat.le_add_left _ _
    refine g_iload X (j := 5) dX11_move_84 rfl ?_
    refine g_iconst X (v := 3) dX11_move_86 (by decide) ?_
    refine g_icmp_ge X (tgt := 118) dX11_move_87 (by decide) (fun hb => ?_) (fun hb => ?_)
    · have h := ite_t hb h
      refine g_lv [0, 1, 2, 3, 4] rfl ?_
      exact hE x a44 M hx X (B.le (by omega)) hz (Option.some.inj h).symm
    · have h := ite_f hb h
      refine g_iload_n X (j := 3) dX11_move_90 rfl rfl ?_
      refine g_aload_n X (j := 0) dX11_move_91 rfl rfl ?_
      refine gf_X11_21 X gT_c122 dX11_move_92 ?_
      refine g_iload X (j := 4) dX11_move_95 rfl ?_
      obtain ⟨hg47, h⟩ := grd_e h
      refine g_aald_28 X gT_c124 hg47 dX11_move_97 ?_
      refine g_topr (fun o48 e49 => ?_)
      have h := bnd_e e49 h
      have k50 : gT o48 = 20 := by rw [e49]; exact gR_28 gT_c124 (gIn_lt hg47)
      refine g_iload X (j := 5) dX11_move_98 rfl ?_
      obtain ⟨hg51, h⟩ := grd_e h
      refine g_iald X k50 hg51 dX11_move_100 ?_
      refine g_iload_n X (j := 1) dX11_move_101 rfl rfl ?_
      refine g_icmp_ne X (tgt := 109) dX11_move_102 (by decide) (fun hb => ?_) (fun hb => ?_)
      · have h := ite_f hb h
        refine g_iconst X (v := 0) dX11_move_109 (by decide) ?_
        refine g_iadd X dX11_move_110 ?_
        refine g_topi (fun v52 e53 => ?_)
        have h := bnd_e e53 h
        refine g_istore_n X (lv' := [(3, .int v52), (0, .ref (gad (xz x) 122)), (1, .int a43), (2, .ref (gad (xz x) 239)), (4, .int a45), (5, .int a46)]) dX11_move_111 rfl (by decide) rfl ?_
        refine g_iinc X (j := 5) (w := a46 + (1 : Int32)) (lv' := [(3, .int v52), (0, .ref (gad (xz x) 122)), (1, .int a43), (2, .ref (gad (xz x) 239)), (4, .int a45)]) dX11_move_112 rfl (by rw [ii_1]) (by decide) (fun _ => rfl) (fun v54 e55 => ?_)
        have h := bnd_e e55 h
        refine g_goto X (tgt := 84) dX11_move_115 (by decide) ?_
        refine g_lv [2, 3, 4, 1, 5, 0] rfl ?_
        exact hrec x v52 v54 M hx X (B.le (by omega)) hz h
      · have h := ite_t hb h
        refine g_iconst X (v := 1) dX11_move_105 (by decide) ?_
        refine g_goto X (tgt := 110) dX11_move_106 (by decide) ?_
        refine g_iadd X dX11_move_110 ?_
        refine g_topi (fun v56 e57 => ?_)
        have h := bnd_e e57 h
        refine g_istore_n X (lv' := [(3, .int v56), (0, .ref (gad (xz x) 122)), (1, .int a43), (2, .ref (gad (xz x) 239)), (4, .int a45), (5, .int a46)]) dX11_move_111 rfl (by decide) rfl ?_
        refine g_iinc X (j := 5) (w := a46 + (1 : Int32)) (lv' := [(3, .int v56), (0, .ref (gad (xz x) 122)), (1, .int a43), (2, .ref (gad (xz x) 239)), (4, .int a45)]) dX11_move_112 rfl (by rw [ii_1]) (by decide) (fun _ => rfl) (fun v58 e59 => ?_)
        have h := bnd_e e59 h
        refine g_goto X (tgt := 84) dX11_move_115 (by decide) ?_
        refine g_lv [2, 3, 4, 1, 5, 0] rfl ?_
        exact hrec x v56 v58 M hx X (B.le (by omega)) hz h
def st_X11_move_72 (F : Nat) (L9 : Nat) (xs9 : Nat → Int32) (a38 : Int32) (rec : Int32 → Int32 → GM → Option (Int32 × GM)) (a39 : Int32) (a40 : Int32) (M : GM) : Option (Int32 × GM) := if (gI M 122 4) ≤ a40 then (some (a39, M)) else (bnd (0 : Int32) (fun v41 => bndO (lp_X11_move_84 F L9 xs9 a38 a40 F a39 v41 M) (fun (v60, M61) => bnd (a40 + (1 : Int32)) (fun v63 => rec v60 v63 M61))))
def lp_X11_move_72 (F : Nat) (L9 : Nat) (xs9 : Nat → Int32) (a38 : Int32) : Nat → Int32 → Int32 → GM → Option (Int32 × GM)
  | 0 => fun _ _ _ => none
  | f + 1 => fun a39 a40 M => st_X11_move_72 F L9 xs9 a38 (lp_X11_move_72 F L9 xs9 a38 f) a39 a40 M
set_option maxHeartbeats 4000000 in
set_option maxRecDepth 100000 in
theorem lw_X11_move_72 {x0 : GX} {ke : Nat} {a38 : Int32}  {F : Nat} {L9 : Nat} {xs9 : Nat → Int32} {r9 : (Int32 × GM)} (hsc0 : gsl (xz x0) = L9 ∧ gsx (xz x0) = xs9) (hE : ∀ (x9 : GX) (x3_9 : Int32) (M9 : GM), XR x0 x9 → GC x9 cX11_move 6 RX11 8 → XB x9 ke → TZ (xz x9) [3] → r9 = (x3_9, M9) → WG x9 M9 [(0, .ref (gad (xz x9) 122)), (1, .int a38), (2, .ref (gad (xz x9) 239)), (3, .int x3_9)] 124 []) : ∀ (f : Nat) (x : GX) (a39 : Int32) (a40 : Int32) (M : GM), XR x0 x → GC x cX11_move 6 RX11 8 → XB x (f * 0 + ke) → TZ (xz x) [3] → lp_X11_move_72 F L9 xs9 a38 f a39 a40 M = some r9 → WG x M [(0, .ref (gad (xz x) 122)), (1, .int a38), (2, .ref (gad (xz x) 239)), (3, .int a39), (4, .int a40)] 72 [] := by
  intro f
  induction f with
  | zero => intro x a39 a40 M hx X B hz h; cases h
  | succ f ih =>
    intro x a39 a40 M hx X B hz h
    have hrec := ih
    have h : st_X11_move_72 F L9 xs9 a38 (lp_X11_move_72 F L9 xs9 a38 f) a39 a40 M = some r9 := h
    generalize lp_X11_move_72 F L9 xs9 a38 f = rec at h hrec
    unfold st_X11_move_72 at h
    have hsc := hx.sc hsc0
    have hk : ke ≤ f * 0 + ke := Nat.le_add_left _ _
    refine g_iload X (j := 4) dX11_move_72 rfl ?_
    refine g_aload_n X (j := 0) dX11_move_74 rfl rfl ?_
    refine gf_X11_82 X gT_c122 dX11_move_75 ?_
    refine g_icmp_ge X (tgt := 124) dX11_move_78 (by decide) (fun hb => ?_) (fun hb => ?_)
    · have h := ite_t hb h
      refine g_lv [0, 1, 2, 3] rfl ?_
      exact hE x a39 M hx X (B.le (by omega)) hz (Option.some.inj h).symm
    · have h := ite_f hb h
      refine g_iconst X (v := 0) dX11_move_81 (by decide) ?_
      refine g_topi (fun v41 e42 => ?_)
      have h := bnd_e e42 h
      refine g_istore X (lv' := [(5, .int v41), (0, .ref (gad (xz x) 122)), (1, .int a38), (2, .ref (gad (xz x) 239)), (3, .int a39), (4, .int a40)]) dX11_move_82 (by decide) rfl ?_
      refine g_lv [1, 2, 3, 4, 5, 0] rfl ?_
      obtain ⟨⟨v60, M61⟩, hl62, h⟩ := bndO_e h
      refine lw_X11_move_84 (ke := 0 + (f * 0 + ke))  hsc0 (fun x v60_ M61_ hx X B hz e9 => ?_) F x a39 v41 M hx X (B.le (by omega)) hz hl62
      cases e9
      have hsc := hx.sc hsc0
      refine g_iinc X (j := 4) (w := a40 + (1 : Int32)) (lv' := [(0, .ref (gad (xz x) 122)), (1, .int a38), (2, .ref (gad (xz x) 239)), (3, .int v60)]) dX11_move_118 rfl (by rw [ii_1]) (by decide) (fun _ => rfl) (fun v63 e64 => ?_)
      have h := bnd_e e64 h
      refine g_goto X (tgt := 72) dX11_move_121 (by decide) ?_
      refine g_lv [1, 2, 3, 4, 0] rfl ?_
      exact hrec x v60 v63 M61 hx X (B.le (by omega)) hz h
def f_X11_move (F : Nat) (L9 : Nat) (xs9 : Nat → Int32) (i0 : Int32) (M : GM) : Option (Int32 × GM) := bnd (sC M 239 0 3 (fun _ => 0)) (fun M1 => bndO (f_X11_between F L9 xs9 ((-400) : Int32) (400 : Int32) M1) (fun (v4, M5) => bnd (sI M5 239 0 v4) (fun M6 => bndO (f_X11_between F L9 xs9 ((-300) : Int32) (300 : Int32) M6) (fun (v9, M10) => bnd (sI M10 239 1 v9) (fun M11 => bndO (f_X11_between F L9 xs9 ((-600) : Int32) (700 : Int32) M11) (fun (v14, M15) => bnd (sI M15 239 2 v14) (fun M16 => bnd (0 : Int32) (fun v18 => bndO (lp_X11_move_45 F L9 xs9 i0 F v18 M16) (fun M32 => bnd (0 : Int32) (fun v34 => bnd (0 : Int32) (fun v36 => bndO (lp_X11_move_72 F L9 xs9 i0 F v34 v36 M32) (fun (v65, M66) => bndT (f_X10_moveCorner F i0 (gI M66 239 0) (gI M66 239 1) (gI M66 239 2) M66) (fun _ => none) (fun (v69, M70) => if v69 = v65 then (some ((1 : Int32), M70)) else (none))))))))))))))
set_option maxHeartbeats 4000000 in
set_option maxRecDepth 100000 in
theorem w_X11_move {x0 x : GX} (hx : XR x0 x) (X : GC x cX11_move 6 RX11 8) (B : XB x 1) (hz : TZ (xz x) []) {i0 : Int32}  {F : Nat} {L9 : Nat} {xs9 : Nat → Int32} {M : GM} {r9 : (Int32 × GM)} (hsc0 : gsl (xz x0) = L9 ∧ gsx (xz x0) = xs9) (hR : ∀ (x9 : GX) (v9 : Int32) (M9 : GM) (lv9 : List (Nat × Value)) (pc9 : Nat), XR x0 x9 → GC x9 cX11_move 6 RX11 8 → XB x9 0 → TZ (xz x9) [] → r9 = (v9, M9) → (v9 = 0 ∨ v9 = 1) → decode cX11_move pc9 = .ok (.ireturn, 1) → WG x9 M9 lv9 pc9 [.int v9]) (h : f_X11_move F L9 xs9 i0 M = some r9) : WG x M [(0, .ref (gad (xz x) 122)), (1, .int i0)] 0 [] := by
  unfold f_X11_move at h
  have hsc := hx.sc hsc0
  refine g_iconst X (v := 3) dX11_move_0 (by decide) ?_
  refine g_newTi X hz (t := 3) (g := 239) (N := 3) rfl (by decide) (by decide) (by decide +kernel) (by decide +kernel) (by decide) tn_3 (by decide) (k := 0) (B.le (by omega)) q_ac20 dX11_move_1 (fun x hxn X B hz ad => ?_)
  rw [ad 122 (by decide)]
  have hx := hx.tr hxn
  have hsc := hx.sc hsc0
  refine g_mem (fun M1 e2 => ?_)
  have h := bnd_e e2 h
  refine g_dup X dX11_move_3 rfl ?_
  refine g_iconst X (v := 0) dX11_move_4 (by decide) ?_
  refine g_aload_n X (j := 0) dX11_move_5 rfl rfl ?_
  refine g_sipush X (v := (-400)) dX11_move_6 (by decide) ?_
  refine g_sipush X (v := 400) dX11_move_9 (by decide) ?_
  obtain ⟨⟨v4, M5⟩, hc3, h⟩ := bndO_e h
  refine gc_X11_68 X gT_c122 (ct_X11_between X.htr hsc hc3) (by decide) (Nat.le_of_ble_eq_true rfl) dX11_move_12 ?_
  refine t_iast X hz (hz.mem (t := 3) (by decide)) gT_c239 (by decide +kernel) dX11_move_15 ?_
  rw [tn_0]
  refine g_mem (fun M6 e7 => ?_)
  have h := bnd_e e7 h
  refine g_dup X dX11_move_16 rfl ?_
  refine g_iconst X (v := 1) dX11_move_17 (by decide) ?_
  refine g_aload_n X (j := 0) dX11_move_18 rfl rfl ?_
  refine g_sipush X (v := (-300)) dX11_move_19 (by decide) ?_
  refine g_sipush X (v := 300) dX11_move_22 (by decide) ?_
  obtain ⟨⟨v9, M10⟩, hc8, h⟩ := bndO_e h
  refine gc_X11_68 X gT_c122 (ct_X11_between X.htr hsc hc8) (by decide) (Nat.le_of_ble_eq_true rfl) dX11_move_25 ?_
  refine t_iast X hz (hz.mem (t := 3) (by decide)) gT_c239 (by decide +kernel) dX11_move_28 ?_
  rw [tn_1]
  refine g_mem (fun M11 e12 => ?_)
  have h := bnd_e e12 h
  refine g_dup X dX11_move_29 rfl ?_
  refine g_iconst X (v := 2) dX11_move_30 (by decide) ?_
  refine g_aload_n X (j := 0) dX11_move_31 rfl rfl ?_
  refine g_sipush X (v := (-600)) dX11_move_32 (by decide) ?_
  refine g_sipush X (v := 700) dX11_move_35 (by decide) ?_
  obtain ⟨⟨v14, M15⟩, hc13, h⟩ := bndO_e h
  refine gc_X11_68 X gT_c122 (ct_X11_between X.htr hsc hc13) (by decide) (Nat.le_of_ble_eq_true rfl) dX11_move_38 ?_
  refine t_iast X hz (hz.mem (t := 3) (by decide)) gT_c239 (by decide +kernel) dX11_move_41 ?_
  rw [tn_2]
  refine g_mem (fun M16 e17 => ?_)
  have h := bnd_e e17 h
  refine g_astore_n X (lv' := [(2, .ref (gad (xz x) 239)), (0, .ref (gad (xz x) 122)), (1, .int i0)]) dX11_move_42 rfl (by decide) rfl ?_
  refine g_iconst X (v := 0) dX11_move_43 (by decide) ?_
  refine g_topi (fun v18 e19 => ?_)
  have h := bnd_e e19 h
  refine g_istore_n X (lv' := [(3, .int v18), (2, .ref (gad (xz x) 239)), (0, .ref (gad (xz x) 122)), (1, .int i0)]) dX11_move_44 rfl (by decide) rfl ?_
  refine g_lv [2, 3, 1, 0] rfl ?_
  obtain ⟨M32, hl33, h⟩ := bndO_e h
  refine lw_X11_move_45 (ke := 0)  hsc0 (fun x M32_ hx X B hz e9 => ?_) F x v18 M16 hx X (B.le (by omega)) hz hl33
  cases e9
  have hsc := hx.sc hsc0
  refine g_iconst X (v := 0) dX11_move_67 (by decide) ?_
  refine g_topi (fun v34 e35 => ?_)
  have h := bnd_e e35 h
  refine g_istore_n X (lv' := [(3, .int v34), (0, .ref (gad (xz x) 122)), (1, .int i0), (2, .ref (gad (xz x) 239))]) dX11_move_68 rfl (by decide) rfl ?_
  refine g_iconst X (v := 0) dX11_move_69 (by decide) ?_
  refine g_topi (fun v36 e37 => ?_)
  have h := bnd_e e37 h
  refine g_istore X (lv' := [(4, .int v36), (3, .int v34), (0, .ref (gad (xz x) 122)), (1, .int i0), (2, .ref (gad (xz x) 239))]) dX11_move_70 (by decide) rfl ?_
  refine g_lv [2, 3, 4, 1, 0] rfl ?_
  obtain ⟨⟨v65, M66⟩, hl67, h⟩ := bndO_e h
  refine lw_X11_move_72 (ke := 0)  hsc0 (fun x v65_ M66_ hx X B hz e9 => ?_) F x v34 v36 M32 hx X (B.le (by omega)) hz hl67
  cases e9
  have hsc := hx.sc hsc0
  refine g_aload_n X (j := 0) dX11_move_124 rfl rfl ?_
  refine gf_X11_10 X gT_c122 dX11_move_125 ?_
  refine g_iload_n X (j := 1) dX11_move_128 rfl rfl ?_
  refine g_aload_n X (j := 2) dX11_move_129 rfl rfl ?_
  refine g_iconst X (v := 0) dX11_move_130 (by decide) ?_
  refine t_iald X (hz.mem (t := 3) (by decide)) gT_c239 (by decide +kernel) dX11_move_131 ?_
  rw [tn_0]
  refine g_aload_n X (j := 2) dX11_move_132 rfl rfl ?_
  refine g_iconst X (v := 1) dX11_move_133 (by decide) ?_
  refine t_iald X (hz.mem (t := 3) (by decide)) gT_c239 (by decide +kernel) dX11_move_134 ?_
  rw [tn_1]
  refine g_aload_n X (j := 2) dX11_move_135 rfl rfl ?_
  refine g_iconst X (v := 2) dX11_move_136 (by decide) ?_
  refine t_iald X (hz.mem (t := 3) (by decide)) gT_c239 (by decide +kernel) dX11_move_137 ?_
  rw [tn_2]
  rcases bndT_e h with ⟨_, hc68, h⟩ | ⟨⟨v69, M70⟩, hc68, h⟩
  · cases h
  refine gc_X11_122 X gT_c0 (ct_X10_moveCorner X.htr  hc68) (by decide) (Nat.le_of_ble_eq_true rfl) dX11_move_138 ?_
  refine g_iload_n X (j := 3) dX11_move_141 rfl rfl ?_
  refine g_icmp_ne X (tgt := 149) dX11_move_142 (by decide) (fun hb => ?_) (fun hb => ?_)
  · have h := ite_f hb h
    refine g_iconst X (v := 0) dX11_move_149 (by decide) ?_
    cases h
  · have h := ite_t hb h
    refine g_iconst X (v := 1) dX11_move_145 (by decide) ?_
    refine g_goto X (tgt := 150) dX11_move_146 (by decide) ?_
    refine g_drop X hz (fun x hxn X hB hz ad => ?_)
    have B := hB _ B
    rw [ad 122]
    rw [ad 239]
    have hx := hx.tr hxn
    have hsc := hx.sc hsc0
    exact hR x (1 : Int32) M70 _ _ hx X (B.le (by omega)) hz (Option.some.inj h).symm (Or.inr rfl) dX11_move_150
theorem ct_X11_move {l : Launch} {z : GZ} (htr : l.stackTraces = false) {L9 : Nat} {xs9 : Nat → Int32} (hsc : gsl z = L9 ∧ gsx z = xs9) {i0 : Int32}  {M : GM} {F : Nat} {v : Int32} {M1 : GM} (h : f_X11_move F L9 xs9 i0 M = some (v, M1)) : aMet l z yX11_move cX11_move 6 8 [.ref (gad z 122), .int i0] M v M1 1 := aMet_of (by decide +kernel) (Nat.le_of_ble_eq_true rfl) htr (fun x X B hz ez el hR => by subst ez; subst el; exact w_X11_move (XR.rf x) X B hz  hsc (fun x9 v9 M9 lv9 pc9 hx9 X9 B9 hz9 e9 z9 d9 => by cases e9; exact hR x9 hx9 X9 B9 hz9 lv9 pc9 z9 d9) h)
theorem gc_X11_93 {x : GX} {cc : ByteArray} {nL d pc : Nat} {M : GM} {lv : List (Nat × Value)} {st : List Value} (X : GC x cc nL RX11 d) (hz : TZ (xz x) []) {k : Nat} (B : XB x (k + 1))  {M1 : GM} {r : Int32} (ht : gT 122 = 11) (hM : aMet (xl x) (xz x) yX11_addCorner cX11_addCorner 2 8 [.ref (gad (xz x) 122)] M r M1 1) (hd : 9 ≤ d) (hsum : (st.map fun v => v.category).sum ≤ 8) (dec : decode cc pc = .ok (.invokevirtual 93, 3)) (go : ∀ x' : GX, XR x x' → GC x' cc nL RX11 d → XB x' k → TZ (xz x') [] → WG x' M1 lv (pc + 3) (.int r :: st)) : WG x M lv pc (.ref (gad (xz x) 122) :: st) := g_callA X hz (n := 0) (As := []) (rest := st) B hM ht (by decide) (gE_11 ht) rfl q_891 q_892 q_893 q_16 q_894 (by decide +kernel) rfl hd (by decide) rfl hsum dec go
theorem gc_X11_96 {x : GX} {cc : ByteArray} {nL d pc : Nat} {M : GM} {lv : List (Nat × Value)} {st : List Value} (X : GC x cc nL RX11 d) (hz : TZ (xz x) []) {k : Nat} (B : XB x (k + 2))  {M1 : GM} {r : Int32} (ht : gT 122 = 11) (hM : aMet (xl x) (xz x) yX11_addPane cX11_addPane 6 8 [.ref (gad (xz x) 122)] M r M1 2) (hd : 9 ≤ d) (hsum : (st.map fun v => v.category).sum ≤ 8) (dec : decode cc pc = .ok (.invokevirtual 96, 3)) (go : ∀ x' : GX, XR x x' → GC x' cc nL RX11 d → XB x' k → TZ (xz x') [] → WG x' M1 lv (pc + 3) (.int r :: st)) : WG x M lv pc (.ref (gad (xz x) 122) :: st) := g_callA X hz (n := 0) (As := []) (rest := st) B hM ht (by decide) (gE_11 ht) rfl q_930 q_931 q_932 q_16 q_933 (by decide +kernel) rfl hd (by decide) rfl hsum dec go
theorem gc_X11_98 {x : GX} {cc : ByteArray} {nL d pc : Nat} {M : GM} {lv : List (Nat × Value)} {st : List Value} (X : GC x cc nL RX11 d)  {M1 : GM} {r : Int32} (ht : gT 122 = 11) (hM : gMet (xl x) (xz x) yX11_colourPattern cX11_colourPattern 5 (some .boolean) 8 [.ref (gad (xz x) 122)] M (some (.int r)) M1) (hd : 9 ≤ d) (hsum : (st.map fun v => v.category).sum ≤ 8) (dec : decode cc pc = .ok (.invokevirtual 98, 3)) (go : WG x M1 lv (pc + 3) (.int r :: st)) : WG x M lv pc (.ref (gad (xz x) 122) :: st) := g_callV X (n := 0) (As := []) (rest := st) hM ht (by decide) (gE_11 ht) rfl q_945 q_946 q_947 q_16 q_948 (by decide +kernel) rfl hd (by decide) rfl hsum dec go
theorem dX11_build_0 : decode cX11_build 0 = .ok (.iconst 0, 1) := by decide +kernel
theorem dX11_build_1 : decode cX11_build 1 = .ok (.istore_n 3, 1) := by decide +kernel
theorem dX11_build_2 : decode cX11_build 2 = .ok (.iload_n 3, 1) := by decide +kernel
theorem dX11_build_3 : decode cX11_build 3 = .ok (.iload_n 1, 1) := by decide +kernel
theorem dX11_build_4 : decode cX11_build 4 = .ok (.if_icmp .ge 18, 3) := by decide +kernel
theorem dX11_build_7 : decode cX11_build 7 = .ok (.aload_n 0, 1) := by decide +kernel
theorem dX11_build_8 : decode cX11_build 8 = .ok (.invokevirtual 93, 3) := by decide +kernel
theorem dX11_build_11 : decode cX11_build 11 = .ok (.ifCond .ne 5, 3) := by decide +kernel
theorem dX11_build_14 : decode cX11_build 14 = .ok (.iconst 0, 1) := by decide +kernel
theorem dX11_build_15 : decode cX11_build 15 = .ok (.ireturn, 1) := by decide +kernel
theorem dX11_build_16 : decode cX11_build 16 = .ok (.iinc 3 1, 3) := by decide +kernel
theorem dX11_build_19 : decode cX11_build 19 = .ok (.goto (-17), 3) := by decide +kernel
theorem dX11_build_22 : decode cX11_build 22 = .ok (.iconst 0, 1) := by decide +kernel
theorem dX11_build_23 : decode cX11_build 23 = .ok (.istore_n 3, 1) := by decide +kernel
theorem dX11_build_24 : decode cX11_build 24 = .ok (.iload_n 3, 1) := by decide +kernel
theorem dX11_build_25 : decode cX11_build 25 = .ok (.iload_n 2, 1) := by decide +kernel
theorem dX11_build_26 : decode cX11_build 26 = .ok (.if_icmp .ge 18, 3) := by decide +kernel
theorem dX11_build_29 : decode cX11_build 29 = .ok (.aload_n 0, 1) := by decide +kernel
theorem dX11_build_30 : decode cX11_build 30 = .ok (.invokevirtual 96, 3) := by decide +kernel
theorem dX11_build_33 : decode cX11_build 33 = .ok (.ifCond .ne 5, 3) := by decide +kernel
theorem dX11_build_36 : decode cX11_build 36 = .ok (.iconst 0, 1) := by decide +kernel
theorem dX11_build_37 : decode cX11_build 37 = .ok (.ireturn, 1) := by decide +kernel
theorem dX11_build_38 : decode cX11_build 38 = .ok (.iinc 3 1, 3) := by decide +kernel
theorem dX11_build_41 : decode cX11_build 41 = .ok (.goto (-17), 3) := by decide +kernel
theorem dX11_build_44 : decode cX11_build 44 = .ok (.iconst 0, 1) := by decide +kernel
theorem dX11_build_45 : decode cX11_build 45 = .ok (.istore_n 3, 1) := by decide +kernel
theorem dX11_build_46 : decode cX11_build 46 = .ok (.iload_n 3, 1) := by decide +kernel
theorem dX11_build_47 : decode cX11_build 47 = .ok (.bipush 12, 2) := by decide +kernel
theorem dX11_build_49 : decode cX11_build 49 = .ok (.if_icmp .ge 18, 3) := by decide +kernel
theorem dX11_build_52 : decode cX11_build 52 = .ok (.aload_n 0, 1) := by decide +kernel
theorem dX11_build_53 : decode cX11_build 53 = .ok (.invokevirtual 98, 3) := by decide +kernel
theorem dX11_build_56 : decode cX11_build 56 = .ok (.ifCond .ne 5, 3) := by decide +kernel
theorem dX11_build_59 : decode cX11_build 59 = .ok (.iconst 0, 1) := by decide +kernel
theorem dX11_build_60 : decode cX11_build 60 = .ok (.ireturn, 1) := by decide +kernel
theorem dX11_build_61 : decode cX11_build 61 = .ok (.iinc 3 1, 3) := by decide +kernel
theorem dX11_build_64 : decode cX11_build 64 = .ok (.goto (-18), 3) := by decide +kernel
theorem dX11_build_67 : decode cX11_build 67 = .ok (.iconst 1, 1) := by decide +kernel
theorem dX11_build_68 : decode cX11_build 68 = .ok (.ireturn, 1) := by decide +kernel
def st_X11_build_2 (F : Nat) (L9 : Nat) (xs9 : Nat → Int32) (a3 : Int32) (a4 : Int32) (rec : Int32 → GM → Option GM) (a5 : Int32) (M : GM) : Option GM := if a3 ≤ a5 then (some M) else (bndO (f_X11_addCorner F L9 xs9 M) (fun (v7, M8) => if v7 = 0 then (none) else (bnd (a5 + (1 : Int32)) (fun v9 => rec v9 M8))))
def lp_X11_build_2 (F : Nat) (L9 : Nat) (xs9 : Nat → Int32) (a3 : Int32) (a4 : Int32) : Nat → Int32 → GM → Option GM
  | 0 => fun _ _ => none
  | f + 1 => fun a5 M => st_X11_build_2 F L9 xs9 a3 a4 (lp_X11_build_2 F L9 xs9 a3 a4 f) a5 M
set_option maxHeartbeats 4000000 in
set_option maxRecDepth 100000 in
theorem lw_X11_build_2 {x0 : GX} {ke : Nat} {a3 : Int32} {a4 : Int32}  {F : Nat} {L9 : Nat} {xs9 : Nat → Int32} {r9 : GM} (hsc0 : gsl (xz x0) = L9 ∧ gsx (xz x0) = xs9) (hE : ∀ (x9 : GX)  (M9 : GM), XR x0 x9 → GC x9 cX11_build 4 RX11 9 → XB x9 ke → TZ (xz x9) [] → r9 = M9 → WG x9 M9 [(0, .ref (gad (xz x9) 122)), (2, .int a4)] 22 []) : ∀ (f : Nat) (x : GX) (a5 : Int32) (M : GM), XR x0 x → GC x cX11_build 4 RX11 9 → XB x (f * 1 + ke) → TZ (xz x) [] → lp_X11_build_2 F L9 xs9 a3 a4 f a5 M = some r9 → WG x M [(0, .ref (gad (xz x) 122)), (1, .int a3), (2, .int a4), (3, .int a5)] 2 [] := by
  intro f
  induction f with
  | zero => intro x a5 M hx X B hz h; cases h
  | succ f ih =>
    intro x a5 M hx X B hz h
    have hrec := ih
    have h : st_X11_build_2 F L9 xs9 a3 a4 (lp_X11_build_2 F L9 xs9 a3 a4 f) a5 M = some r9 := h
    generalize lp_X11_build_2 F L9 xs9 a3 a4 f = rec at h hrec
    unfold st_X11_build_2 at h
    have hsc := hx.sc hsc0
    have hk : ke ≤ f * 1 + ke := Nat.le_add_left _ _
    refine g_iload_n X (j := 3) dX11_build_2 rfl rfl ?_
    refine g_iload_n X (j := 1) dX11_build_3 rfl rfl ?_
    refine g_icmp_ge X (tgt := 22) dX11_build_4 (by decide) (fun hb => ?_) (fun hb => ?_)
    · have h := ite_t hb h
      refine g_lv [0, 2] rfl ?_
      exact hE x M hx X (B.le (by omega)) hz (Option.some.inj h).symm
    · have h := ite_f hb h
      refine g_aload_n X (j := 0) dX11_build_7 rfl rfl ?_
      obtain ⟨⟨v7, M8⟩, hc6, h⟩ := bndO_e h
      refine gc_X11_93 X hz (k := 0 + (f * 1 + ke)) (B.le (by omega)) gT_c122 (ct_X11_addCorner X.htr hsc hc6) (by decide) (Nat.le_of_ble_eq_true rfl) dX11_build_8 (fun x hxn X B hz => ?_)
      rw [hxn.ad (g := 122) (by decide)]
      have hx := hx.tr hxn
      have hsc := hx.sc hsc0
      refine g_if_ne X (tgt := 16) dX11_build_11 (by decide) (fun hb => ?_) (fun hb => ?_)
      · have h := ite_f hb h
        refine g_iinc X (j := 3) (w := a5 + (1 : Int32)) (lv' := [(0, .ref (gad (xz x) 122)), (1, .int a3), (2, .int a4)]) dX11_build_16 rfl (by rw [ii_1]) (by decide) (fun _ => rfl) (fun v9 e10 => ?_)
        have h := bnd_e e10 h
        refine g_goto X (tgt := 2) dX11_build_19 (by decide) ?_
        refine g_lv [1, 2, 3, 0] rfl ?_
        exact hrec x v9 M8 hx X (B.le (by omega)) hz h
      · have h := ite_t hb h
        refine g_iconst X (v := 0) dX11_build_14 (by decide) ?_
        cases h
def st_X11_build_24 (F : Nat) (L9 : Nat) (xs9 : Nat → Int32) (a15 : Int32) (rec : Int32 → GM → Option GM) (a16 : Int32) (M : GM) : Option GM := if a15 ≤ a16 then (some M) else (bndO (f_X11_addPane F L9 xs9 M) (fun (v18, M19) => if v18 = 0 then (none) else (bnd (a16 + (1 : Int32)) (fun v20 => rec v20 M19))))
def lp_X11_build_24 (F : Nat) (L9 : Nat) (xs9 : Nat → Int32) (a15 : Int32) : Nat → Int32 → GM → Option GM
  | 0 => fun _ _ => none
  | f + 1 => fun a16 M => st_X11_build_24 F L9 xs9 a15 (lp_X11_build_24 F L9 xs9 a15 f) a16 M
set_option maxHeartbeats 4000000 in
set_option maxRecDepth 100000 in
theorem lw_X11_build_24 {x0 : GX} {ke : Nat} {a15 : Int32}  {F : Nat} {L9 : Nat} {xs9 : Nat → Int32} {r9 : GM} (hsc0 : gsl (xz x0) = L9 ∧ gsx (xz x0) = xs9) (hE : ∀ (x9 : GX)  (M9 : GM), XR x0 x9 → GC x9 cX11_build 4 RX11 9 → XB x9 ke → TZ (xz x9) [] → r9 = M9 → WG x9 M9 [(0, .ref (gad (xz x9) 122))] 44 []) : ∀ (f : Nat) (x : GX) (a16 : Int32) (M : GM), XR x0 x → GC x cX11_build 4 RX11 9 → XB x (f * 2 + ke) → TZ (xz x) [] → lp_X11_build_24 F L9 xs9 a15 f a16 M = some r9 → WG x M [(0, .ref (gad (xz x) 122)), (2, .int a15), (3, .int a16)] 24 [] := by
  intro f
  induction f with
  | zero => intro x a16 M hx X B hz h; cases h
  | succ f ih =>
    intro x a16 M hx X B hz h
    have hrec := ih
    have h : st_X11_build_24 F L9 xs9 a15 (lp_X11_build_24 F L9 xs9 a15 f) a16 M = some r9 := h
    generalize lp_X11_build_24 F L9 xs9 a15 f = rec at h hrec
    unfold st_X11_build_24 at h
    have hsc := hx.sc hsc0
    have hk : ke ≤ f * 2 + ke := Nat.le_add_left _ _
    refine g_iload_n X (j := 2) dX11_build_24 rfl rfl ?_
    refine g_iload_n X (j := 1) dX11_build_25 rfl rfl ?_
    refine g_icmp_ge X (tgt := 44) dX11_build_26 (by decide) (fun hb => ?_) (fun hb => ?_)
    · have h := ite_t hb h
      refine g_lv [0] rfl ?_
      exact hE x M hx X (B.le (by omega)) hz (Option.some.inj h).symm
    · have h := ite_f hb h
      refine g_aload_n X (j := 0) dX11_build_29 rfl rfl ?_
      obtain ⟨⟨v18, M19⟩, hc17, h⟩ := bndO_e h
      refine gc_X11_96 X hz (k := 0 + (f * 2 + ke)) (B.le (by omega)) gT_c122 (ct_X11_addPane X.htr hsc hc17) (by decide) (Nat.le_of_ble_eq_true rfl) dX11_build_30 (fun x hxn X B hz => ?_)
      rw [hxn.ad (g := 122) (by decide)]
      have hx := hx.tr hxn
      have hsc := hx.sc hsc0
      refine g_if_ne X (tgt := 38) dX11_build_33 (by decide) (fun hb => ?_) (fun hb => ?_)
      · have h := ite_f hb h
        refine g_iinc X (j := 2) (w := a16 + (1 : Int32)) (lv' := [(0, .ref (gad (xz x) 122)), (2, .int a15)]) dX11_build_38 rfl (by rw [ii_1]) (by decide) (fun _ => rfl) (fun v20 e21 => ?_)
        have h := bnd_e e21 h
        refine g_goto X (tgt := 24) dX11_build_41 (by decide) ?_
        refine g_lv [1, 2, 0] rfl ?_
        exact hrec x v20 M19 hx X (B.le (by omega)) hz h
      · have h := ite_t hb h
        refine g_iconst X (v := 0) dX11_build_36 (by decide) ?_
        cases h
def st_X11_build_46 (F : Nat) (L9 : Nat) (xs9 : Nat → Int32)  (rec : Int32 → GM → Option GM) (a26 : Int32) (M : GM) : Option GM := if (12 : Int32) ≤ a26 then (some M) else (bndO (f_X11_colourPattern F L9 xs9 M) (fun (v28, M29) => if v28 = 0 then (none) else (bnd (a26 + (1 : Int32)) (fun v30 => rec v30 M29))))
def lp_X11_build_46 (F : Nat) (L9 : Nat) (xs9 : Nat → Int32)  : Nat → Int32 → GM → Option GM
  | 0 => fun _ _ => none
  | f + 1 => fun a26 M => st_X11_build_46 F L9 xs9  (lp_X11_build_46 F L9 xs9  f) a26 M
set_option maxHeartbeats 4000000 in
set_option maxRecDepth 100000 in
theorem lw_X11_build_46 {x0 : GX} {ke : Nat}   {F : Nat} {L9 : Nat} {xs9 : Nat → Int32} {r9 : GM} (hsc0 : gsl (xz x0) = L9 ∧ gsx (xz x0) = xs9) (hE : ∀ (x9 : GX)  (M9 : GM), XR x0 x9 → GC x9 cX11_build 4 RX11 9 → XB x9 ke → TZ (xz x9) [] → r9 = M9 → WG x9 M9 [] 67 []) : ∀ (f : Nat) (x : GX) (a26 : Int32) (M : GM), XR x0 x → GC x cX11_build 4 RX11 9 → XB x (f * 0 + ke) → TZ (xz x) [] → lp_X11_build_46 F L9 xs9  f a26 M = some r9 → WG x M [(0, .ref (gad (xz x) 122)), (3, .int a26)] 46 [] := by
  intro f
  induction f with
  | zero => intro x a26 M hx X B hz h; cases h
  | succ f ih =>
    intro x a26 M hx X B hz h
    have hrec := ih
    have h : st_X11_build_46 F L9 xs9  (lp_X11_build_46 F L9 xs9  f) a26 M = some r9 := h
    generalize lp_X11_build_46 F L9 xs9  f = rec at h hrec
    unfold st_X11_build_46 at h
    have hsc := hx.sc hsc0
    have hk : ke ≤ f * 0 + ke := Nat.le_add_left _ _
    refine g_iload_n X (j := 1) dX11_build_46 rfl rfl ?_
    refine g_bipush X (v := 12) dX11_build_47 (by decide) ?_
    refine g_icmp_ge X (tgt := 67) dX11_build_49 (by decide) (fun hb => ?_) (fun hb => ?_)
    · have h := ite_t hb h
      refine g_lv [] rfl ?_
      exact hE x M hx X (B.le (by omega)) hz (Option.some.inj h).symm
    · have h := ite_f hb h
      refine g_aload_n X (j := 0) dX11_build_52 rfl rfl ?_
      obtain ⟨⟨v28, M29⟩, hc27, h⟩ := bndO_e h
      refine gc_X11_98 X gT_c122 (ct_X11_colourPattern X.htr hsc hc27) (by decide) (Nat.le_of_ble_eq_true rfl) dX11_build_53 ?_
      refine g_if_ne X (tgt := 61) dX11_build_56 (by decide) (fun hb => ?_) (fun hb => ?_)
      · have h := ite_f hb h
        refine g_iinc X (j := 1) (w := a26 + (1 : Int32)) (lv' := [(0, .ref (gad (xz x) 122))]) dX11_build_61 rfl (by rw [ii_1]) (by decide) (fun _ => rfl) (fun v30 e31 => ?_)
        have h := bnd_e e31 h
        refine g_goto X (tgt := 46) dX11_build_64 (by decide) ?_
        refine g_lv [1, 0] rfl ?_
        exact hrec x v30 M29 hx X (B.le (by omega)) hz h
      · have h := ite_t hb h
        refine g_iconst X (v := 0) dX11_build_59 (by decide) ?_
        cases h
def f_X11_build (F : Nat) (L9 : Nat) (xs9 : Nat → Int32) (i0 : Int32) (i1 : Int32) (M : GM) : Option (Int32 × GM) := bnd (0 : Int32) (fun v1 => bndO (lp_X11_build_2 F L9 xs9 i0 i1 16 v1 M) (fun M11 => bnd (0 : Int32) (fun v13 => bndO (lp_X11_build_24 F L9 xs9 i1 16 v13 M11) (fun M22 => bnd (0 : Int32) (fun v24 => bndO (lp_X11_build_46 F L9 xs9  F v24 M22) (fun M32 => some ((1 : Int32), M32)))))))
set_option maxHeartbeats 4000000 in
set_option maxRecDepth 100000 in
theorem w_X11_build {x0 x : GX} (hx : XR x0 x) (X : GC x cX11_build 4 RX11 9) (B : XB x 48) (hz : TZ (xz x) []) {i0 : Int32} {i1 : Int32}  {F : Nat} {L9 : Nat} {xs9 : Nat → Int32} {M : GM} {r9 : (Int32 × GM)} (hsc0 : gsl (xz x0) = L9 ∧ gsx (xz x0) = xs9) (hR : ∀ (x9 : GX) (v9 : Int32) (M9 : GM) (lv9 : List (Nat × Value)) (pc9 : Nat), XR x0 x9 → GC x9 cX11_build 4 RX11 9 → XB x9 0 → TZ (xz x9) [] → r9 = (v9, M9) → (v9 = 0 ∨ v9 = 1) → decode cX11_build pc9 = .ok (.ireturn, 1) → WG x9 M9 lv9 pc9 [.int v9]) (h : f_X11_build F L9 xs9 i0 i1 M = some r9) : WG x M [(0, .ref (gad (xz x) 122)), (1, .int i0), (2, .int i1)] 0 [] := by
  unfold f_X11_build at h
  have hsc := hx.sc hsc0
  refine g_iconst X (v := 0) dX11_build_0 (by decide) ?_
  refine g_topi (fun v1 e2 => ?_)
  have h := bnd_e e2 h
  refine g_istore_n X (lv' := [(3, .int v1), (0, .ref (gad (xz x) 122)), (1, .int i0), (2, .int i1)]) dX11_build_1 rfl (by decide) rfl ?_
  refine g_lv [1, 2, 3, 0] rfl ?_
  obtain ⟨M11, hl12, h⟩ := bndO_e h
  refine lw_X11_build_2 (ke := 32)  hsc0 (fun x M11_ hx X B hz e9 => ?_) 16 x v1 M hx X (B.le (by omega)) hz hl12
  cases e9
  have hsc := hx.sc hsc0
  refine g_iconst X (v := 0) dX11_build_22 (by decide) ?_
  refine g_topi (fun v13 e14 => ?_)
  have h := bnd_e e14 h
  refine g_istore_n X (lv' := [(3, .int v13), (0, .ref (gad (xz x) 122)), (2, .int i1)]) dX11_build_23 rfl (by decide) rfl ?_
  refine g_lv [1, 2, 0] rfl ?_
  obtain ⟨M22, hl23, h⟩ := bndO_e h
  refine lw_X11_build_24 (ke := 0)  hsc0 (fun x M22_ hx X B hz e9 => ?_) 16 x v13 M11 hx X (B.le (by omega)) hz hl23
  cases e9
  have hsc := hx.sc hsc0
  refine g_iconst X (v := 0) dX11_build_44 (by decide) ?_
  refine g_topi (fun v24 e25 => ?_)
  have h := bnd_e e25 h
  refine g_istore_n X (lv' := [(3, .int v24), (0, .ref (gad (xz x) 122))]) dX11_build_45 rfl (by decide) rfl ?_
  refine g_lv [1, 0] rfl ?_
  obtain ⟨M32, hl33, h⟩ := bndO_e h
  refine lw_X11_build_46 (ke := 0)  hsc0 (fun x M32_ hx X B hz e9 => ?_) F x v24 M22 hx X (B.le (by omega)) hz hl33
  cases e9
  have hsc := hx.sc hsc0
  refine g_iconst X (v := 1) dX11_build_67 (by decide) ?_
  exact hR x (1 : Int32) M32 _ _ hx X (B.le (by omega)) hz (Option.some.inj h).symm (Or.inr rfl) dX11_build_68
theorem ct_X11_build {l : Launch} {z : GZ} (htr : l.stackTraces = false) {L9 : Nat} {xs9 : Nat → Int32} (hsc : gsl z = L9 ∧ gsx z = xs9) {i0 : Int32} {i1 : Int32}  {M : GM} {F : Nat} {v : Int32} {M1 : GM} (h : f_X11_build F L9 xs9 i0 i1 M = some (v, M1)) : aMet l z yX11_build cX11_build 4 9 [.ref (gad z 122), .int i0, .int i1] M v M1 48 := aMet_of (by decide +kernel) (Nat.le_of_ble_eq_true rfl) htr (fun x X B hz ez el hR => by subst ez; subst el; exact w_X11_build (XR.rf x) X B hz  hsc (fun x9 v9 M9 lv9 pc9 hx9 X9 B9 hz9 e9 z9 d9 => by cases e9; exact hR x9 hx9 X9 B9 hz9 lv9 pc9 z9 d9) h)
theorem gc_X11_125 {x : GX} {cc : ByteArray} {nL d pc : Nat} {M : GM} {lv : List (Nat × Value)} {st : List Value} (X : GC x cc nL RX11 d) (hz : TZ (xz x) []) {k : Nat} (B : XB x (k + 1)) {i0 : Int32} {M1 : GM} {r : Int32} (ht : gT 122 = 11) (hM : aMet (xl x) (xz x) yX11_move cX11_move 6 8 [.ref (gad (xz x) 122), .int i0] M r M1 1) (hd : 9 ≤ d) (hsum : (st.map fun v => v.category).sum ≤ 8) (dec : decode cc pc = .ok (.invokevirtual 125, 3)) (go : ∀ x' : GX, XR x x' → GC x' cc nL RX11 d → XB x' k → TZ (xz x') [] → WG x' M1 lv (pc + 3) (.int r :: st)) : WG x M lv pc (.int i0 :: .ref (gad (xz x) 122) :: st) := g_callA X hz (n := 1) (As := [.int i0]) (rest := st) B hM ht (by decide) (gE_11 ht) rfl q_962 q_963 q_964 q_16 q_965 (by decide +kernel) rfl hd (by decide) rfl hsum dec go
theorem gc_X11_129 {x : GX} {cc : ByteArray} {nL d pc : Nat} {M : GM} {lv : List (Nat × Value)} {st : List Value} (X : GC x cc nL RX11 d) (hz : TZ (xz x) []) {k : Nat} (B : XB x (k + 1)) {i0 : Int32} {M1 : GM} {r : Int32} (ht : gT 122 = 11) (hM : aMet (xl x) (xz x) yX11_turnCamera cX11_turnCamera 3 8 [.ref (gad (xz x) 122), .int i0] M r M1 1) (hd : 9 ≤ d) (hsum : (st.map fun v => v.category).sum ≤ 8) (dec : decode cc pc = .ok (.invokevirtual 129, 3)) (go : ∀ x' : GX, XR x x' → GC x' cc nL RX11 d → XB x' k → TZ (xz x') [] → WG x' M1 lv (pc + 3) (.int r :: st)) : WG x M lv pc (.int i0 :: .ref (gad (xz x) 122) :: st) := g_callA X hz (n := 1) (As := [.int i0]) (rest := st) B hM ht (by decide) (gE_11 ht) rfl q_967 q_968 q_969 q_16 q_970 (by decide +kernel) rfl hd (by decide) rfl hsum dec go
theorem gc_X11_132 {x : GX} {cc : ByteArray} {nL d pc : Nat} {M : GM} {lv : List (Nat × Value)} {st : List Value} (X : GC x cc nL RX11 d)  {M1 : GM} {r : Int32} (ht : gT 122 = 11) (hM : gMet (xl x) (xz x) yX11_setLens cX11_setLens 1 (some .boolean) 7 [.ref (gad (xz x) 122)] M (some (.int r)) M1) (hd : 8 ≤ d) (hsum : (st.map fun v => v.category).sum ≤ 8) (dec : decode cc pc = .ok (.invokevirtual 132, 3)) (go : WG x M1 lv (pc + 3) (.int r :: st)) : WG x M lv pc (.ref (gad (xz x) 122) :: st) := g_callV X (n := 0) (As := []) (rest := st) hM ht (by decide) (gE_11 ht) rfl q_995 q_996 q_997 q_16 q_998 (by decide +kernel) rfl hd (by decide) rfl hsum dec go
theorem gc_X11_134 {x : GX} {cc : ByteArray} {nL d pc : Nat} {M : GM} {lv : List (Nat × Value)} {st : List Value} (X : GC x cc nL RX11 d) {i0 : Int32} {i1 : Int32} {M1 : GM} {r : Int32} (ht : gT 0 = 10) (hM : gMet (xl x) (xz x) yX10_setColour cX10_setColour 4 (some .int) 7 [.ref (gad (xz x) 0), .int i0, .int i1] M (some (.int r)) M1) (hd : 8 ≤ d) (hsum : (st.map fun v => v.category).sum ≤ 8) (dec : decode cc pc = .ok (.invokevirtual 134, 3)) (go : WG x M1 lv (pc + 3) (.int r :: st)) : WG x M lv pc (.int i1 :: .int i0 :: .ref (gad (xz x) 0) :: st) := g_callV X (n := 2) (As := [.int i0, .int i1]) (rest := st) hM ht (by decide) (gE_10 ht) rfl q_1005 q_1006 q_1007 q_17 q_1008 (by decide +kernel) rfl hd (by decide) rfl hsum dec go
theorem gx_X11_134 {x : GX} {cc : ByteArray} {nL d pc : Nat} {M : GM} {lv : List (Nat × Value)} {st : List Value} (X : GC x cc nL RX11 d) {i0 : Int32} {i1 : Int32} {M1 : GM} {n9 : Nat} (ht : gT 0 = 10) (hM : gMetX (xl x) (xz x) yX10_setColour cX10_setColour 4 (some .int) 7 [.ref (gad (xz x) 0), .int i0, .int i1] M n9 M1) (hd : 8 ≤ d) (hsum : (st.map fun v => v.category).sum ≤ 8) (dec : decode cc pc = .ok (.invokevirtual 134, 3)) (hT : GThr x n9 M1) : WG x M lv pc (.int i1 :: .int i0 :: .ref (gad (xz x) 0) :: st) := g_xV X (n := 2) (As := [.int i0, .int i1]) (rest := st) hM ht (by decide) (gE_10 ht) rfl q_1005 q_1006 q_1007 q_17 q_1008 (by decide +kernel) rfl hd (by decide) rfl hsum dec hT
theorem gc_X11_137 {x : GX} {cc : ByteArray} {nL d pc : Nat} {M : GM} {lv : List (Nat × Value)} {st : List Value} (X : GC x cc nL RX11 d) {i0 : Int32} {i1 : Int32} {M1 : GM} {r : Int32} (ht : gT 0 = 10) (hM : gMet (xl x) (xz x) yX10_show cX10_show 4 (some .boolean) 7 [.ref (gad (xz x) 0), .int i0, .int i1] M (some (.int r)) M1) (hd : 8 ≤ d) (hsum : (st.map fun v => v.category).sum ≤ 8) (dec : decode cc pc = .ok (.invokevirtual 137, 3)) (go : WG x M1 lv (pc + 3) (.int r :: st)) : WG x M lv pc (.int i1 :: .int i0 :: .ref (gad (xz x) 0) :: st) := g_callV X (n := 2) (As := [.int i0, .int i1]) (rest := st) hM ht (by decide) (gE_10 ht) rfl q_1009 q_147 q_148 q_17 q_149 (by decide +kernel) rfl hd (by decide) rfl hsum dec go
theorem gx_X11_137 {x : GX} {cc : ByteArray} {nL d pc : Nat} {M : GM} {lv : List (Nat × Value)} {st : List Value} (X : GC x cc nL RX11 d) {i0 : Int32} {i1 : Int32} {M1 : GM} {n9 : Nat} (ht : gT 0 = 10) (hM : gMetX (xl x) (xz x) yX10_show cX10_show 4 (some .boolean) 7 [.ref (gad (xz x) 0), .int i0, .int i1] M n9 M1) (hd : 8 ≤ d) (hsum : (st.map fun v => v.category).sum ≤ 8) (dec : decode cc pc = .ok (.invokevirtual 137, 3)) (hT : GThr x n9 M1) : WG x M lv pc (.int i1 :: .int i0 :: .ref (gad (xz x) 0) :: st) := g_xV X (n := 2) (As := [.int i0, .int i1]) (rest := st) hM ht (by decide) (gE_10 ht) rfl q_1009 q_147 q_148 q_17 q_149 (by decide +kernel) rfl hd (by decide) rfl hsum dec hT
theorem gc_X11_141 {x : GX} {cc : ByteArray} {nL d pc : Nat} {M : GM} {lv : List (Nat × Value)} {st : List Value} (X : GC x cc nL RX11 d) {i0 : Int32} {i1 : Int32} {M1 : GM} {r : Int32} (ht : gT 0 = 10) (hM : gMet (xl x) (xz x) yX10_setRepeats cX10_setRepeats 4 (some .boolean) 7 [.ref (gad (xz x) 0), .int i0, .int i1] M (some (.int r)) M1) (hd : 8 ≤ d) (hsum : (st.map fun v => v.category).sum ≤ 8) (dec : decode cc pc = .ok (.invokevirtual 141, 3)) (go : WG x M1 lv (pc + 3) (.int r :: st)) : WG x M lv pc (.int i1 :: .int i0 :: .ref (gad (xz x) 0) :: st) := g_callV X (n := 2) (As := [.int i0, .int i1]) (rest := st) hM ht (by decide) (gE_10 ht) rfl q_1010 q_1011 q_1012 q_17 q_1013 (by decide +kernel) rfl hd (by decide) rfl hsum dec go
theorem gx_X11_141 {x : GX} {cc : ByteArray} {nL d pc : Nat} {M : GM} {lv : List (Nat × Value)} {st : List Value} (X : GC x cc nL RX11 d) {i0 : Int32} {i1 : Int32} {M1 : GM} {n9 : Nat} (ht : gT 0 = 10) (hM : gMetX (xl x) (xz x) yX10_setRepeats cX10_setRepeats 4 (some .boolean) 7 [.ref (gad (xz x) 0), .int i0, .int i1] M n9 M1) (hd : 8 ≤ d) (hsum : (st.map fun v => v.category).sum ≤ 8) (dec : decode cc pc = .ok (.invokevirtual 141, 3)) (hT : GThr x n9 M1) : WG x M lv pc (.int i1 :: .int i0 :: .ref (gad (xz x) 0) :: st) := g_xV X (n := 2) (As := [.int i0, .int i1]) (rest := st) hM ht (by decide) (gE_10 ht) rfl q_1010 q_1011 q_1012 q_17 q_1013 (by decide +kernel) rfl hd (by decide) rfl hsum dec hT
theorem gc_X11_147 {x : GX} {cc : ByteArray} {nL d pc : Nat} {M : GM} {lv : List (Nat × Value)} {st : List Value} (X : GC x cc nL RX11 d) {i0 : Int32} {M1 : GM} {r : Int32} (ht : gT 0 = 10) (hM : gMet (xl x) (xz x) yX10_setBackground cX10_setBackground 3 (some .int) 7 [.ref (gad (xz x) 0), .int i0] M (some (.int r)) M1) (hd : 8 ≤ d) (hsum : (st.map fun v => v.category).sum ≤ 8) (dec : decode cc pc = .ok (.invokevirtual 147, 3)) (go : WG x M1 lv (pc + 3) (.int r :: st)) : WG x M lv pc (.int i0 :: .ref (gad (xz x) 0) :: st) := g_callV X (n := 1) (As := [.int i0]) (rest := st) hM ht (by decide) (gE_10 ht) rfl q_1014 q_1015 q_1016 q_17 q_1017 (by decide +kernel) rfl hd (by decide) rfl hsum dec go
theorem gx_X11_147 {x : GX} {cc : ByteArray} {nL d pc : Nat} {M : GM} {lv : List (Nat × Value)} {st : List Value} (X : GC x cc nL RX11 d) {i0 : Int32} {M1 : GM} {n9 : Nat} (ht : gT 0 = 10) (hM : gMetX (xl x) (xz x) yX10_setBackground cX10_setBackground 3 (some .int) 7 [.ref (gad (xz x) 0), .int i0] M n9 M1) (hd : 8 ≤ d) (hsum : (st.map fun v => v.category).sum ≤ 8) (dec : decode cc pc = .ok (.invokevirtual 147, 3)) (hT : GThr x n9 M1) : WG x M lv pc (.int i0 :: .ref (gad (xz x) 0) :: st) := g_xV X (n := 1) (As := [.int i0]) (rest := st) hM ht (by decide) (gE_10 ht) rfl q_1014 q_1015 q_1016 q_17 q_1017 (by decide +kernel) rfl hd (by decide) rfl hsum dec hT
theorem dX11_change_0 : decode cX11_change 0 = .ok (.aload_n 0, 1) := by decide +kernel
theorem dX11_change_1 : decode cX11_change 1 = .ok (.bipush 8, 2) := by decide +kernel
theorem dX11_change_3 : decode cX11_change 3 = .ok (.invokevirtual 64, 3) := by decide +kernel
theorem dX11_change_6 : decode cX11_change 6 = .ok (.istore_n 1, 1) := by decide +kernel
theorem dX11_change_7 : decode cX11_change 7 = .ok (.iload_n 1, 1) := by decide +kernel
theorem dX11_change_8 : decode cX11_change 8 = .ok (.iconst 2, 1) := by decide +kernel
theorem dX11_change_9 : decode cX11_change 9 = .ok (.if_icmp .ge 16, 3) := by decide +kernel
theorem dX11_change_12 : decode cX11_change 12 = .ok (.aload_n 0, 1) := by decide +kernel
theorem dX11_change_13 : decode cX11_change 13 = .ok (.aload_n 0, 1) := by decide +kernel
theorem dX11_change_14 : decode cX11_change 14 = .ok (.aload_n 0, 1) := by decide +kernel
theorem dX11_change_15 : decode cX11_change 15 = .ok (.getfield 75, 3) := by decide +kernel
theorem dX11_change_18 : decode cX11_change 18 = .ok (.invokevirtual 64, 3) := by decide +kernel
theorem dX11_change_21 : decode cX11_change 21 = .ok (.invokevirtual 125, 3) := by decide +kernel
theorem dX11_change_24 : decode cX11_change 24 = .ok (.ireturn, 1) := by decide +kernel
theorem dX11_change_25 : decode cX11_change 25 = .ok (.iload_n 1, 1) := by decide +kernel
theorem dX11_change_26 : decode cX11_change 26 = .ok (.iconst 2, 1) := by decide +kernel
theorem dX11_change_27 : decode cX11_change 27 = .ok (.if_icmp .ne 13, 3) := by decide +kernel
theorem dX11_change_30 : decode cX11_change 30 = .ok (.aload_n 0, 1) := by decide +kernel
theorem dX11_change_31 : decode cX11_change 31 = .ok (.aload_n 0, 1) := by decide +kernel
theorem dX11_change_32 : decode cX11_change 32 = .ok (.iconst 3, 1) := by decide +kernel
theorem dX11_change_33 : decode cX11_change 33 = .ok (.invokevirtual 64, 3) := by decide +kernel
theorem dX11_change_36 : decode cX11_change 36 = .ok (.invokevirtual 129, 3) := by decide +kernel
theorem dX11_change_39 : decode cX11_change 39 = .ok (.ireturn, 1) := by decide +kernel
theorem dX11_change_40 : decode cX11_change 40 = .ok (.iload_n 1, 1) := by decide +kernel
theorem dX11_change_41 : decode cX11_change 41 = .ok (.iconst 3, 1) := by decide +kernel
theorem dX11_change_42 : decode cX11_change 42 = .ok (.if_icmp .ne 8, 3) := by decide +kernel
theorem dX11_change_45 : decode cX11_change 45 = .ok (.aload_n 0, 1) := by decide +kernel
theorem dX11_change_46 : decode cX11_change 46 = .ok (.invokevirtual 132, 3) := by decide +kernel
theorem dX11_change_49 : decode cX11_change 49 = .ok (.ireturn, 1) := by decide +kernel
theorem dX11_change_50 : decode cX11_change 50 = .ok (.iload_n 1, 1) := by decide +kernel
theorem dX11_change_51 : decode cX11_change 51 = .ok (.iconst 4, 1) := by decide +kernel
theorem dX11_change_52 : decode cX11_change 52 = .ok (.if_icmp .ne 59, 3) := by decide +kernel
theorem dX11_change_55 : decode cX11_change 55 = .ok (.aload_n 0, 1) := by decide +kernel
theorem dX11_change_56 : decode cX11_change 56 = .ok (.aload_n 0, 1) := by decide +kernel
theorem dX11_change_57 : decode cX11_change 57 = .ok (.getfield 75, 3) := by decide +kernel
theorem dX11_change_60 : decode cX11_change 60 = .ok (.invokevirtual 64, 3) := by decide +kernel
theorem dX11_change_63 : decode cX11_change 63 = .ok (.istore_n 2, 1) := by decide +kernel
theorem dX11_change_64 : decode cX11_change 64 = .ok (.aload_n 0, 1) := by decide +kernel
theorem dX11_change_65 : decode cX11_change 65 = .ok (.getfield 18, 3) := by decide +kernel
theorem dX11_change_68 : decode cX11_change 68 = .ok (.iload_n 2, 1) := by decide +kernel
theorem dX11_change_69 : decode cX11_change 69 = .ok (.aaload, 1) := by decide +kernel
theorem dX11_change_70 : decode cX11_change 70 = .ok (.iconst 3, 1) := by decide +kernel
theorem dX11_change_71 : decode cX11_change 71 = .ok (.iaload, 1) := by decide +kernel
theorem dX11_change_72 : decode cX11_change 72 = .ok (.istore_n 3, 1) := by decide +kernel
theorem dX11_change_73 : decode cX11_change 73 = .ok (.aload_n 0, 1) := by decide +kernel
theorem dX11_change_74 : decode cX11_change 74 = .ok (.getfield 18, 3) := by decide +kernel
theorem dX11_change_77 : decode cX11_change 77 = .ok (.iload_n 2, 1) := by decide +kernel
theorem dX11_change_78 : decode cX11_change 78 = .ok (.aaload, 1) := by decide +kernel
theorem dX11_change_79 : decode cX11_change 79 = .ok (.iconst 3, 1) := by decide +kernel
theorem dX11_change_80 : decode cX11_change 80 = .ok (.aload_n 0, 1) := by decide +kernel
theorem dX11_change_81 : decode cX11_change 81 = .ok (.invokevirtual 71, 3) := by decide +kernel
theorem dX11_change_84 : decode cX11_change 84 = .ok (.iastore, 1) := by decide +kernel
theorem dX11_change_85 : decode cX11_change 85 = .ok (.aload_n 0, 1) := by decide +kernel
theorem dX11_change_86 : decode cX11_change 86 = .ok (.getfield 10, 3) := by decide +kernel
theorem dX11_change_89 : decode cX11_change 89 = .ok (.iload_n 2, 1) := by decide +kernel
theorem dX11_change_90 : decode cX11_change 90 = .ok (.aload_n 0, 1) := by decide +kernel
theorem dX11_change_91 : decode cX11_change 91 = .ok (.getfield 18, 3) := by decide +kernel
theorem dX11_change_94 : decode cX11_change 94 = .ok (.iload_n 2, 1) := by decide +kernel
theorem dX11_change_95 : decode cX11_change 95 = .ok (.aaload, 1) := by decide +kernel
theorem dX11_change_96 : decode cX11_change 96 = .ok (.iconst 3, 1) := by decide +kernel
theorem dX11_change_97 : decode cX11_change 97 = .ok (.iaload, 1) := by decide +kernel
theorem dX11_change_98 : decode cX11_change 98 = .ok (.invokevirtual 134, 3) := by decide +kernel
theorem dX11_change_101 : decode cX11_change 101 = .ok (.iload_n 3, 1) := by decide +kernel
theorem dX11_change_102 : decode cX11_change 102 = .ok (.if_icmp .ne 7, 3) := by decide +kernel
theorem dX11_change_105 : decode cX11_change 105 = .ok (.iconst 1, 1) := by decide +kernel
theorem dX11_change_106 : decode cX11_change 106 = .ok (.goto 4, 3) := by decide +kernel
theorem dX11_change_109 : decode cX11_change 109 = .ok (.iconst 0, 1) := by decide +kernel
theorem dX11_change_110 : decode cX11_change 110 = .ok (.ireturn, 1) := by decide +kernel
theorem dX11_change_111 : decode cX11_change 111 = .ok (.iload_n 1, 1) := by decide +kernel
theorem dX11_change_112 : decode cX11_change 112 = .ok (.iconst 5, 1) := by decide +kernel
theorem dX11_change_113 : decode cX11_change 113 = .ok (.if_icmp .ne 68, 3) := by decide +kernel
theorem dX11_change_116 : decode cX11_change 116 = .ok (.aload_n 0, 1) := by decide +kernel
theorem dX11_change_117 : decode cX11_change 117 = .ok (.aload_n 0, 1) := by decide +kernel
theorem dX11_change_118 : decode cX11_change 118 = .ok (.getfield 82, 3) := by decide +kernel
theorem dX11_change_121 : decode cX11_change 121 = .ok (.invokevirtual 64, 3) := by decide +kernel
theorem dX11_change_124 : decode cX11_change 124 = .ok (.istore_n 2, 1) := by decide +kernel
theorem dX11_change_125 : decode cX11_change 125 = .ok (.aload_n 0, 1) := by decide +kernel
theorem dX11_change_126 : decode cX11_change 126 = .ok (.getfield 26, 3) := by decide +kernel
theorem dX11_change_129 : decode cX11_change 129 = .ok (.iload_n 2, 1) := by decide +kernel
theorem dX11_change_130 : decode cX11_change 130 = .ok (.aaload, 1) := by decide +kernel
theorem dX11_change_131 : decode cX11_change 131 = .ok (.iconst 2, 1) := by decide +kernel
theorem dX11_change_132 : decode cX11_change 132 = .ok (.baload, 1) := by decide +kernel
theorem dX11_change_133 : decode cX11_change 133 = .ok (.istore_n 3, 1) := by decide +kernel
theorem dX11_change_134 : decode cX11_change 134 = .ok (.aload_n 0, 1) := by decide +kernel
theorem dX11_change_135 : decode cX11_change 135 = .ok (.getfield 26, 3) := by decide +kernel
theorem dX11_change_138 : decode cX11_change 138 = .ok (.iload_n 2, 1) := by decide +kernel
theorem dX11_change_139 : decode cX11_change 139 = .ok (.aaload, 1) := by decide +kernel
theorem dX11_change_140 : decode cX11_change 140 = .ok (.iconst 2, 1) := by decide +kernel
theorem dX11_change_141 : decode cX11_change 141 = .ok (.aload_n 0, 1) := by decide +kernel
theorem dX11_change_142 : decode cX11_change 142 = .ok (.iconst 2, 1) := by decide +kernel
theorem dX11_change_143 : decode cX11_change 143 = .ok (.invokevirtual 64, 3) := by decide +kernel
theorem dX11_change_146 : decode cX11_change 146 = .ok (.ifCond .ne 7, 3) := by decide +kernel
theorem dX11_change_149 : decode cX11_change 149 = .ok (.iconst 1, 1) := by decide +kernel
theorem dX11_change_150 : decode cX11_change 150 = .ok (.goto 4, 3) := by decide +kernel
theorem dX11_change_153 : decode cX11_change 153 = .ok (.iconst 0, 1) := by decide +kernel
theorem dX11_change_154 : decode cX11_change 154 = .ok (.bastore, 1) := by decide +kernel
theorem dX11_change_155 : decode cX11_change 155 = .ok (.aload_n 0, 1) := by decide +kernel
theorem dX11_change_156 : decode cX11_change 156 = .ok (.getfield 10, 3) := by decide +kernel
theorem dX11_change_159 : decode cX11_change 159 = .ok (.iload_n 2, 1) := by decide +kernel
theorem dX11_change_160 : decode cX11_change 160 = .ok (.aload_n 0, 1) := by decide +kernel
theorem dX11_change_161 : decode cX11_change 161 = .ok (.getfield 26, 3) := by decide +kernel
theorem dX11_change_164 : decode cX11_change 164 = .ok (.iload_n 2, 1) := by decide +kernel
theorem dX11_change_165 : decode cX11_change 165 = .ok (.aaload, 1) := by decide +kernel
theorem dX11_change_166 : decode cX11_change 166 = .ok (.iconst 2, 1) := by decide +kernel
theorem dX11_change_167 : decode cX11_change 167 = .ok (.baload, 1) := by decide +kernel
theorem dX11_change_168 : decode cX11_change 168 = .ok (.invokevirtual 137, 3) := by decide +kernel
theorem dX11_change_171 : decode cX11_change 171 = .ok (.iload_n 3, 1) := by decide +kernel
theorem dX11_change_172 : decode cX11_change 172 = .ok (.if_icmp .ne 7, 3) := by decide +kernel
theorem dX11_change_175 : decode cX11_change 175 = .ok (.iconst 1, 1) := by decide +kernel
theorem dX11_change_176 : decode cX11_change 176 = .ok (.goto 4, 3) := by decide +kernel
theorem dX11_change_179 : decode cX11_change 179 = .ok (.iconst 0, 1) := by decide +kernel
theorem dX11_change_180 : decode cX11_change 180 = .ok (.ireturn, 1) := by decide +kernel
theorem dX11_change_181 : decode cX11_change 181 = .ok (.iload_n 1, 1) := by decide +kernel
theorem dX11_change_182 : decode cX11_change 182 = .ok (.bipush 6, 2) := by decide +kernel
theorem dX11_change_184 : decode cX11_change 184 = .ok (.if_icmp .ne 66, 3) := by decide +kernel
theorem dX11_change_187 : decode cX11_change 187 = .ok (.aload_n 0, 1) := by decide +kernel
theorem dX11_change_188 : decode cX11_change 188 = .ok (.iconst 4, 1) := by decide +kernel
theorem dX11_change_189 : decode cX11_change 189 = .ok (.invokevirtual 64, 3) := by decide +kernel
theorem dX11_change_192 : decode cX11_change 192 = .ok (.istore_n 2, 1) := by decide +kernel
theorem dX11_change_193 : decode cX11_change 193 = .ok (.aload_n 0, 1) := by decide +kernel
theorem dX11_change_194 : decode cX11_change 194 = .ok (.getfield 37, 3) := by decide +kernel
theorem dX11_change_197 : decode cX11_change 197 = .ok (.iload_n 2, 1) := by decide +kernel
theorem dX11_change_198 : decode cX11_change 198 = .ok (.baload, 1) := by decide +kernel
theorem dX11_change_199 : decode cX11_change 199 = .ok (.istore_n 3, 1) := by decide +kernel
theorem dX11_change_200 : decode cX11_change 200 = .ok (.aload_n 0, 1) := by decide +kernel
theorem dX11_change_201 : decode cX11_change 201 = .ok (.getfield 37, 3) := by decide +kernel
theorem dX11_change_204 : decode cX11_change 204 = .ok (.iload_n 2, 1) := by decide +kernel
theorem dX11_change_205 : decode cX11_change 205 = .ok (.aload_n 0, 1) := by decide +kernel
theorem dX11_change_206 : decode cX11_change 206 = .ok (.iconst 2, 1) := by decide +kernel
theorem dX11_change_207 : decode cX11_change 207 = .ok (.invokevirtual 64, 3) := by decide +kernel
theorem dX11_change_210 : decode cX11_change 210 = .ok (.ifCond .ne 7, 3) := by decide +kernel
theorem dX11_change_213 : decode cX11_change 213 = .ok (.iconst 1, 1) := by decide +kernel
theorem dX11_change_214 : decode cX11_change 214 = .ok (.goto 4, 3) := by decide +kernel
theorem dX11_change_217 : decode cX11_change 217 = .ok (.iconst 0, 1) := by decide +kernel
theorem dX11_change_218 : decode cX11_change 218 = .ok (.bastore, 1) := by decide +kernel
theorem dX11_change_219 : decode cX11_change 219 = .ok (.aload_n 0, 1) := by decide +kernel
theorem dX11_change_220 : decode cX11_change 220 = .ok (.getfield 10, 3) := by decide +kernel
theorem dX11_change_223 : decode cX11_change 223 = .ok (.iload_n 2, 1) := by decide +kernel
theorem dX11_change_224 : decode cX11_change 224 = .ok (.aload_n 0, 1) := by decide +kernel
theorem dX11_change_225 : decode cX11_change 225 = .ok (.getfield 37, 3) := by decide +kernel
theorem dX11_change_228 : decode cX11_change 228 = .ok (.iload_n 2, 1) := by decide +kernel
theorem dX11_change_229 : decode cX11_change 229 = .ok (.baload, 1) := by decide +kernel
theorem dX11_change_230 : decode cX11_change 230 = .ok (.invokevirtual 141, 3) := by decide +kernel
theorem dX11_change_233 : decode cX11_change 233 = .ok (.iload_n 3, 1) := by decide +kernel
theorem dX11_change_234 : decode cX11_change 234 = .ok (.if_icmp .ne 14, 3) := by decide +kernel
theorem dX11_change_237 : decode cX11_change 237 = .ok (.aload_n 0, 1) := by decide +kernel
theorem dX11_change_238 : decode cX11_change 238 = .ok (.invokevirtual 98, 3) := by decide +kernel
theorem dX11_change_241 : decode cX11_change 241 = .ok (.ifCond .eq 7, 3) := by decide +kernel
theorem dX11_change_244 : decode cX11_change 244 = .ok (.iconst 1, 1) := by decide +kernel
theorem dX11_change_245 : decode cX11_change 245 = .ok (.goto 4, 3) := by decide +kernel
theorem dX11_change_248 : decode cX11_change 248 = .ok (.iconst 0, 1) := by decide +kernel
theorem dX11_change_249 : decode cX11_change 249 = .ok (.ireturn, 1) := by decide +kernel
theorem dX11_change_250 : decode cX11_change 250 = .ok (.aload_n 0, 1) := by decide +kernel
theorem dX11_change_251 : decode cX11_change 251 = .ok (.getfield 144, 3) := by decide +kernel
theorem dX11_change_254 : decode cX11_change 254 = .ok (.istore_n 2, 1) := by decide +kernel
theorem dX11_change_255 : decode cX11_change 255 = .ok (.aload_n 0, 1) := by decide +kernel
theorem dX11_change_256 : decode cX11_change 256 = .ok (.aload_n 0, 1) := by decide +kernel
theorem dX11_change_257 : decode cX11_change 257 = .ok (.invokevirtual 71, 3) := by decide +kernel
theorem dX11_change_260 : decode cX11_change 260 = .ok (.putfield 144, 3) := by decide +kernel
theorem dX11_change_263 : decode cX11_change 263 = .ok (.aload_n 0, 1) := by decide +kernel
theorem dX11_change_264 : decode cX11_change 264 = .ok (.getfield 10, 3) := by decide +kernel
theorem dX11_change_267 : decode cX11_change 267 = .ok (.aload_n 0, 1) := by decide +kernel
theorem dX11_change_268 : decode cX11_change 268 = .ok (.getfield 144, 3) := by decide +kernel
theorem dX11_change_271 : decode cX11_change 271 = .ok (.invokevirtual 147, 3) := by decide +kernel
theorem dX11_change_274 : decode cX11_change 274 = .ok (.iload_n 2, 1) := by decide +kernel
theorem dX11_change_275 : decode cX11_change 275 = .ok (.if_icmp .ne 7, 3) := by decide +kernel
theorem dX11_change_278 : decode cX11_change 278 = .ok (.iconst 1, 1) := by decide +kernel
theorem dX11_change_279 : decode cX11_change 279 = .ok (.goto 4, 3) := by decide +kernel
theorem dX11_change_282 : decode cX11_change 282 = .ok (.iconst 0, 1) := by decide +kernel
theorem dX11_change_283 : decode cX11_change 283 = .ok (.ireturn, 1) := by decide +kernel
def bk_X11_change_218 (F : Nat) (L9 : Nat) (xs9 : Nat → Int32) (a27 : Int32) (a28 : Int32) (a29 : Int32) (a30 : Int32) (M : GM) : Option (Int32 × GM) := grd (gIn a30 (gN 128)) (grd (gTf a29) (bnd (sI M 128 a30.toNatClampNeg a29) (fun M33 => grd (gIn a27 (gN 128)) (bndT (f_X10_setRepeats F a27 (gI M33 128 a27.toNatClampNeg) M33) (fun _ => none) (fun (v37, M38) => if v37 = a28 then (bndO (f_X11_colourPattern F L9 xs9 M38) (fun (v40, M41) => if v40 = 0 then (none) else (some ((1 : Int32), M41)))) else (none))))))
set_option maxHeartbeats 4000000 in
set_option maxRecDepth 100000 in
theorem bw_X11_change_218 {x0 x : GX} (hx : XR x0 x) (X : GC x cX11_change 4 RX11 9) (B : XB x (0)) (hz : TZ (xz x) []) {a27 : Int32} {a28 : Int32} {a29 : Int32} {a30 : Int32}   {F : Nat} {L9 : Nat} {xs9 : Nat → Int32} {M : GM} {r9 : (Int32 × GM)} (hsc0 : gsl (xz x0) = L9 ∧ gsx (xz x0) = xs9) (hR : ∀ (x9 : GX) (v9 : Int32) (M9 : GM) (lv9 : List (Nat × Value)) (pc9 : Nat), XR x0 x9 → GC x9 cX11_change 4 RX11 9 → XB x9 0 → TZ (xz x9) [] → r9 = (v9, M9) → (v9 = 0 ∨ v9 = 1) → decode cX11_change pc9 = .ok (.ireturn, 1) → WG x9 M9 lv9 pc9 [.int v9]) (h : bk_X11_change_218 F L9 xs9 a27 a28 a29 a30 M = some r9) : WG x M [(0, .ref (gad (xz x) 122)), (2, .int a27), (3, .int a28)] 218 [.int a29, .int a30, .ref (gad (xz x) 128)] := by
  unfold bk_X11_change_218 at h
  have hsc := hx.sc hsc0
  obtain ⟨hg31, h⟩ := grd_e h
  obtain ⟨hg32, h⟩ := grd_e h
  refine g_zast X gT_c128 hg31 (gTf_of hg32) dX11_change_218 ?_
  refine g_mem (fun M33 e34 => ?_)
  have h := bnd_e e34 h
  refine g_aload_n X (j := 0) dX11_change_219 rfl rfl ?_
  refine gf_X11_10 X gT_c122 dX11_change_220 ?_
  refine g_iload_n X (j := 1) dX11_change_223 rfl rfl ?_
  refine g_aload_n X (j := 0) dX11_change_224 rfl rfl ?_
  refine gf_X11_37 X gT_c122 dX11_change_225 ?_
  refine g_iload_n X (j := 1) dX11_change_228 rfl rfl ?_
  obtain ⟨hg35, h⟩ := grd_e h
  refine g_zald X gT_c128 hg35 dX11_change_229 ?_
  rcases bndT_e h with ⟨_, hc36, h⟩ | ⟨⟨v37, M38⟩, hc36, h⟩
  · cases h
  refine gc_X11_141 X gT_c0 (ct_X10_setRepeats X.htr  hc36) (by decide) (Nat.le_of_ble_eq_true rfl) dX11_change_230 ?_
  refine g_iload_n X (j := 2) dX11_change_233 rfl rfl ?_
  refine g_icmp_ne X (tgt := 248) dX11_change_234 (by decide) (fun hb => ?_) (fun hb => ?_)
  · have h := ite_f hb h
    refine g_iconst X (v := 0) dX11_change_248 (by decide) ?_
    cases h
  · have h := ite_t hb h
    refine g_aload_n X (j := 0) dX11_change_237 rfl rfl ?_
    obtain ⟨⟨v40, M41⟩, hc39, h⟩ := bndO_e h
    refine gc_X11_98 X gT_c122 (ct_X11_colourPattern X.htr hsc hc39) (by decide) (Nat.le_of_ble_eq_true rfl) dX11_change_238 ?_
    refine g_if_eq X (tgt := 248) dX11_change_241 (by decide) (fun hb => ?_) (fun hb => ?_)
    · have h := ite_t hb h
      refine g_iconst X (v := 0) dX11_change_248 (by decide) ?_
      cases h
    · have h := ite_f hb h
      refine g_iconst X (v := 1) dX11_change_244 (by decide) ?_
      refine g_goto X (tgt := 249) dX11_change_245 (by decide) ?_
      exact hR x (1 : Int32) M41 _ _ hx X (B.le (by omega)) hz (Option.some.inj h).symm (Or.inr rfl) dX11_change_249
def bk_X11_change_154 (F : Nat) (L9 : Nat) (xs9 : Nat → Int32) (a61 : Int32) (a62 : Int32) (a63 : Int32) (a64 : Int32) (p65 : Nat) (M : GM) : Option (Int32 × GM) := grd (gIn a64 (gN p65)) (grd (gTf a63) (bnd (sI M p65 a64.toNatClampNeg a63) (fun M69 => grd (gIn a61 (gN 125)) (bnd (gR 125 a61.toNatClampNeg) (fun o72 => grd (gIn (2 : Int32) (gN o72)) (bndT (f_X10_show F a61 (gI M69 o72 2) M69) (fun _ => none) (fun (v77, M78) => if v77 = a62 then (some ((1 : Int32), M78)) else (none))))))))
set_option maxHeartbeats 4000000 in
set_option maxRecDepth 100000 in
theorem bw_X11_change_154 {x0 x : GX} (hx : XR x0 x) (X : GC x cX11_change 4 RX11 9) (B : XB x (0)) (hz : TZ (xz x) []) {a61 : Int32} {a62 : Int32} {a63 : Int32} {a64 : Int32} {p65 : Nat}  (k66 : gT p65 = 22) {F : Nat} {L9 : Nat} {xs9 : Nat → Int32} {M : GM} {r9 : (Int32 × GM)} (hsc0 : gsl (xz x0) = L9 ∧ gsx (xz x0) = xs9) (hR : ∀ (x9 : GX) (v9 : Int32) (M9 : GM) (lv9 : List (Nat × Value)) (pc9 : Nat), XR x0 x9 → GC x9 cX11_change 4 RX11 9 → XB x9 0 → TZ (xz x9) [] → r9 = (v9, M9) → (v9 = 0 ∨ v9 = 1) → decode cX11_change pc9 = .ok (.ireturn, 1) → WG x9 M9 lv9 pc9 [.int v9]) (h : bk_X11_change_154 F L9 xs9 a61 a62 a63 a64 p65 M = some r9) : WG x M [(0, .ref (gad (xz x) 122)), (2, .int a61), (3, .int a62)] 154 [.int a63, .int a64, .ref (gad (xz x) p65)] := by
  unfold bk_X11_change_154 at h
  have hsc := hx.sc hsc0
  obtain ⟨hg67, h⟩ := grd_e h
  obtain ⟨hg68, h⟩ := grd_e h
  refine g_zast X k66 hg67 (gTf_of hg68) dX11_change_154 ?_
  refine g_mem (fun M69 e70 => ?_)
  have h := bnd_e e70 h
  refine g_aload_n X (j := 0) dX11_change_155 rfl rfl ?_
  refine gf_X11_10 X gT_c122 dX11_change_156 ?_
  refine g_iload_n X (j := 1) dX11_change_159 rfl rfl ?_
  refine g_aload_n X (j := 0) dX11_change_160 rfl rfl ?_
  refine gf_X11_26 X gT_c122 dX11_change_161 ?_
  refine g_iload_n X (j := 1) dX11_change_164 rfl rfl ?_
  obtain ⟨hg71, h⟩ := grd_e h
  refine g_aald_29 X gT_c125 hg71 dX11_change_165 ?_
  refine g_topr (fun o72 e73 => ?_)
  have h := bnd_e e73 h
  have k74 : gT o72 = 22 := by rw [e73]; exact gR_29 gT_c125 (gIn_lt hg71)
  refine g_iconst X (v := 2) dX11_change_166 (by decide) ?_
  obtain ⟨hg75, h⟩ := grd_e h
  refine g_zald X k74 hg75 dX11_change_167 ?_
  rw [tn_2]
  rcases bndT_e h with ⟨_, hc76, h⟩ | ⟨⟨v77, M78⟩, hc76, h⟩
  · cases h
  refine gc_X11_137 X gT_c0 (ct_X10_show X.htr  hc76) (by decide) (Nat.le_of_ble_eq_true rfl) dX11_change_168 ?_
  refine g_iload_n X (j := 2) dX11_change_171 rfl rfl ?_
  refine g_icmp_ne X (tgt := 179) dX11_change_172 (by decide) (fun hb => ?_) (fun hb => ?_)
  · have h := ite_f hb h
    refine g_iconst X (v := 0) dX11_change_179 (by decide) ?_
    cases h
  · have h := ite_t hb h
    refine g_iconst X (v := 1) dX11_change_175 (by decide) ?_
    refine g_goto X (tgt := 180) dX11_change_176 (by decide) ?_
    exact hR x (1 : Int32) M78 _ _ hx X (B.le (by omega)) hz (Option.some.inj h).symm (Or.inr rfl) dX11_change_180
def f_X11_change (F : Nat) (L9 : Nat) (xs9 : Nat → Int32) (M : GM) : Option (Int32 × GM) := bndO (f_X11_draw F L9 xs9 (8 : Int32) M) (fun (v2, M3) => bnd v2 (fun v4 => if (2 : Int32) ≤ v4 then (if v4 = (2 : Int32) then (bndO (f_X11_draw F L9 xs9 (3 : Int32) M3) (fun (v114, M115) => bndO (f_X11_turnCamera F L9 xs9 v114 M115) (fun (v117, M118) => grd (gTf v117) (some (v117, M118))))) else (if v4 = (3 : Int32) then (bndO (f_X11_setLens F L9 xs9 M3) (fun (v110, M111) => grd (gTf v110) (some (v110, M111)))) else (if v4 = (4 : Int32) then (bndO (f_X11_draw F L9 xs9 (gI M3 122 3) M3) (fun (v80, M81) => bnd v80 (fun v82 => grd (gIn v82 (gN 123)) (bnd (gR 123 v82.toNatClampNeg) (fun o85 => grd (gIn (3 : Int32) (gN o85)) (bnd (gI M81 o85 3) (fun v89 => grd (gIn v82 (gN 123)) (bnd (gR 123 v82.toNatClampNeg) (fun o92 => bndO (f_X11_colour F L9 xs9 M81) (fun (v96, M97) => grd (gIn (3 : Int32) (gN o92)) (bnd (sI M97 o92 3 v96) (fun M99 => grd (gIn v82 (gN 123)) (bnd (gR 123 v82.toNatClampNeg) (fun o102 => grd (gIn (3 : Int32) (gN o102)) (bndT (f_X10_setColour F v82 (gI M99 o102 3) M99) (fun _ => none) (fun (v107, M108) => if v107 = v89 then (some ((1 : Int32), M108)) else (none))))))))))))))))) else (if v4 = (5 : Int32) then (bndO (f_X11_draw F L9 xs9 (gI M3 122 4) M3) (fun (v43, M44) => bnd v43 (fun v45 => grd (gIn v45 (gN 125)) (bnd (gR 125 v45.toNatClampNeg) (fun o48 => grd (gIn (2 : Int32) (gN o48)) (bnd (gI M44 o48 2) (fun v52 => grd (gIn v45 (gN 125)) (bnd (gR 125 v45.toNatClampNeg) (fun o55 => bndO (f_X11_draw F L9 xs9 (2 : Int32) M44) (fun (v59, M60) => if v59 = 0 then (bk_X11_change_154 F L9 xs9 v45 v52 (1 : Int32) (2 : Int32) o55 M60) else (bk_X11_change_154 F L9 xs9 v45 v52 (0 : Int32) (2 : Int32) o55 M60))))))))))) else (if v4 = (6 : Int32) then (bndO (f_X11_draw F L9 xs9 (4 : Int32) M3) (fun (v17, M18) => bnd v17 (fun v19 => grd (gIn v19 (gN 128)) (bnd (gI M18 128 v19.toNatClampNeg) (fun v22 => bndO (f_X11_draw F L9 xs9 (2 : Int32) M18) (fun (v25, M26) => if v25 = 0 then (bk_X11_change_218 F L9 xs9 v19 v22 (1 : Int32) v19 M26) else (bk_X11_change_218 F L9 xs9 v19 v22 (0 : Int32) v19 M26))))))) else (bnd (gI M3 122 13) (fun v6 => bndO (f_X11_colour F L9 xs9 M3) (fun (v9, M10) => bnd (sI M10 122 13 v9) (fun M11 => bndT (f_X10_setBackground F (gI M11 122 13) M11) (fun _ => none) (fun (v14, M15) => if v14 = v6 then (some ((1 : Int32), M15)) else (none))))))))))) else (bndO (f_X11_draw F L9 xs9 (gI M3 122 3) M3) (fun (v121, M122) => bndO (f_X11_move F L9 xs9 v121 M122) (fun (v124, M125) => grd (gTf v124) (some (v124, M125)))))))
set_option maxHeartbeats 4000000 in
set_option maxRecDepth 100000 in
theorem w_X11_change {x0 x : GX} (hx : XR x0 x) (X : GC x cX11_change 4 RX11 9) (B : XB x 1) (hz : TZ (xz x) [])   {F : Nat} {L9 : Nat} {xs9 : Nat → Int32} {M : GM} {r9 : (Int32 × GM)} (hsc0 : gsl (xz x0) = L9 ∧ gsx (xz x0) = xs9) (hR : ∀ (x9 : GX) (v9 : Int32) (M9 : GM) (lv9 : List (Nat × Value)) (pc9 : Nat), XR x0 x9 → GC x9 cX11_change 4 RX11 9 → XB x9 0 → TZ (xz x9) [] → r9 = (v9, M9) → (v9 = 0 ∨ v9 = 1) → decode cX11_change pc9 = .ok (.ireturn, 1) → WG x9 M9 lv9 pc9 [.int v9]) (h : f_X11_change F L9 xs9 M = some r9) : WG x M [(0, .ref (gad (xz x) 122))] 0 [] := by
  unfold f_X11_change at h
  have hsc := hx.sc hsc0
  refine g_aload_n X (j := 0) dX11_change_0 rfl rfl ?_
  refine g_bipush X (v := 8) dX11_change_1 (by decide) ?_
  obtain ⟨⟨v2, M3⟩, hc1, h⟩ := bndO_e h
  refine gc_X11_64 X gT_c122 (ct_X11_draw X.htr hsc hc1) (by decide) (Nat.le_of_ble_eq_true rfl) dX11_change_3 ?_
  refine g_topi (fun v4 e5 => ?_)
  have h := bnd_e e5 h
  refine g_istore_n X (lv' := [(1, .int v4), (0, .ref (gad (xz x) 122))]) dX11_change_6 rfl (by decide) rfl ?_
  refine g_iload_n X (j := 0) dX11_change_7 rfl rfl ?_
  refine g_iconst X (v := 2) dX11_change_8 (by decide) ?_
  refine g_icmp_ge X (tgt := 25) dX11_change_9 (by decide) (fun hb => ?_) (fun hb => ?_)
  · have h := ite_t hb h
    refine g_iload_n X (j := 0) dX11_change_25 rfl rfl ?_
    refine g_iconst X (v := 2) dX11_change_26 (by decide) ?_
    refine g_icmp_ne X (tgt := 40) dX11_change_27 (by decide) (fun hb => ?_) (fun hb => ?_)
    · have h := ite_f hb h
      refine g_iload_n X (j := 0) dX11_change_40 rfl rfl ?_
      refine g_iconst X (v := 3) dX11_change_41 (by decide) ?_
      refine g_icmp_ne X (tgt := 50) dX11_change_42 (by decide) (fun hb => ?_) (fun hb => ?_)
      · have h := ite_f hb h
        refine g_iload_n X (j := 0) dX11_change_50 rfl rfl ?_
        refine g_iconst X (v := 4) dX11_change_51 (by decide) ?_
        refine g_icmp_ne X (tgt := 111) dX11_change_52 (by decide) (fun hb => ?_) (fun hb => ?_)
        · have h := ite_f hb h
          refine g_iload_n X (j := 0) dX11_change_111 rfl rfl ?_
          refine g_iconst X (v := 5) dX11_change_112 (by decide) ?_
          refine g_icmp_ne X (tgt := 181) dX11_change_113 (by decide) (fun hb => ?_) (fun hb => ?_)
          · have h := ite_f hb h
            refine g_iload_n X (j := 0) dX11_change_181 rfl rfl ?_
            refine g_bipush X (v := 6) dX11_change_182 (by decide) ?_
            refine g_icmp_ne X (tgt := 250) dX11_change_184 (by decide) (fun hb => ?_) (fun hb => ?_)
            · have h := ite_f hb h
              refine g_aload_n X (j := 1) dX11_change_250 rfl rfl ?_
              refine gf_X11_144 X gT_c122 dX11_change_251 ?_
              refine g_topi (fun v6 e7 => ?_)
              have h := bnd_e e7 h
              refine g_istore_n X (lv' := [(2, .int v6), (1, .int v4), (0, .ref (gad (xz x) 122))]) dX11_change_254 rfl (by decide) rfl ?_
              refine g_aload_n X (j := 2) dX11_change_255 rfl rfl ?_
              refine g_aload_n X (j := 2) dX11_change_256 rfl rfl ?_
              obtain ⟨⟨v9, M10⟩, hc8, h⟩ := bndO_e h
              refine gc_X11_71 X gT_c122 (ct_X11_colour X.htr hsc hc8) (by decide) (Nat.le_of_ble_eq_true rfl) dX11_change_257 ?_
              refine gp_X11_144 X gT_c122 dX11_change_260 ?_
              refine g_mem (fun M11 e12 => ?_)
              have h := bnd_e e12 h
              refine g_aload_n X (j := 2) dX11_change_263 rfl rfl ?_
              refine gf_X11_10 X gT_c122 dX11_change_264 ?_
              refine g_aload_n X (j := 2) dX11_change_267 rfl rfl ?_
              refine gf_X11_144 X gT_c122 dX11_change_268 ?_
              rcases bndT_e h with ⟨_, hc13, h⟩ | ⟨⟨v14, M15⟩, hc13, h⟩
              · cases h
              refine gc_X11_147 X gT_c0 (ct_X10_setBackground X.htr  hc13) (by decide) (Nat.le_of_ble_eq_true rfl) dX11_change_271 ?_
              refine g_iload_n X (j := 0) dX11_change_274 rfl rfl ?_
              refine g_icmp_ne X (tgt := 282) dX11_change_275 (by decide) (fun hb => ?_) (fun hb => ?_)
              · have h := ite_f hb h
                refine g_iconst X (v := 0) dX11_change_282 (by decide) ?_
                cases h
              · have h := ite_t hb h
                refine g_iconst X (v := 1) dX11_change_278 (by decide) ?_
                refine g_goto X (tgt := 283) dX11_change_279 (by decide) ?_
                exact hR x (1 : Int32) M15 _ _ hx X (B.le (by omega)) hz (Option.some.inj h).symm (Or.inr rfl) dX11_change_283
            · have h := ite_t hb h
              refine g_aload_n X (j := 1) dX11_change_187 rfl rfl ?_
              refine g_iconst X (v := 4) dX11_change_188 (by decide) ?_
              obtain ⟨⟨v17, M18⟩, hc16, h⟩ := bndO_e h
              refine gc_X11_64 X gT_c122 (ct_X11_draw X.htr hsc hc16) (by decide) (Nat.le_of_ble_eq_true rfl) dX11_change_189 ?_
              refine g_topi (fun v19 e20 => ?_)
              have h := bnd_e e20 h
              refine g_istore_n X (lv' := [(2, .int v19), (1, .int v4), (0, .ref (gad (xz x) 122))]) dX11_change_192 rfl (by decide) rfl ?_
              refine g_aload_n X (j := 2) dX11_change_193 rfl rfl ?_
              refine gf_X11_37 X gT_c122 dX11_change_194 ?_
              refine g_iload_n X (j := 0) dX11_change_197 rfl rfl ?_
              obtain ⟨hg21, h⟩ := grd_e h
              refine g_zald X gT_c128 hg21 dX11_change_198 ?_
              refine g_topi (fun v22 e23 => ?_)
              have h := bnd_e e23 h
              refine g_istore_n X (lv' := [(3, .int v22), (2, .int v19), (1, .int v4), (0, .ref (gad (xz x) 122))]) dX11_change_199 rfl (by decide) rfl ?_
              refine g_aload_n X (j := 3) dX11_change_200 rfl rfl ?_
              refine gf_X11_37 X gT_c122 dX11_change_201 ?_
              refine g_iload_n X (j := 1) dX11_change_204 rfl rfl ?_
              refine g_aload_n X (j := 3) dX11_change_205 rfl rfl ?_
              refine g_iconst X (v := 2) dX11_change_206 (by decide) ?_
              obtain ⟨⟨v25, M26⟩, hc24, h⟩ := bndO_e h
              refine gc_X11_64 X gT_c122 (ct_X11_draw X.htr hsc hc24) (by decide) (Nat.le_of_ble_eq_true rfl) dX11_change_207 ?_
              refine g_if_ne X (tgt := 217) dX11_change_210 (by decide) (fun hb => ?_) (fun hb => ?_)
              · have h := ite_f hb h
                refine g_iconst X (v := 0) dX11_change_217 (by decide) ?_
                refine g_lv [3, 1, 0] rfl ?_
                exact bw_X11_change_218 hx X (B.le (by omega)) hz  hsc0 hR h
              · have h := ite_t hb h
                refine g_iconst X (v := 1) dX11_change_213 (by decide) ?_
                refine g_goto X (tgt := 218) dX11_change_214 (by decide) ?_
                refine g_lv [3, 1, 0] rfl ?_
                exact bw_X11_change_218 hx X (B.le (by omega)) hz  hsc0 hR h
          · have h := ite_t hb h
            refine g_aload_n X (j := 1) dX11_change_116 rfl rfl ?_
            refine g_aload_n X (j := 1) dX11_change_117 rfl rfl ?_
            refine gf_X11_82 X gT_c122 dX11_change_118 ?_
            obtain ⟨⟨v43, M44⟩, hc42, h⟩ := bndO_e h
            refine gc_X11_64 X gT_c122 (ct_X11_draw X.htr hsc hc42) (by decide) (Nat.le_of_ble_eq_true rfl) dX11_change_121 ?_
            refine g_topi (fun v45 e46 => ?_)
            have h := bnd_e e46 h
            refine g_istore_n X (lv' := [(2, .int v45), (1, .int v4), (0, .ref (gad (xz x) 122))]) dX11_change_124 rfl (by decide) rfl ?_
            refine g_aload_n X (j := 2) dX11_change_125 rfl rfl ?_
            refine gf_X11_26 X gT_c122 dX11_change_126 ?_
            refine g_iload_n X (j := 0) dX11_change_129 rfl rfl ?_
            obtain ⟨hg47, h⟩ := grd_e h
            refine g_aald_29 X gT_c125 hg47 dX11_change_130 ?_
            refine g_topr (fun o48 e49 => ?_)
            have h := bnd_e e49 h
            have k50 : gT o48 = 22 := by rw [e49]; exact gR_29 gT_c125 (gIn_lt hg47)
            refine g_iconst X (v := 2) dX11_change_131 (by decide) ?_
            obtain ⟨hg51, h⟩ := grd_e h
            refine g_zald X k50 hg51 dX11_change_132 ?_
            rw [tn_2]
            refine g_topi (fun v52 e53 => ?_)
            have h := bnd_e e53 h
            refine g_istore_n X (lv' := [(3, .int v52), (2, .int v45), (1, .int v4), (0, .ref (gad (xz x) 122))]) dX11_change_133 rfl (by decide) rfl ?_
            refine g_aload_n X (j := 3) dX11_change_134 rfl rfl ?_
            refine gf_X11_26 X gT_c122 dX11_change_135 ?_
            refine g_iload_n X (j := 1) dX11_change_138 rfl rfl ?_
            obtain ⟨hg54, h⟩ := grd_e h
            refine g_aald_29 X gT_c125 hg54 dX11_change_139 ?_
            refine g_topr (fun o55 e56 => ?_)
            have h := bnd_e e56 h
            have k57 : gT o55 = 22 := by rw [e56]; exact gR_29 gT_c125 (gIn_lt hg54)
            refine g_iconst X (v := 2) dX11_change_140 (by decide) ?_
            refine g_aload_n X (j := 3) dX11_change_141 rfl rfl ?_
            refine g_iconst X (v := 2) dX11_change_142 (by decide) ?_
            obtain ⟨⟨v59, M60⟩, hc58, h⟩ := bndO_e h
            refine gc_X11_64 X gT_c122 (ct_X11_draw X.htr hsc hc58) (by decide) (Nat.le_of_ble_eq_true rfl) dX11_change_143 ?_
            refine g_if_ne X (tgt := 153) dX11_change_146 (by decide) (fun hb => ?_) (fun hb => ?_)
            · have h := ite_f hb h
              refine g_iconst X (v := 0) dX11_change_153 (by decide) ?_
              refine g_lv [3, 1, 0] rfl ?_
              exact bw_X11_change_154 hx X (B.le (by omega)) hz k57 hsc0 hR h
            · have h := ite_t hb h
              refine g_iconst X (v := 1) dX11_change_149 (by decide) ?_
              refine g_goto X (tgt := 154) dX11_change_150 (by decide) ?_
              refine g_lv [3, 1, 0] rfl ?_
              exact bw_X11_change_154 hx X (B.le (by omega)) hz k57 hsc0 hR h
        · have h := ite_t hb h
          refine g_aload_n X (j := 1) dX11_change_55 rfl rfl ?_
          refine g_aload_n X (j := 1) dX11_change_56 rfl rfl ?_
          refine gf_X11_75 X gT_c122 dX11_change_57 ?_
          obtain ⟨⟨v80, M81⟩, hc79, h⟩ := bndO_e h
          refine gc_X11_64 X gT_c122 (ct_X11_draw X.htr hsc hc79) (by decide) (Nat.le_of_ble_eq_true rfl) dX11_change_60 ?_
          refine g_topi (fun v82 e83 => ?_)
          have h := bnd_e e83 h
          refine g_istore_n X (lv' := [(2, .int v82), (1, .int v4), (0, .ref (gad (xz x) 122))]) dX11_change_63 rfl (by decide) rfl ?_
          refine g_aload_n X (j := 2) dX11_change_64 rfl rfl ?_
          refine gf_X11_18 X gT_c122 dX11_change_65 ?_
          refine g_iload_n X (j := 0) dX11_change_68 rfl rfl ?_
          obtain ⟨hg84, h⟩ := grd_e h
          refine g_aald_28 X gT_c123 hg84 dX11_change_69 ?_
          refine g_topr (fun o85 e86 => ?_)
          have h := bnd_e e86 h
          have k87 : gT o85 = 20 := by rw [e86]; exact gR_28 gT_c123 (gIn_lt hg84)
          refine g_iconst X (v := 3) dX11_change_70 (by decide) ?_
          obtain ⟨hg88, h⟩ := grd_e h
          refine g_iald X k87 hg88 dX11_change_71 ?_
          rw [tn_3]
          refine g_topi (fun v89 e90 => ?_)
          have h := bnd_e e90 h
          refine g_istore_n X (lv' := [(3, .int v89), (2, .int v82), (1, .int v4), (0, .ref (gad (xz x) 122))]) dX11_change_72 rfl (by decide) rfl ?_
          refine g_aload_n X (j := 3) dX11_change_73 rfl rfl ?_
          refine gf_X11_18 X gT_c122 dX11_change_74 ?_
          refine g_iload_n X (j := 1) dX11_change_77 rfl rfl ?_
          obtain ⟨hg91, h⟩ := grd_e h
          refine g_aald_28 X gT_c123 hg91 dX11_change_78 ?_
          refine g_topr (fun o92 e93 => ?_)
          have h := bnd_e e93 h
          have k94 : gT o92 = 20 := by rw [e93]; exact gR_28 gT_c123 (gIn_lt hg91)
          refine g_iconst X (v := 3) dX11_change_79 (by decide) ?_
          refine g_aload_n X (j := 3) dX11_change_80 rfl rfl ?_
          obtain ⟨⟨v96, M97⟩, hc95, h⟩ := bndO_e h
          refine gc_X11_71 X gT_c122 (ct_X11_colour X.htr hsc hc95) (by decide) (Nat.le_of_ble_eq_true rfl) dX11_change_81 ?_
          obtain ⟨hg98, h⟩ := grd_e h
          refine g_iast X k94 hg98 dX11_change_84 ?_
          rw [tn_3]
          refine g_mem (fun M99 e100 => ?_)
          have h := bnd_e e100 h
          refine g_aload_n X (j := 3) dX11_change_85 rfl rfl ?_
          refine gf_X11_10 X gT_c122 dX11_change_86 ?_
          refine g_iload_n X (j := 1) dX11_change_89 rfl rfl ?_
          refine g_aload_n X (j := 3) dX11_change_90 rfl rfl ?_
          refine gf_X11_18 X gT_c122 dX11_change_91 ?_
          refine g_iload_n X (j := 1) dX11_change_94 rfl rfl ?_
          obtain ⟨hg101, h⟩ := grd_e h
          refine g_aald_28 X gT_c123 hg101 dX11_change_95 ?_
          refine g_topr (fun o102 e103 => ?_)
          have h := bnd_e e103 h
          have k104 : gT o102 = 20 := by rw [e103]; exact gR_28 gT_c123 (gIn_lt hg101)
          refine g_iconst X (v := 3) dX11_change_96 (by decide) ?_
          obtain ⟨hg105, h⟩ := grd_e h
          refine g_iald X k104 hg105 dX11_change_97 ?_
          rw [tn_3]
          rcases bndT_e h with ⟨_, hc106, h⟩ | ⟨⟨v107, M108⟩, hc106, h⟩
          · cases h
          refine gc_X11_134 X gT_c0 (ct_X10_setColour X.htr  hc106) (by decide) (Nat.le_of_ble_eq_true rfl) dX11_change_98 ?_
          refine g_iload_n X (j := 0) dX11_change_101 rfl rfl ?_
          refine g_icmp_ne X (tgt := 109) dX11_change_102 (by decide) (fun hb => ?_) (fun hb => ?_)
          · have h := ite_f hb h
            refine g_iconst X (v := 0) dX11_change_109 (by decide) ?_
            cases h
          · have h := ite_t hb h
            refine g_iconst X (v := 1) dX11_change_105 (by decide) ?_
            refine g_goto X (tgt := 110) dX11_change_106 (by decide) ?_
            exact hR x (1 : Int32) M108 _ _ hx X (B.le (by omega)) hz (Option.some.inj h).symm (Or.inr rfl) dX11_change_110
      · have h := ite_t hb h
        refine g_aload_n X (j := 1) dX11_change_45 rfl rfl ?_
        obtain ⟨⟨v110, M111⟩, hc109, h⟩ := bndO_e h
        refine gc_X11_132 X gT_c122 (ct_X11_setLens X.htr hsc hc109) (by decide) (Nat.le_of_ble_eq_true rfl) dX11_change_46 ?_
        obtain ⟨hg112, h⟩ := grd_e h
        exact hR x v110 M111 _ _ hx X (B.le (by omega)) hz (Option.some.inj h).symm (gTf_of hg112) dX11_change_49
    · have h := ite_t hb h
      refine g_aload_n X (j := 1) dX11_change_30 rfl rfl ?_
      refine g_aload_n X (j := 1) dX11_change_31 rfl rfl ?_
      refine g_iconst X (v := 3) dX11_change_32 (by decide) ?_
      obtain ⟨⟨v114, M115⟩, hc113, h⟩ := bndO_e h
      refine gc_X11_64 X gT_c122 (ct_X11_draw X.htr hsc hc113) (by decide) (Nat.le_of_ble_eq_true rfl) dX11_change_33 ?_
      obtain ⟨⟨v117, M118⟩, hc116, h⟩ := bndO_e h
      refine gc_X11_129 X hz (k := 0) (B.le (by omega)) gT_c122 (ct_X11_turnCamera X.htr hsc hc116) (by decide) (Nat.le_of_ble_eq_true rfl) dX11_change_36 (fun x hxn X B hz => ?_)
      rw [hxn.ad (g := 122) (by decide)]
      have hx := hx.tr hxn
      have hsc := hx.sc hsc0
      obtain ⟨hg119, h⟩ := grd_e h
      exact hR x v117 M118 _ _ hx X (B.le (by omega)) hz (Option.some.inj h).symm (gTf_of hg119) dX11_change_39
  · have h := ite_f hb h
    refine g_aload_n X (j := 1) dX11_change_12 rfl rfl ?_
    refine g_aload_n X (j := 1) dX11_change_13 rfl rfl ?_
    refine g_aload_n X (j := 1) dX11_change_14 rfl rfl ?_
    refine gf_X11_75 X gT_c122 dX11_change_15 ?_
    obtain ⟨⟨v121, M122⟩, hc120, h⟩ := bndO_e h
    refine gc_X11_64 X gT_c122 (ct_X11_draw X.htr hsc hc120) (by decide) (Nat.le_of_ble_eq_true rfl) dX11_change_18 ?_
    obtain ⟨⟨v124, M125⟩, hc123, h⟩ := bndO_e h
    refine gc_X11_125 X hz (k := 0) (B.le (by omega)) gT_c122 (ct_X11_move X.htr hsc hc123) (by decide) (Nat.le_of_ble_eq_true rfl) dX11_change_21 (fun x hxn X B hz => ?_)
    rw [hxn.ad (g := 122) (by decide)]
    have hx := hx.tr hxn
    have hsc := hx.sc hsc0
    obtain ⟨hg126, h⟩ := grd_e h
    exact hR x v124 M125 _ _ hx X (B.le (by omega)) hz (Option.some.inj h).symm (gTf_of hg126) dX11_change_24
theorem ct_X11_change {l : Launch} {z : GZ} (htr : l.stackTraces = false) {L9 : Nat} {xs9 : Nat → Int32} (hsc : gsl z = L9 ∧ gsx z = xs9)   {M : GM} {F : Nat} {v : Int32} {M1 : GM} (h : f_X11_change F L9 xs9 M = some (v, M1)) : aMet l z yX11_change cX11_change 4 9 [.ref (gad z 122)] M v M1 1 := aMet_of (by decide +kernel) (Nat.le_of_ble_eq_true rfl) htr (fun x X B hz ez el hR => by subst ez; subst el; exact w_X11_change (XR.rf x) X B hz  hsc (fun x9 v9 M9 lv9 pc9 hx9 X9 B9 hz9 e9 z9 d9 => by cases e9; exact hR x9 hx9 X9 B9 hz9 lv9 pc9 z9 d9) h)
