/-! 13.c -/
theorem dX7_blank_0 : decode cX7_blank 0 = .ok (.aload_n 1, 1) := by decide +kernel
theorem dX7_blank_1 : decode cX7_blank 1 = .ok (.getfield 22, 3) := by decide +kernel
theorem dX7_blank_4 : decode cX7_blank 4 = .ok (.istore_n 3, 1) := by decide +kernel
theorem dX7_blank_5 : decode cX7_blank 5 = .ok (.iload_n 3, 1) := by decide +kernel
theorem dX7_blank_6 : decode cX7_blank 6 = .ok (.aload_n 1, 1) := by decide +kernel
theorem dX7_blank_7 : decode cX7_blank 7 = .ok (.getfield 28, 3) := by decide +kernel
theorem dX7_blank_10 : decode cX7_blank 10 = .ok (.if_icmp .gt 64, 3) := by decide +kernel
theorem dX7_blank_13 : decode cX7_blank 13 = .ok (.aload_n 1, 1) := by decide +kernel
theorem dX7_blank_14 : decode cX7_blank 14 = .ok (.getfield 31, 3) := by decide +kernel
theorem dX7_blank_17 : decode cX7_blank 17 = .ok (.istore 4, 2) := by decide +kernel
theorem dX7_blank_19 : decode cX7_blank 19 = .ok (.iload 4, 2) := by decide +kernel
theorem dX7_blank_21 : decode cX7_blank 21 = .ok (.aload_n 1, 1) := by decide +kernel
theorem dX7_blank_22 : decode cX7_blank 22 = .ok (.getfield 34, 3) := by decide +kernel
theorem dX7_blank_25 : decode cX7_blank 25 = .ok (.if_icmp .gt 43, 3) := by decide +kernel
theorem dX7_blank_28 : decode cX7_blank 28 = .ok (.iload_n 3, 1) := by decide +kernel
theorem dX7_blank_29 : decode cX7_blank 29 = .ok (.bipush 40, 2) := by decide +kernel
theorem dX7_blank_31 : decode cX7_blank 31 = .ok (.imul, 1) := by decide +kernel
theorem dX7_blank_32 : decode cX7_blank 32 = .ok (.iload 4, 2) := by decide +kernel
theorem dX7_blank_34 : decode cX7_blank 34 = .ok (.iadd, 1) := by decide +kernel
theorem dX7_blank_35 : decode cX7_blank 35 = .ok (.istore 5, 2) := by decide +kernel
theorem dX7_blank_37 : decode cX7_blank 37 = .ok (.aload_n 0, 1) := by decide +kernel
theorem dX7_blank_38 : decode cX7_blank 38 = .ok (.getfield 9, 3) := by decide +kernel
theorem dX7_blank_41 : decode cX7_blank 41 = .ok (.iload 5, 2) := by decide +kernel
theorem dX7_blank_43 : decode cX7_blank 43 = .ok (.iload_n 2, 1) := by decide +kernel
theorem dX7_blank_44 : decode cX7_blank 44 = .ok (.iastore, 1) := by decide +kernel
theorem dX7_blank_45 : decode cX7_blank 45 = .ok (.aload_n 0, 1) := by decide +kernel
theorem dX7_blank_46 : decode cX7_blank 46 = .ok (.getfield 15, 3) := by decide +kernel
theorem dX7_blank_49 : decode cX7_blank 49 = .ok (.iload 5, 2) := by decide +kernel
theorem dX7_blank_51 : decode cX7_blank 51 = .ok (.ldc 21, 2) := by decide +kernel
theorem dX7_blank_53 : decode cX7_blank 53 = .ok (.iastore, 1) := by decide +kernel
theorem dX7_blank_54 : decode cX7_blank 54 = .ok (.aload_n 0, 1) := by decide +kernel
theorem dX7_blank_55 : decode cX7_blank 55 = .ok (.getfield 18, 3) := by decide +kernel
theorem dX7_blank_58 : decode cX7_blank 58 = .ok (.iload 5, 2) := by decide +kernel
theorem dX7_blank_60 : decode cX7_blank 60 = .ok (.iconst (-1), 1) := by decide +kernel
theorem dX7_blank_61 : decode cX7_blank 61 = .ok (.iastore, 1) := by decide +kernel
theorem dX7_blank_62 : decode cX7_blank 62 = .ok (.iinc 4 1, 3) := by decide +kernel
theorem dX7_blank_65 : decode cX7_blank 65 = .ok (.goto (-46), 3) := by decide +kernel
theorem dX7_blank_68 : decode cX7_blank 68 = .ok (.iinc 3 1, 3) := by decide +kernel
theorem dX7_blank_71 : decode cX7_blank 71 = .ok (.goto (-66), 3) := by decide +kernel
theorem dX7_blank_74 : decode cX7_blank 74 = .ok (.return_, 1) := by decide +kernel
def st_X7_blank_19 (F : Nat) (p11 : Nat) (p13 : Nat) (a15 : Int32) (a16 : Int32) (rec : Int32 → GM → Option GM) (a17 : Int32) (M : GM) : Option GM := if (gI M p13 2) < a17 then (some M) else (bnd ((a16 * (40 : Int32)) + a17) (fun v18 => grd (gIn v18 (gN (p11 + 1))) (bnd (sI M (p11 + 1) v18.toNatClampNeg a15) (fun M21 => grd (gIn v18 (gN (p11 + 2))) (bnd (sI M21 (p11 + 2) v18.toNatClampNeg (65535 : Int32)) (fun M24 => grd (gIn v18 (gN (p11 + 3))) (bnd (sI M24 (p11 + 3) v18.toNatClampNeg ((-1) : Int32)) (fun M27 => bnd (a17 + (1 : Int32)) (fun v29 => rec v29 M27)))))))))
def lp_X7_blank_19 (F : Nat) (p11 : Nat) (p13 : Nat) (a15 : Int32) (a16 : Int32) : Nat → Int32 → GM → Option GM
  | 0 => fun _ _ => none
  | f + 1 => fun a17 M => st_X7_blank_19 F p11 p13 a15 a16 (lp_X7_blank_19 F p11 p13 a15 a16 f) a17 M
set_option maxHeartbeats 4000000 in
set_option maxRecDepth 100000 in
theorem lw_X7_blank_19 {x : GX} (X : GC x cX7_blank 6 RX7 0) {p11 : Nat} {p13 : Nat} {a15 : Int32} {a16 : Int32} (k12 : gT p11 = 7) (k14 : gT p13 = 0) {F : Nat} {r9 : GM} (hE : ∀  (M9 : GM), r9 = M9 → WG x M9 [(0, .ref (gad (xz x) p11)), (1, .ref (gad (xz x) p13)), (2, .int a15), (3, .int a16)] 68 []) : ∀ (f : Nat) (a17 : Int32) (M : GM), lp_X7_blank_19 F p11 p13 a15 a16 f a17 M = some r9 → WG x M [(0, .ref (gad (xz x) p11)), (1, .ref (gad (xz x) p13)), (2, .int a15), (3, .int a16), (4, .int a17)] 19 [] := by
  intro f
  induction f with
  | zero => intro a17 M h; cases h
  | succ f ih =>
    intro a17 M h
    have hrec := ih
    have h : st_X7_blank_19 F p11 p13 a15 a16 (lp_X7_blank_19 F p11 p13 a15 a16 f) a17 M = some r9 := h
    generalize lp_X7_blank_19 F p11 p13 a15 a16 f = rec at h hrec
    unfold st_X7_blank_19 at h
    refine g_iload X (j := 4) dX7_blank_19 rfl ?_
    refine g_aload_n X (j := 1) dX7_blank_21 rfl rfl ?_
    refine gf_X7_34 X k14 dX7_blank_22 ?_
    refine g_icmp_gt X (tgt := 68) dX7_blank_25 (by decide) (fun hb => ?_) (fun hb => ?_)
    · have h := ite_t hb h
      refine g_lv [0, 1, 2, 3] rfl ?_
      exact hE M (Option.some.inj h).symm
    · have h := ite_f hb h
      refine g_iload_n X (j := 3) dX7_blank_28 rfl rfl ?_
      refine g_bipush X (v := 40) dX7_blank_29 (by decide) ?_
      refine g_imul X dX7_blank_31 ?_
      refine g_iload X (j := 4) dX7_blank_32 rfl ?_
      refine g_iadd X dX7_blank_34 ?_
      refine g_topi (fun v18 e19 => ?_)
      have h := bnd_e e19 h
      refine g_istore X (lv' := [(5, .int v18), (0, .ref (gad (xz x) p11)), (1, .ref (gad (xz x) p13)), (2, .int a15), (3, .int a16), (4, .int a17)]) dX7_blank_35 (by decide) rfl ?_
      refine g_aload_n X (j := 1) dX7_blank_37 rfl rfl ?_
      refine gf_X7_9 X k12 dX7_blank_38 ?_
      refine g_iload X (j := 0) dX7_blank_41 rfl ?_
      refine g_iload_n X (j := 3) dX7_blank_43 rfl rfl ?_
      obtain ⟨hg20, h⟩ := grd_e h
      refine g_iast X (gT_7_colours k12) hg20 dX7_blank_44 ?_
      refine g_mem (fun M21 e22 => ?_)
      have h := bnd_e e22 h
      refine g_aload_n X (j := 1) dX7_blank_45 rfl rfl ?_
      refine gf_X7_15 X k12 dX7_blank_46 ?_
      refine g_iload X (j := 0) dX7_blank_49 rfl ?_
      refine g_ldc X q_336 dX7_blank_51 ?_
      obtain ⟨hg23, h⟩ := grd_e h
      refine g_iast X (gT_7_depths k12) hg23 dX7_blank_53 ?_
      refine g_mem (fun M24 e25 => ?_)
      have h := bnd_e e25 h
      refine g_aload_n X (j := 1) dX7_blank_54 rfl rfl ?_
      refine gf_X7_18 X k12 dX7_blank_55 ?_
      refine g_iload X (j := 0) dX7_blank_58 rfl ?_
      refine g_iconst X (v := (-1)) dX7_blank_60 (by decide) ?_
      obtain ⟨hg26, h⟩ := grd_e h
      refine g_iast X (gT_7_panes k12) hg26 dX7_blank_61 ?_
      refine g_mem (fun M27 e28 => ?_)
      have h := bnd_e e28 h
      refine g_iinc X (j := 5) (w := a17 + (1 : Int32)) (lv' := [(5, .int v18), (0, .ref (gad (xz x) p11)), (1, .ref (gad (xz x) p13)), (2, .int a15), (3, .int a16)]) dX7_blank_62 rfl (by rw [ii_1]) (by decide) (fun _ => rfl) (fun v29 e30 => ?_)
      have h := bnd_e e30 h
      refine g_goto X (tgt := 19) dX7_blank_65 (by decide) ?_
      refine g_lv [2, 3, 4, 5, 0] rfl ?_
      exact hrec v29 M27 h
def st_X7_blank_5 (F : Nat) (p3 : Nat) (p5 : Nat) (a7 : Int32) (rec : Int32 → GM → Option GM) (a8 : Int32) (M : GM) : Option GM := if (gI M p5 3) < a8 then (some M) else (bnd (gI M p5 0) (fun v9 => bndO (lp_X7_blank_19 F p3 p5 a7 a8 F v9 M) (fun M31 => bnd (a8 + (1 : Int32)) (fun v33 => rec v33 M31))))
def lp_X7_blank_5 (F : Nat) (p3 : Nat) (p5 : Nat) (a7 : Int32) : Nat → Int32 → GM → Option GM
  | 0 => fun _ _ => none
  | f + 1 => fun a8 M => st_X7_blank_5 F p3 p5 a7 (lp_X7_blank_5 F p3 p5 a7 f) a8 M
set_option maxHeartbeats 4000000 in
set_option maxRecDepth 100000 in
theorem lw_X7_blank_5 {x : GX} (X : GC x cX7_blank 6 RX7 0) {p3 : Nat} {p5 : Nat} {a7 : Int32} (k4 : gT p3 = 7) (k6 : gT p5 = 0) {F : Nat} {r9 : GM} (hE : ∀  (M9 : GM), r9 = M9 → WG x M9 [] 74 []) : ∀ (f : Nat) (a8 : Int32) (M : GM), lp_X7_blank_5 F p3 p5 a7 f a8 M = some r9 → WG x M [(0, .ref (gad (xz x) p3)), (1, .ref (gad (xz x) p5)), (2, .int a7), (3, .int a8)] 5 [] := by
  intro f
  induction f with
  | zero => intro a8 M h; cases h
  | succ f ih =>
    intro a8 M h
    have hrec := ih
    have h : st_X7_blank_5 F p3 p5 a7 (lp_X7_blank_5 F p3 p5 a7 f) a8 M = some r9 := h
    generalize lp_X7_blank_5 F p3 p5 a7 f = rec at h hrec
    unfold st_X7_blank_5 at h
    refine g_iload_n X (j := 3) dX7_blank_5 rfl rfl ?_
    refine g_aload_n X (j := 1) dX7_blank_6 rfl rfl ?_
    refine gf_X7_28 X k6 dX7_blank_7 ?_
    refine g_icmp_gt X (tgt := 74) dX7_blank_10 (by decide) (fun hb => ?_) (fun hb => ?_)
    · have h := ite_t hb h
      refine g_lv [] rfl ?_
      exact hE M (Option.some.inj h).symm
    · have h := ite_f hb h
      refine g_aload_n X (j := 1) dX7_blank_13 rfl rfl ?_
      refine gf_X7_31 X k6 dX7_blank_14 ?_
      refine g_topi (fun v9 e10 => ?_)
      have h := bnd_e e10 h
      refine g_istore X (lv' := [(4, .int v9), (0, .ref (gad (xz x) p3)), (1, .ref (gad (xz x) p5)), (2, .int a7), (3, .int a8)]) dX7_blank_17 (by decide) rfl ?_
      refine g_lv [1, 2, 3, 4, 0] rfl ?_
      obtain ⟨M31, hl32, h⟩ := bndO_e h
      refine lw_X7_blank_19 X k4 k6 (fun M31_ e9 => ?_) F v9 M hl32
      cases e9
      refine g_iinc X (j := 3) (w := a8 + (1 : Int32)) (lv' := [(0, .ref (gad (xz x) p3)), (1, .ref (gad (xz x) p5)), (2, .int a7)]) dX7_blank_68 rfl (by rw [ii_1]) (by decide) (fun _ => rfl) (fun v33 e34 => ?_)
      have h := bnd_e e34 h
      refine g_goto X (tgt := 5) dX7_blank_71 (by decide) ?_
      refine g_lv [1, 2, 3, 0] rfl ?_
      exact hrec v33 M31 h
def f_X7_blank (F : Nat) (t0 : Nat) (p0 : Nat) (i1 : Int32) (M : GM) : Option GM := bnd (gI M p0 1) (fun v1 => bndO (lp_X7_blank_5 F t0 p0 i1 F v1 M) (fun M35 => some M35))
set_option maxHeartbeats 4000000 in
set_option maxRecDepth 100000 in
theorem w_X7_blank {x : GX} (X : GC x cX7_blank 6 RX7 0) {t0 : Nat} {p0 : Nat} {i1 : Int32} (h0 : gT t0 = 7) (h1 : gT p0 = 0) {F : Nat} {M : GM} {r9 : GM} (hR : ∀ (M9 : GM) (lv9 : List (Nat × Value)) (pc9 : Nat), r9 = M9 → decode cX7_blank pc9 = .ok (.return_, 1) → WG x M9 lv9 pc9 []) (h : f_X7_blank F t0 p0 i1 M = some r9) : WG x M [(0, .ref (gad (xz x) t0)), (1, .ref (gad (xz x) p0)), (2, .int i1)] 0 [] := by
  unfold f_X7_blank at h
  refine g_aload_n X (j := 1) dX7_blank_0 rfl rfl ?_
  refine gf_X7_22 X h1 dX7_blank_1 ?_
  refine g_topi (fun v1 e2 => ?_)
  have h := bnd_e e2 h
  refine g_istore_n X (lv' := [(3, .int v1), (0, .ref (gad (xz x) t0)), (1, .ref (gad (xz x) p0)), (2, .int i1)]) dX7_blank_4 rfl (by decide) rfl ?_
  refine g_lv [1, 2, 3, 0] rfl ?_
  obtain ⟨M35, hl36, h⟩ := bndO_e h
  refine lw_X7_blank_5 X h0 h1 (fun M35_ e9 => ?_) F v1 M hl36
  cases e9
  exact hR M35 _ _ (Option.some.inj h).symm dX7_blank_74
theorem ct_X7_blank {l : Launch} {z : GZ} (htr : l.stackTraces = false) {t0 : Nat} {p0 : Nat} {i1 : Int32} (h0 : gT t0 = 7) (h1 : gT p0 = 0) {M : GM} {F : Nat} {M1 : GM} (h : f_X7_blank F t0 p0 i1 M = some M1) : gMet l z yX7_blank cX7_blank 6 none 0 [.ref (gad z t0), .ref (gad z p0), .int i1] M (none) M1 := gMet_ofV (by decide +kernel) (Nat.le_of_ble_eq_true rfl) htr (fun x X ez el hR => by subst ez; subst el; exact w_X7_blank X h0 h1 (fun M9 lv9 pc9 e9 d9 => by cases e9; exact hR lv9 pc9 d9) h)
theorem gm_X7_37 {x : GX} {cc : ByteArray} {nL d pc : Nat} {M : GM} {lv : List (Nat × Value)} {st : List Value} (X : GC x cc nL RX7 d) (hd : 1 ≤ d) (hsum : (st.map fun v => v.category).sum ≤ 8) {g1 g2 n : Nat} {nn : Int32} (h1 : gT g1 = 20) (h2 : gT g2 = 20) (h0 : ¬ nn < 0) (hn : nn.toNatClampNeg = n) (hb1 : n ≤ gN g1) (hb2 : n ≤ gN g2) (dec : decode cc pc = .ok (.invokestatic 37, 3)) (go : WG x (sC M g2 0 n (fun j => gI M g1 j)) lv (pc + 3) st) : WG x M lv pc (.int nn :: .int 0 :: .ref (gad (xz x) g2) :: .int 0 :: .ref (gad (xz x) g1) :: st) := fun H locs ls hP hO hS hl =>
  va_copyi X.1 X.2.1 hl.1.symm X.2.2.2.1 (X.hw q_372) (X.hw q_374) (X.hw q_373) (X.hw q_35) X.hK hP (X.hD M) hS g1 g2 0 0 (gW_at h1 (by decide) (gE_20 h1)) (gW_at h2 (by decide) (gE_20 h2)) rfl rfl rfl (by decide) (by decide) h0 (by rw [hn, tn_0]; omega) (by rw [hn, tn_0]; omega) (fun _ _ => rfl) (by have := X.2.2.2.2.2.2.2.1; omega) (by have h8 := X.2.2.2.2.2.2.2.2.1; have h9 : nativeFrameWords "java/lang/System" "arraycopy" 5 + 11 ≤ 23 := (by decide +kernel); omega) dec (fun H1 locs1 hP1 _ hS1 => go H1 locs1 ls (by
    rw [hn, tn_0, gW_set (M' := sC M g2 0 n (fun j => gI M g1 j)) (by rw [h2]; decide) (by
      rw [gE_20 h2]; refine congrArg (fun f => Sum.inl (gcy (xz x) 20, gN g2, Sum.inl f)) (funext fun j => ?_)
      by_cases h : j < n <;> simp [va_cpy, gI, sC, h]) gE_sC] at hP1
    exact hP1) hO hS1 hl)
theorem dX7_copy_0 : decode cX7_copy 0 = .ok (.aload_n 1, 1) := by decide +kernel
theorem dX7_copy_1 : decode cX7_copy 1 = .ok (.getfield 9, 3) := by decide +kernel
theorem dX7_copy_4 : decode cX7_copy 4 = .ok (.iconst 0, 1) := by decide +kernel
theorem dX7_copy_5 : decode cX7_copy 5 = .ok (.aload_n 0, 1) := by decide +kernel
theorem dX7_copy_6 : decode cX7_copy 6 = .ok (.getfield 9, 3) := by decide +kernel
theorem dX7_copy_9 : decode cX7_copy 9 = .ok (.iconst 0, 1) := by decide +kernel
theorem dX7_copy_10 : decode cX7_copy 10 = .ok (.sipush 960, 3) := by decide +kernel
theorem dX7_copy_13 : decode cX7_copy 13 = .ok (.invokestatic 37, 3) := by decide +kernel
theorem dX7_copy_16 : decode cX7_copy 16 = .ok (.aload_n 1, 1) := by decide +kernel
theorem dX7_copy_17 : decode cX7_copy 17 = .ok (.getfield 15, 3) := by decide +kernel
theorem dX7_copy_20 : decode cX7_copy 20 = .ok (.iconst 0, 1) := by decide +kernel
theorem dX7_copy_21 : decode cX7_copy 21 = .ok (.aload_n 0, 1) := by decide +kernel
theorem dX7_copy_22 : decode cX7_copy 22 = .ok (.getfield 15, 3) := by decide +kernel
theorem dX7_copy_25 : decode cX7_copy 25 = .ok (.iconst 0, 1) := by decide +kernel
theorem dX7_copy_26 : decode cX7_copy 26 = .ok (.sipush 960, 3) := by decide +kernel
theorem dX7_copy_29 : decode cX7_copy 29 = .ok (.invokestatic 37, 3) := by decide +kernel
theorem dX7_copy_32 : decode cX7_copy 32 = .ok (.aload_n 1, 1) := by decide +kernel
theorem dX7_copy_33 : decode cX7_copy 33 = .ok (.getfield 18, 3) := by decide +kernel
theorem dX7_copy_36 : decode cX7_copy 36 = .ok (.iconst 0, 1) := by decide +kernel
theorem dX7_copy_37 : decode cX7_copy 37 = .ok (.aload_n 0, 1) := by decide +kernel
theorem dX7_copy_38 : decode cX7_copy 38 = .ok (.getfield 18, 3) := by decide +kernel
theorem dX7_copy_41 : decode cX7_copy 41 = .ok (.iconst 0, 1) := by decide +kernel
theorem dX7_copy_42 : decode cX7_copy 42 = .ok (.sipush 960, 3) := by decide +kernel
theorem dX7_copy_45 : decode cX7_copy 45 = .ok (.invokestatic 37, 3) := by decide +kernel
theorem dX7_copy_48 : decode cX7_copy 48 = .ok (.return_, 1) := by decide +kernel
def f_X7_copy (F : Nat) (t0 : Nat) (p0 : Nat) (M : GM) : Option GM := grd (decide (960 ≤ gN (p0 + 1))) (grd (decide (960 ≤ gN (t0 + 1))) (bnd (sC M (t0 + 1) 0 960 (fun j => gI M (p0 + 1) j)) (fun M3 => grd (decide (960 ≤ gN (p0 + 2))) (grd (decide (960 ≤ gN (t0 + 2))) (bnd (sC M3 (t0 + 2) 0 960 (fun j => gI M3 (p0 + 2) j)) (fun M7 => grd (decide (960 ≤ gN (p0 + 3))) (grd (decide (960 ≤ gN (t0 + 3))) (bnd (sC M7 (t0 + 3) 0 960 (fun j => gI M7 (p0 + 3) j)) (fun M11 => some M11)))))))))
set_option maxHeartbeats 4000000 in
set_option maxRecDepth 100000 in
theorem w_X7_copy {x : GX} (X : GC x cX7_copy 2 RX7 1) {t0 : Nat} {p0 : Nat} (h0 : gT t0 = 7) (h1 : gT p0 = 7) {F : Nat} {M : GM} {r9 : GM} (hR : ∀ (M9 : GM) (lv9 : List (Nat × Value)) (pc9 : Nat), r9 = M9 → decode cX7_copy pc9 = .ok (.return_, 1) → WG x M9 lv9 pc9 []) (h : f_X7_copy F t0 p0 M = some r9) : WG x M [(0, .ref (gad (xz x) t0)), (1, .ref (gad (xz x) p0))] 0 [] := by
  unfold f_X7_copy at h
  refine g_aload_n X (j := 1) dX7_copy_0 rfl rfl ?_
  refine gf_X7_9 X h1 dX7_copy_1 ?_
  refine g_iconst X (v := 0) dX7_copy_4 (by decide) ?_
  refine g_aload_n X (j := 0) dX7_copy_5 rfl rfl ?_
  refine gf_X7_9 X h0 dX7_copy_6 ?_
  refine g_iconst X (v := 0) dX7_copy_9 (by decide) ?_
  refine g_sipush X (v := 960) dX7_copy_10 (by decide) ?_
  obtain ⟨hg1, h⟩ := grd_e h
  obtain ⟨hg2, h⟩ := grd_e h
  refine gm_X7_37 X (by decide) (Nat.le_of_ble_eq_true rfl) (gT_7_colours h1) (gT_7_colours h0) (n := 960) (by decide) tn_960 (of_decide_eq_true hg1) (of_decide_eq_true hg2) dX7_copy_13 ?_
  refine g_mem (fun M3 e4 => ?_)
  have h := bnd_e e4 h
  refine g_aload_n X (j := 1) dX7_copy_16 rfl rfl ?_
  refine gf_X7_15 X h1 dX7_copy_17 ?_
  refine g_iconst X (v := 0) dX7_copy_20 (by decide) ?_
  refine g_aload_n X (j := 0) dX7_copy_21 rfl rfl ?_
  refine gf_X7_15 X h0 dX7_copy_22 ?_
  refine g_iconst X (v := 0) dX7_copy_25 (by decide) ?_
  refine g_sipush X (v := 960) dX7_copy_26 (by decide) ?_
  obtain ⟨hg5, h⟩ := grd_e h
  obtain ⟨hg6, h⟩ := grd_e h
  refine gm_X7_37 X (by decide) (Nat.le_of_ble_eq_true rfl) (gT_7_depths h1) (gT_7_depths h0) (n := 960) (by decide) tn_960 (of_decide_eq_true hg5) (of_decide_eq_true hg6) dX7_copy_29 ?_
  refine g_mem (fun M7 e8 => ?_)
  have h := bnd_e e8 h
  refine g_aload_n X (j := 1) dX7_copy_32 rfl rfl ?_
  refine gf_X7_18 X h1 dX7_copy_33 ?_
  refine g_iconst X (v := 0) dX7_copy_36 (by decide) ?_
  refine g_aload_n X (j := 0) dX7_copy_37 rfl rfl ?_
  refine gf_X7_18 X h0 dX7_copy_38 ?_
  refine g_iconst X (v := 0) dX7_copy_41 (by decide) ?_
  refine g_sipush X (v := 960) dX7_copy_42 (by decide) ?_
  obtain ⟨hg9, h⟩ := grd_e h
  obtain ⟨hg10, h⟩ := grd_e h
  refine gm_X7_37 X (by decide) (Nat.le_of_ble_eq_true rfl) (gT_7_panes h1) (gT_7_panes h0) (n := 960) (by decide) tn_960 (of_decide_eq_true hg9) (of_decide_eq_true hg10) dX7_copy_45 ?_
  refine g_mem (fun M11 e12 => ?_)
  have h := bnd_e e12 h
  exact hR M11 _ _ (Option.some.inj h).symm dX7_copy_48
theorem ct_X7_copy {l : Launch} {z : GZ} (htr : l.stackTraces = false) {t0 : Nat} {p0 : Nat} (h0 : gT t0 = 7) (h1 : gT p0 = 7) {M : GM} {F : Nat} {M1 : GM} (h : f_X7_copy F t0 p0 M = some M1) : gMet l z yX7_copy cX7_copy 2 none 1 [.ref (gad z t0), .ref (gad z p0)] M (none) M1 := gMet_ofV (by decide +kernel) (Nat.le_of_ble_eq_true rfl) htr (fun x X ez el hR => by subst ez; subst el; exact w_X7_copy X h0 h1 (fun M9 lv9 pc9 e9 d9 => by cases e9; exact hR lv9 pc9 d9) h)
theorem dX7_differsFrom_0 : decode cX7_differsFrom 0 = .ok (.aload_n 2, 1) := by decide +kernel
theorem dX7_differsFrom_1 : decode cX7_differsFrom 1 = .ok (.getfield 22, 3) := by decide +kernel
theorem dX7_differsFrom_4 : decode cX7_differsFrom 4 = .ok (.istore_n 3, 1) := by decide +kernel
theorem dX7_differsFrom_5 : decode cX7_differsFrom 5 = .ok (.iload_n 3, 1) := by decide +kernel
theorem dX7_differsFrom_6 : decode cX7_differsFrom 6 = .ok (.aload_n 2, 1) := by decide +kernel
theorem dX7_differsFrom_7 : decode cX7_differsFrom 7 = .ok (.getfield 28, 3) := by decide +kernel
theorem dX7_differsFrom_10 : decode cX7_differsFrom 10 = .ok (.if_icmp .gt 92, 3) := by decide +kernel
theorem dX7_differsFrom_13 : decode cX7_differsFrom 13 = .ok (.aload_n 2, 1) := by decide +kernel
theorem dX7_differsFrom_14 : decode cX7_differsFrom 14 = .ok (.getfield 31, 3) := by decide +kernel
theorem dX7_differsFrom_17 : decode cX7_differsFrom 17 = .ok (.istore 4, 2) := by decide +kernel
theorem dX7_differsFrom_19 : decode cX7_differsFrom 19 = .ok (.iload 4, 2) := by decide +kernel
theorem dX7_differsFrom_21 : decode cX7_differsFrom 21 = .ok (.aload_n 2, 1) := by decide +kernel
theorem dX7_differsFrom_22 : decode cX7_differsFrom 22 = .ok (.getfield 34, 3) := by decide +kernel
theorem dX7_differsFrom_25 : decode cX7_differsFrom 25 = .ok (.if_icmp .gt 71, 3) := by decide +kernel
theorem dX7_differsFrom_28 : decode cX7_differsFrom 28 = .ok (.iload_n 3, 1) := by decide +kernel
theorem dX7_differsFrom_29 : decode cX7_differsFrom 29 = .ok (.bipush 40, 2) := by decide +kernel
theorem dX7_differsFrom_31 : decode cX7_differsFrom 31 = .ok (.imul, 1) := by decide +kernel
theorem dX7_differsFrom_32 : decode cX7_differsFrom 32 = .ok (.iload 4, 2) := by decide +kernel
theorem dX7_differsFrom_34 : decode cX7_differsFrom 34 = .ok (.iadd, 1) := by decide +kernel
theorem dX7_differsFrom_35 : decode cX7_differsFrom 35 = .ok (.istore 5, 2) := by decide +kernel
theorem dX7_differsFrom_37 : decode cX7_differsFrom 37 = .ok (.aload_n 0, 1) := by decide +kernel
theorem dX7_differsFrom_38 : decode cX7_differsFrom 38 = .ok (.getfield 9, 3) := by decide +kernel
theorem dX7_differsFrom_41 : decode cX7_differsFrom 41 = .ok (.iload 5, 2) := by decide +kernel
theorem dX7_differsFrom_43 : decode cX7_differsFrom 43 = .ok (.iaload, 1) := by decide +kernel
theorem dX7_differsFrom_44 : decode cX7_differsFrom 44 = .ok (.aload_n 1, 1) := by decide +kernel
theorem dX7_differsFrom_45 : decode cX7_differsFrom 45 = .ok (.getfield 9, 3) := by decide +kernel
theorem dX7_differsFrom_48 : decode cX7_differsFrom 48 = .ok (.iload 5, 2) := by decide +kernel
theorem dX7_differsFrom_50 : decode cX7_differsFrom 50 = .ok (.iaload, 1) := by decide +kernel
theorem dX7_differsFrom_51 : decode cX7_differsFrom 51 = .ok (.if_icmp .ne 37, 3) := by decide +kernel
theorem dX7_differsFrom_54 : decode cX7_differsFrom 54 = .ok (.aload_n 0, 1) := by decide +kernel
theorem dX7_differsFrom_55 : decode cX7_differsFrom 55 = .ok (.getfield 15, 3) := by decide +kernel
theorem dX7_differsFrom_58 : decode cX7_differsFrom 58 = .ok (.iload 5, 2) := by decide +kernel
theorem dX7_differsFrom_60 : decode cX7_differsFrom 60 = .ok (.iaload, 1) := by decide +kernel
theorem dX7_differsFrom_61 : decode cX7_differsFrom 61 = .ok (.aload_n 1, 1) := by decide +kernel
theorem dX7_differsFrom_62 : decode cX7_differsFrom 62 = .ok (.getfield 15, 3) := by decide +kernel
theorem dX7_differsFrom_65 : decode cX7_differsFrom 65 = .ok (.iload 5, 2) := by decide +kernel
theorem dX7_differsFrom_67 : decode cX7_differsFrom 67 = .ok (.iaload, 1) := by decide +kernel
theorem dX7_differsFrom_68 : decode cX7_differsFrom 68 = .ok (.if_icmp .ne 20, 3) := by decide +kernel
theorem dX7_differsFrom_71 : decode cX7_differsFrom 71 = .ok (.aload_n 0, 1) := by decide +kernel
theorem dX7_differsFrom_72 : decode cX7_differsFrom 72 = .ok (.getfield 18, 3) := by decide +kernel
theorem dX7_differsFrom_75 : decode cX7_differsFrom 75 = .ok (.iload 5, 2) := by decide +kernel
theorem dX7_differsFrom_77 : decode cX7_differsFrom 77 = .ok (.iaload, 1) := by decide +kernel
theorem dX7_differsFrom_78 : decode cX7_differsFrom 78 = .ok (.aload_n 1, 1) := by decide +kernel
theorem dX7_differsFrom_79 : decode cX7_differsFrom 79 = .ok (.getfield 18, 3) := by decide +kernel
theorem dX7_differsFrom_82 : decode cX7_differsFrom 82 = .ok (.iload 5, 2) := by decide +kernel
theorem dX7_differsFrom_84 : decode cX7_differsFrom 84 = .ok (.iaload, 1) := by decide +kernel
theorem dX7_differsFrom_85 : decode cX7_differsFrom 85 = .ok (.if_icmp .eq 5, 3) := by decide +kernel
theorem dX7_differsFrom_88 : decode cX7_differsFrom 88 = .ok (.iconst 1, 1) := by decide +kernel
theorem dX7_differsFrom_89 : decode cX7_differsFrom 89 = .ok (.ireturn, 1) := by decide +kernel
theorem dX7_differsFrom_90 : decode cX7_differsFrom 90 = .ok (.iinc 4 1, 3) := by decide +kernel
theorem dX7_differsFrom_93 : decode cX7_differsFrom 93 = .ok (.goto (-74), 3) := by decide +kernel
theorem dX7_differsFrom_96 : decode cX7_differsFrom 96 = .ok (.iinc 3 1, 3) := by decide +kernel
theorem dX7_differsFrom_99 : decode cX7_differsFrom 99 = .ok (.goto (-94), 3) := by decide +kernel
theorem dX7_differsFrom_102 : decode cX7_differsFrom 102 = .ok (.iconst 0, 1) := by decide +kernel
theorem dX7_differsFrom_103 : decode cX7_differsFrom 103 = .ok (.ireturn, 1) := by decide +kernel
def st_X7_differsFrom_19 (F : Nat) (p12 : Nat) (p14 : Nat) (p16 : Nat) (a18 : Int32) (rec : Int32 → Option (Unit ⊕ Int32)) (a19 : Int32) (M : GM) : Option (Unit ⊕ Int32) := if (gI M p16 2) < a19 then (some (Sum.inl ())) else (bnd ((a18 * (40 : Int32)) + a19) (fun v20 => grd (gIn v20 (gN (p12 + 1))) (grd (gIn v20 (gN (p14 + 1))) (if (gI M (p12 + 1) v20.toNatClampNeg) = (gI M (p14 + 1) v20.toNatClampNeg) then (grd (gIn v20 (gN (p12 + 2))) (grd (gIn v20 (gN (p14 + 2))) (if (gI M (p12 + 2) v20.toNatClampNeg) = (gI M (p14 + 2) v20.toNatClampNeg) then (grd (gIn v20 (gN (p12 + 3))) (grd (gIn v20 (gN (p14 + 3))) (if (gI M (p12 + 3) v20.toNatClampNeg) = (gI M (p14 + 3) v20.toNatClampNeg) then (bnd (a19 + (1 : Int32)) (fun v28 => rec v28)) else (some (Sum.inr (1 : Int32)))))) else (some (Sum.inr (1 : Int32)))))) else (some (Sum.inr (1 : Int32)))))))
def lp_X7_differsFrom_19 (F : Nat) (p12 : Nat) (p14 : Nat) (p16 : Nat) (a18 : Int32) (M : GM) : Nat → Int32 → Option (Unit ⊕ Int32)
  | 0 => fun _ => none
  | f + 1 => fun a19 => st_X7_differsFrom_19 F p12 p14 p16 a18 (lp_X7_differsFrom_19 F p12 p14 p16 a18 M f) a19 M
set_option maxHeartbeats 4000000 in
set_option maxRecDepth 100000 in
theorem lw_X7_differsFrom_19 {x : GX} (X : GC x cX7_differsFrom 6 RX7 0) {p12 : Nat} {p14 : Nat} {p16 : Nat} {a18 : Int32} (k13 : gT p12 = 7) (k15 : gT p14 = 7) (k17 : gT p16 = 0) {F : Nat} {M : GM} {r9 : (Unit ⊕ Int32)} (hR : ∀ (v9 : Int32) (lv9 : List (Nat × Value)) (pc9 : Nat), r9 = Sum.inr v9 → (v9 = 0 ∨ v9 = 1) → decode cX7_differsFrom pc9 = .ok (.ireturn, 1) → WG x M lv9 pc9 [.int v9]) (hE : r9 = Sum.inl () → WG x M [(0, .ref (gad (xz x) p12)), (1, .ref (gad (xz x) p14)), (2, .ref (gad (xz x) p16)), (3, .int a18)] 96 []) : ∀ (f : Nat) (a19 : Int32), lp_X7_differsFrom_19 F p12 p14 p16 a18 M f a19 = some r9 → WG x M [(0, .ref (gad (xz x) p12)), (1, .ref (gad (xz x) p14)), (2, .ref (gad (xz x) p16)), (3, .int a18), (4, .int a19)] 19 [] := by
  intro f
  induction f with
  | zero => intro a19 h; cases h
  | succ f ih =>
    intro a19 h
    have hrec := ih
    have h : st_X7_differsFrom_19 F p12 p14 p16 a18 (lp_X7_differsFrom_19 F p12 p14 p16 a18 M f) a19 M = some r9 := h
    generalize lp_X7_differsFrom_19 F p12 p14 p16 a18 M f = rec at h hrec
    unfold st_X7_differsFrom_19 at h
    refine g_iload X (j := 4) dX7_differsFrom_19 rfl ?_
    refine g_aload_n X (j := 2) dX7_differsFrom_21 rfl rfl ?_
    refine gf_X7_34 X k17 dX7_differsFrom_22 ?_
    refine g_icmp_gt X (tgt := 96) dX7_differsFrom_25 (by decide) (fun hb => ?_) (fun hb => ?_)
    · have h := ite_t hb h
      refine g_lv [0, 1, 2, 3] rfl ?_
      exact hE  (Option.some.inj h).symm
    · have h := ite_f hb h
      refine g_iload_n X (j := 3) dX7_differsFrom_28 rfl rfl ?_
      refine g_bipush X (v := 40) dX7_differsFrom_29 (by decide) ?_
      refine g_imul X dX7_differsFrom_31 ?_
      refine g_iload X (j := 4) dX7_differsFrom_32 rfl ?_
      refine g_iadd X dX7_differsFrom_34 ?_
      refine g_topi (fun v20 e21 => ?_)
      have h := bnd_e e21 h
      refine g_istore X (lv' := [(5, .int v20), (0, .ref (gad (xz x) p12)), (1, .ref (gad (xz x) p14)), (2, .ref (gad (xz x) p16)), (3, .int a18), (4, .int a19)]) dX7_differsFrom_35 (by decide) rfl ?_
      refine g_aload_n X (j := 1) dX7_differsFrom_37 rfl rfl ?_
      refine gf_X7_9 X k13 dX7_differsFrom_38 ?_
      refine g_iload X (j := 0) dX7_differsFrom_41 rfl ?_
      obtain ⟨hg22, h⟩ := grd_e h
      refine g_iald X (gT_7_colours k13) hg22 dX7_differsFrom_43 ?_
      refine g_aload_n X (j := 2) dX7_differsFrom_44 rfl rfl ?_
      refine gf_X7_9 X k15 dX7_differsFrom_45 ?_
      refine g_iload X (j := 0) dX7_differsFrom_48 rfl ?_
      obtain ⟨hg23, h⟩ := grd_e h
      refine g_iald X (gT_7_colours k15) hg23 dX7_differsFrom_50 ?_
      refine g_icmp_ne X (tgt := 88) dX7_differsFrom_51 (by decide) (fun hb => ?_) (fun hb => ?_)
      · have h := ite_f hb h
        refine g_iconst X (v := 1) dX7_differsFrom_88 (by decide) ?_
        exact hR (1 : Int32) _ _ (Option.some.inj h).symm (Or.inr rfl) dX7_differsFrom_89
      · have h := ite_t hb h
        refine g_aload_n X (j := 1) dX7_differsFrom_54 rfl rfl ?_
        refine gf_X7_15 X k13 dX7_differsFrom_55 ?_
        refine g_iload X (j := 0) dX7_differsFrom_58 rfl ?_
        obtain ⟨hg24, h⟩ := grd_e h
        refine g_iald X (gT_7_depths k13) hg24 dX7_differsFrom_60 ?_
        refine g_aload_n X (j := 2) dX7_differsFrom_61 rfl rfl ?_
        refine gf_X7_15 X k15 dX7_differsFrom_62 ?_
        refine g_iload X (j := 0) dX7_differsFrom_65 rfl ?_
        obtain ⟨hg25, h⟩ := grd_e h
        refine g_iald X (gT_7_depths k15) hg25 dX7_differsFrom_67 ?_
        refine g_icmp_ne X (tgt := 88) dX7_differsFrom_68 (by decide) (fun hb => ?_) (fun hb => ?_)
        · have h := ite_f hb h
          refine g_iconst X (v := 1) dX7_differsFrom_88 (by decide) ?_
          exact hR (1 : Int32) _ _ (Option.some.inj h).symm (Or.inr rfl) dX7_differsFrom_89
        · have h := ite_t hb h
          refine g_aload_n X (j := 1) dX7_differsFrom_71 rfl rfl ?_
          refine gf_X7_18 X k13 dX7_differsFrom_72 ?_
          refine g_iload X (j := 0) dX7_differsFrom_75 rfl ?_
          obtain ⟨hg26, h⟩ := grd_e h
          refine g_iald X (gT_7_panes k13) hg26 dX7_differsFrom_77 ?_
          refine g_aload_n X (j := 2) dX7_differsFrom_78 rfl rfl ?_
          refine gf_X7_18 X k15 dX7_differsFrom_79 ?_
          refine g_iload X (j := 0) dX7_differsFrom_82 rfl ?_
          obtain ⟨hg27, h⟩ := grd_e h
          refine g_iald X (gT_7_panes k15) hg27 dX7_differsFrom_84 ?_
          refine g_icmp_eq X (tgt := 90) dX7_differsFrom_85 (by decide) (fun hb => ?_) (fun hb => ?_)
          · have h := ite_t hb h
            refine g_iinc X (j := 5) (w := a19 + (1 : Int32)) (lv' := [(5, .int v20), (0, .ref (gad (xz x) p12)), (1, .ref (gad (xz x) p14)), (2, .ref (gad (xz x) p16)), (3, .int a18)]) dX7_differsFrom_90 rfl (by rw [ii_1]) (by decide) (fun _ => rfl) (fun v28 e29 => ?_)
            have h := bnd_e e29 h
            refine g_goto X (tgt := 19) dX7_differsFrom_93 (by decide) ?_
            refine g_lv [2, 3, 4, 5, 0] rfl ?_
            exact hrec v28 h
          · have h := ite_f hb h
            refine g_iconst X (v := 1) dX7_differsFrom_88 (by decide) ?_
            exact hR (1 : Int32) _ _ (Option.some.inj h).symm (Or.inr rfl) dX7_differsFrom_89
def st_X7_differsFrom_5 (F : Nat) (p3 : Nat) (p5 : Nat) (p7 : Nat) (rec : Int32 → Option (Unit ⊕ Int32)) (a9 : Int32) (M : GM) : Option (Unit ⊕ Int32) := if (gI M p7 3) < a9 then (some (Sum.inl ())) else (bnd (gI M p7 0) (fun v10 => bndT (lp_X7_differsFrom_19 F p3 p5 p7 a9 M F v10) (fun _ => bnd (a9 + (1 : Int32)) (fun v32 => rec v32)) (fun r31 => some (Sum.inr r31))))
def lp_X7_differsFrom_5 (F : Nat) (p3 : Nat) (p5 : Nat) (p7 : Nat) (M : GM) : Nat → Int32 → Option (Unit ⊕ Int32)
  | 0 => fun _ => none
  | f + 1 => fun a9 => st_X7_differsFrom_5 F p3 p5 p7 (lp_X7_differsFrom_5 F p3 p5 p7 M f) a9 M
set_option maxHeartbeats 4000000 in
set_option maxRecDepth 100000 in
theorem lw_X7_differsFrom_5 {x : GX} (X : GC x cX7_differsFrom 6 RX7 0) {p3 : Nat} {p5 : Nat} {p7 : Nat} (k4 : gT p3 = 7) (k6 : gT p5 = 7) (k8 : gT p7 = 0) {F : Nat} {M : GM} {r9 : (Unit ⊕ Int32)} (hR : ∀ (v9 : Int32) (lv9 : List (Nat × Value)) (pc9 : Nat), r9 = Sum.inr v9 → (v9 = 0 ∨ v9 = 1) → decode cX7_differsFrom pc9 = .ok (.ireturn, 1) → WG x M lv9 pc9 [.int v9]) (hE : r9 = Sum.inl () → WG x M [] 102 []) : ∀ (f : Nat) (a9 : Int32), lp_X7_differsFrom_5 F p3 p5 p7 M f a9 = some r9 → WG x M [(0, .ref (gad (xz x) p3)), (1, .ref (gad (xz x) p5)), (2, .ref (gad (xz x) p7)), (3, .int a9)] 5 [] := by
  intro f
  induction f with
  | zero => intro a9 h; cases h
  | succ f ih =>
    intro a9 h
    have hrec := ih
    have h : st_X7_differsFrom_5 F p3 p5 p7 (lp_X7_differsFrom_5 F p3 p5 p7 M f) a9 M = some r9 := h
    generalize lp_X7_differsFrom_5 F p3 p5 p7 M f = rec at h hrec
    unfold st_X7_differsFrom_5 at h
    refine g_iload_n X (j := 3) dX7_differsFrom_5 rfl rfl ?_
    refine g_aload_n X (j := 2) dX7_differsFrom_6 rfl rfl ?_
    refine gf_X7_28 X k8 dX7_differsFrom_7 ?_
    refine g_icmp_gt X (tgt := 102) dX7_differsFrom_10 (by decide) (fun hb => ?_) (fun hb => ?_)
    · have h := ite_t hb h
      refine g_lv [] rfl ?_
      exact hE  (Option.some.inj h).symm
    · have h := ite_f hb h
      refine g_aload_n X (j := 2) dX7_differsFrom_13 rfl rfl ?_
      refine gf_X7_31 X k8 dX7_differsFrom_14 ?_
      refine g_topi (fun v10 e11 => ?_)
      have h := bnd_e e11 h
      refine g_istore X (lv' := [(4, .int v10), (0, .ref (gad (xz x) p3)), (1, .ref (gad (xz x) p5)), (2, .ref (gad (xz x) p7)), (3, .int a9)]) dX7_differsFrom_17 (by decide) rfl ?_
      refine g_lv [1, 2, 3, 4, 0] rfl ?_
      rcases bndT_e h with ⟨⟨⟩, hl30, h⟩ | ⟨r31, hl30, h⟩
      · refine lw_X7_differsFrom_19 X k4 k6 k8 (by intros; rename_i e9 _ _; cases e9) (fun  e9 => ?_) F v10 hl30
        cases e9
        refine g_iinc X (j := 3) (w := a9 + (1 : Int32)) (lv' := [(0, .ref (gad (xz x) p3)), (1, .ref (gad (xz x) p5)), (2, .ref (gad (xz x) p7))]) dX7_differsFrom_96 rfl (by rw [ii_1]) (by decide) (fun _ => rfl) (fun v32 e33 => ?_)
        have h := bnd_e e33 h
        refine g_goto X (tgt := 5) dX7_differsFrom_99 (by decide) ?_
        refine g_lv [1, 2, 3, 0] rfl ?_
        exact hrec v32 h
      · exact lw_X7_differsFrom_19 X k4 k6 k8 (fun v9 lv9 pc9 e9 z9 d9 => by cases e9; exact hR _ lv9 pc9 (Option.some.inj h).symm z9 d9) (by intros; rename_i e9; cases e9) F v10 hl30
def f_X7_differsFrom (F : Nat) (t0 : Nat) (p0 : Nat) (p1 : Nat) (M : GM) : Option Int32 := bnd (gI M p1 1) (fun v1 => bndT (lp_X7_differsFrom_5 F t0 p0 p1 M F v1) (fun _ => some (0 : Int32)) (fun r35 => some r35))
set_option maxHeartbeats 4000000 in
set_option maxRecDepth 100000 in
theorem w_X7_differsFrom {x : GX} (X : GC x cX7_differsFrom 6 RX7 0) {t0 : Nat} {p0 : Nat} {p1 : Nat} (h0 : gT t0 = 7) (h1 : gT p0 = 7) (h2 : gT p1 = 0) {F : Nat} {M : GM} {r9 : Int32} (hR : ∀ (v9 : Int32) (lv9 : List (Nat × Value)) (pc9 : Nat), r9 = v9 → (v9 = 0 ∨ v9 = 1) → decode cX7_differsFrom pc9 = .ok (.ireturn, 1) → WG x M lv9 pc9 [.int v9]) (h : f_X7_differsFrom F t0 p0 p1 M = some r9) : WG x M [(0, .ref (gad (xz x) t0)), (1, .ref (gad (xz x) p0)), (2, .ref (gad (xz x) p1))] 0 [] := by
  unfold f_X7_differsFrom at h
  refine g_aload_n X (j := 2) dX7_differsFrom_0 rfl rfl ?_
  refine gf_X7_22 X h2 dX7_differsFrom_1 ?_
  refine g_topi (fun v1 e2 => ?_)
  have h := bnd_e e2 h
  refine g_istore_n X (lv' := [(3, .int v1), (0, .ref (gad (xz x) t0)), (1, .ref (gad (xz x) p0)), (2, .ref (gad (xz x) p1))]) dX7_differsFrom_4 rfl (by decide) rfl ?_
  refine g_lv [1, 2, 3, 0] rfl ?_
  rcases bndT_e h with ⟨⟨⟩, hl34, h⟩ | ⟨r35, hl34, h⟩
  · refine lw_X7_differsFrom_5 X h0 h1 h2 (by intros; rename_i e9 _ _; cases e9) (fun  e9 => ?_) F v1 hl34
    cases e9
    refine g_iconst X (v := 0) dX7_differsFrom_102 (by decide) ?_
    exact hR (0 : Int32) _ _ (Option.some.inj h).symm (Or.inl rfl) dX7_differsFrom_103
  · exact lw_X7_differsFrom_5 X h0 h1 h2 (fun v9 lv9 pc9 e9 z9 d9 => by cases e9; exact hR _ lv9 pc9 (Option.some.inj h).symm z9 d9) (by intros; rename_i e9; cases e9) F v1 hl34
theorem ct_X7_differsFrom {l : Launch} {z : GZ} (htr : l.stackTraces = false) {t0 : Nat} {p0 : Nat} {p1 : Nat} (h0 : gT t0 = 7) (h1 : gT p0 = 7) (h2 : gT p1 = 0) {M : GM} {F : Nat} {v : Int32} (h : f_X7_differsFrom F t0 p0 p1 M = some v) : gMet l z yX7_differsFrom cX7_differsFrom 6 (some .boolean) 0 [.ref (gad z t0), .ref (gad z p0), .ref (gad z p1)] M (some (.int v)) M := gMet_ofZ (by decide +kernel) (Nat.le_of_ble_eq_true rfl) htr (fun x X ez el hR => by subst ez; subst el; exact w_X7_differsFrom X h0 h1 h2 (fun v9 lv9 pc9 e9 z9 d9 => by cases e9; exact hR lv9 pc9 z9 d9) h)
theorem gc_X9_40 {x : GX} {cc : ByteArray} {nL d pc : Nat} {M : GM} {lv : List (Nat × Value)} {st : List Value} (X : GC x cc nL RX9 d) {i0 : Int64} {i1 : Int64} {M1 : GM} {r : Int64} (hM : gMet (xl x) (xz x) yJ9_floorDiv_f86c9 cJ9_floorDiv_f86c9 6 (some .long) 0 [.long i0, .long i1] M (some (.long r)) M1) (hd : 1 ≤ d) (hsum : (st.map fun v => v.category).sum ≤ 8) (dec : decode cc pc = .ok (.invokestatic 40, 3)) (go : WG x M1 lv (pc + 3) (.long r :: st)) : WG x M lv pc (.long i1 :: .long i0 :: st) := g_callS X (n := 2) (As := [.long i0, .long i1]) (rest := st) hM q_195 q_196 q_34 q_197 (by decide +kernel) rfl hd (by decide) rfl hsum dec go
theorem dX9_between_0 : decode cX9_between 0 = .ok (.lload 4, 2) := by decide +kernel
theorem dX9_between_2 : decode cX9_between 2 = .ok (.lconst 0, 1) := by decide +kernel
theorem dX9_between_3 : decode cX9_between 3 = .ok (.lcmp, 1) := by decide +kernel
theorem dX9_between_4 : decode cX9_between 4 = .ok (.ifCond .ne 7, 3) := by decide +kernel
theorem dX9_between_7 : decode cX9_between 7 = .ok (.iload_n 0, 1) := by decide +kernel
theorem dX9_between_8 : decode cX9_between 8 = .ok (.goto 17, 3) := by decide +kernel
theorem dX9_between_11 : decode cX9_between 11 = .ok (.iload_n 0, 1) := by decide +kernel
theorem dX9_between_12 : decode cX9_between 12 = .ok (.iload_n 1, 1) := by decide +kernel
theorem dX9_between_13 : decode cX9_between 13 = .ok (.iload_n 0, 1) := by decide +kernel
theorem dX9_between_14 : decode cX9_between 14 = .ok (.isub, 1) := by decide +kernel
theorem dX9_between_15 : decode cX9_between 15 = .ok (.i2l, 1) := by decide +kernel
theorem dX9_between_16 : decode cX9_between 16 = .ok (.lload_n 2, 1) := by decide +kernel
theorem dX9_between_17 : decode cX9_between 17 = .ok (.lmul, 1) := by decide +kernel
theorem dX9_between_18 : decode cX9_between 18 = .ok (.lload 4, 2) := by decide +kernel
theorem dX9_between_20 : decode cX9_between 20 = .ok (.invokestatic 40, 3) := by decide +kernel
theorem dX9_between_23 : decode cX9_between 23 = .ok (.l2i, 1) := by decide +kernel
theorem dX9_between_24 : decode cX9_between 24 = .ok (.iadd, 1) := by decide +kernel
theorem dX9_between_25 : decode cX9_between 25 = .ok (.ireturn, 1) := by decide +kernel
def f_X9_between (F : Nat) (i0 : Int32) (i1 : Int32) (j2 : Int64) (j3 : Int64) (M : GM) : Option Int32 := if (lg_cmp j3 (0 : Int64)) = 0 then (some i0) else (bndO (f_J9_floorDiv_f86c9 F (((i1 - i0).toInt64) * j2) j3 M) (fun w2 => some (i0 + w2.toInt32)))
set_option maxHeartbeats 4000000 in
set_option maxRecDepth 100000 in
theorem w_X9_between {x : GX} (X : GC x cX9_between 6 RX9 1) {i0 : Int32} {i1 : Int32} {j2 : Int64} {j3 : Int64}  {F : Nat} {M : GM} {r9 : Int32} (hR : ∀ (v9 : Int32) (lv9 : List (Nat × Value)) (pc9 : Nat), r9 = v9 → decode cX9_between pc9 = .ok (.ireturn, 1) → WG x M lv9 pc9 [.int v9]) (h : f_X9_between F i0 i1 j2 j3 M = some r9) : WG x M [(0, .int i0), (1, .int i1), (2, .long j2), (4, .long j3)] 0 [] := by
  unfold f_X9_between at h
  refine g_lload X (j := 3) dX9_between_0 rfl ?_
  refine g_lconst X (v := 0) dX9_between_2 (by decide) ?_
  refine g_lcmp X dX9_between_3 ?_
  refine g_if_ne X (tgt := 11) dX9_between_4 (by decide) (fun hb => ?_) (fun hb => ?_)
  · have h := ite_f hb h
    refine g_iload_n X (j := 0) dX9_between_11 rfl rfl ?_
    refine g_iload_n X (j := 1) dX9_between_12 rfl rfl ?_
    refine g_iload_n X (j := 0) dX9_between_13 rfl rfl ?_
    refine g_isub X dX9_between_14 ?_
    refine g_i2l X dX9_between_15 ?_
    refine g_lload_n X (j := 2) dX9_between_16 rfl rfl ?_
    refine g_lmul X dX9_between_17 ?_
    refine g_lload X (j := 3) dX9_between_18 rfl ?_
    obtain ⟨w2, hc1, h⟩ := bndO_e h
    refine gc_X9_40 X (ct_J9_floorDiv_f86c9 X.htr  hc1) (by decide) (Nat.le_of_ble_eq_true rfl) dX9_between_20 ?_
    refine g_l2i X dX9_between_23 ?_
    refine g_iadd X dX9_between_24 ?_
    exact hR (i0 + w2.toInt32) _ _ (Option.some.inj h).symm dX9_between_25
  · have h := ite_t hb h
    refine g_iload_n X (j := 0) dX9_between_7 rfl rfl ?_
    refine g_goto X (tgt := 25) dX9_between_8 (by decide) ?_
    exact hR i0 _ _ (Option.some.inj h).symm dX9_between_25
theorem ct_X9_between {l : Launch} {z : GZ} (htr : l.stackTraces = false) {i0 : Int32} {i1 : Int32} {j2 : Int64} {j3 : Int64}  {M : GM} {F : Nat} {v : Int32} (h : f_X9_between F i0 i1 j2 j3 M = some v) : gMet l z yX9_between cX9_between 6 (some .int) 1 [.int i0, .int i1, .long j2, .long j3] M (some (.int v)) M := gMet_ofI (by decide +kernel) (Nat.le_of_ble_eq_true rfl) htr rfl (fun x X ez el hR => by subst ez; subst el; exact w_X9_between X  (fun v9 lv9 pc9 e9 d9 => by cases e9; exact hR lv9 pc9 d9) h)
theorem gc_X9_36 {x : GX} {cc : ByteArray} {nL d pc : Nat} {M : GM} {lv : List (Nat × Value)} {st : List Value} (X : GC x cc nL RX9 d) {i0 : Int32} {i1 : Int32} {i2 : Int64} {i3 : Int64} {M1 : GM} {r : Int32} (hM : gMet (xl x) (xz x) yX9_between cX9_between 6 (some .int) 1 [.int i0, .int i1, .long i2, .long i3] M (some (.int r)) M1) (hd : 2 ≤ d) (hsum : (st.map fun v => v.category).sum ≤ 8) (dec : decode cc pc = .ok (.invokestatic 36, 3)) (go : WG x M1 lv (pc + 3) (.int r :: st)) : WG x M lv pc (.long i3 :: .long i2 :: .int i1 :: .int i0 :: st) := g_callS X (n := 4) (As := [.int i0, .int i1, .long i2, .long i3]) (rest := st) hM q_192 q_193 q_20 q_194 (by decide +kernel) rfl hd (by decide) rfl hsum dec go
theorem dX9_cut_0 : decode cX9_cut 0 = .ok (.aload_n 1, 1) := by decide +kernel
theorem dX9_cut_1 : decode cX9_cut 1 = .ok (.getfield 18, 3) := by decide +kernel
theorem dX9_cut_4 : decode cX9_cut 4 = .ok (.iload_n 3, 1) := by decide +kernel
theorem dX9_cut_5 : decode cX9_cut 5 = .ok (.isub, 1) := by decide +kernel
theorem dX9_cut_6 : decode cX9_cut 6 = .ok (.i2l, 1) := by decide +kernel
theorem dX9_cut_7 : decode cX9_cut 7 = .ok (.lstore 4, 2) := by decide +kernel
theorem dX9_cut_9 : decode cX9_cut 9 = .ok (.aload_n 1, 1) := by decide +kernel
theorem dX9_cut_10 : decode cX9_cut 10 = .ok (.getfield 18, 3) := by decide +kernel
theorem dX9_cut_13 : decode cX9_cut 13 = .ok (.aload_n 2, 1) := by decide +kernel
theorem dX9_cut_14 : decode cX9_cut 14 = .ok (.getfield 18, 3) := by decide +kernel
theorem dX9_cut_17 : decode cX9_cut 17 = .ok (.isub, 1) := by decide +kernel
theorem dX9_cut_18 : decode cX9_cut 18 = .ok (.i2l, 1) := by decide +kernel
theorem dX9_cut_19 : decode cX9_cut 19 = .ok (.lstore 6, 2) := by decide +kernel
theorem dX9_cut_21 : decode cX9_cut 21 = .ok (.aload_n 0, 1) := by decide +kernel
theorem dX9_cut_22 : decode cX9_cut 22 = .ok (.aload_n 1, 1) := by decide +kernel
theorem dX9_cut_23 : decode cX9_cut 23 = .ok (.getfield 9, 3) := by decide +kernel
theorem dX9_cut_26 : decode cX9_cut 26 = .ok (.aload_n 2, 1) := by decide +kernel
theorem dX9_cut_27 : decode cX9_cut 27 = .ok (.getfield 9, 3) := by decide +kernel
theorem dX9_cut_30 : decode cX9_cut 30 = .ok (.lload 4, 2) := by decide +kernel
theorem dX9_cut_32 : decode cX9_cut 32 = .ok (.lload 6, 2) := by decide +kernel
theorem dX9_cut_34 : decode cX9_cut 34 = .ok (.invokestatic 36, 3) := by decide +kernel
theorem dX9_cut_37 : decode cX9_cut 37 = .ok (.putfield 9, 3) := by decide +kernel
theorem dX9_cut_40 : decode cX9_cut 40 = .ok (.aload_n 0, 1) := by decide +kernel
theorem dX9_cut_41 : decode cX9_cut 41 = .ok (.aload_n 1, 1) := by decide +kernel
theorem dX9_cut_42 : decode cX9_cut 42 = .ok (.getfield 15, 3) := by decide +kernel
theorem dX9_cut_45 : decode cX9_cut 45 = .ok (.aload_n 2, 1) := by decide +kernel
theorem dX9_cut_46 : decode cX9_cut 46 = .ok (.getfield 15, 3) := by decide +kernel
theorem dX9_cut_49 : decode cX9_cut 49 = .ok (.lload 4, 2) := by decide +kernel
theorem dX9_cut_51 : decode cX9_cut 51 = .ok (.lload 6, 2) := by decide +kernel
theorem dX9_cut_53 : decode cX9_cut 53 = .ok (.invokestatic 36, 3) := by decide +kernel
theorem dX9_cut_56 : decode cX9_cut 56 = .ok (.putfield 15, 3) := by decide +kernel
theorem dX9_cut_59 : decode cX9_cut 59 = .ok (.aload_n 0, 1) := by decide +kernel
theorem dX9_cut_60 : decode cX9_cut 60 = .ok (.iload_n 3, 1) := by decide +kernel
theorem dX9_cut_61 : decode cX9_cut 61 = .ok (.putfield 18, 3) := by decide +kernel
theorem dX9_cut_64 : decode cX9_cut 64 = .ok (.aload_n 0, 1) := by decide +kernel
theorem dX9_cut_65 : decode cX9_cut 65 = .ok (.aload_n 1, 1) := by decide +kernel
theorem dX9_cut_66 : decode cX9_cut 66 = .ok (.getfield 21, 3) := by decide +kernel
theorem dX9_cut_69 : decode cX9_cut 69 = .ok (.aload_n 2, 1) := by decide +kernel
theorem dX9_cut_70 : decode cX9_cut 70 = .ok (.getfield 21, 3) := by decide +kernel
theorem dX9_cut_73 : decode cX9_cut 73 = .ok (.lload 4, 2) := by decide +kernel
theorem dX9_cut_75 : decode cX9_cut 75 = .ok (.lload 6, 2) := by decide +kernel
theorem dX9_cut_77 : decode cX9_cut 77 = .ok (.invokestatic 36, 3) := by decide +kernel
theorem dX9_cut_80 : decode cX9_cut 80 = .ok (.putfield 21, 3) := by decide +kernel
theorem dX9_cut_83 : decode cX9_cut 83 = .ok (.aload_n 0, 1) := by decide +kernel
theorem dX9_cut_84 : decode cX9_cut 84 = .ok (.aload_n 1, 1) := by decide +kernel
theorem dX9_cut_85 : decode cX9_cut 85 = .ok (.getfield 24, 3) := by decide +kernel
theorem dX9_cut_88 : decode cX9_cut 88 = .ok (.aload_n 2, 1) := by decide +kernel
theorem dX9_cut_89 : decode cX9_cut 89 = .ok (.getfield 24, 3) := by decide +kernel
theorem dX9_cut_92 : decode cX9_cut 92 = .ok (.lload 4, 2) := by decide +kernel
theorem dX9_cut_94 : decode cX9_cut 94 = .ok (.lload 6, 2) := by decide +kernel
theorem dX9_cut_96 : decode cX9_cut 96 = .ok (.invokestatic 36, 3) := by decide +kernel
theorem dX9_cut_99 : decode cX9_cut 99 = .ok (.putfield 24, 3) := by decide +kernel
theorem dX9_cut_102 : decode cX9_cut 102 = .ok (.aload_n 0, 1) := by decide +kernel
theorem dX9_cut_103 : decode cX9_cut 103 = .ok (.aload_n 1, 1) := by decide +kernel
theorem dX9_cut_104 : decode cX9_cut 104 = .ok (.getfield 27, 3) := by decide +kernel
theorem dX9_cut_107 : decode cX9_cut 107 = .ok (.aload_n 2, 1) := by decide +kernel
theorem dX9_cut_108 : decode cX9_cut 108 = .ok (.getfield 27, 3) := by decide +kernel
theorem dX9_cut_111 : decode cX9_cut 111 = .ok (.lload 4, 2) := by decide +kernel
theorem dX9_cut_113 : decode cX9_cut 113 = .ok (.lload 6, 2) := by decide +kernel
theorem dX9_cut_115 : decode cX9_cut 115 = .ok (.invokestatic 36, 3) := by decide +kernel
theorem dX9_cut_118 : decode cX9_cut 118 = .ok (.putfield 27, 3) := by decide +kernel
theorem dX9_cut_121 : decode cX9_cut 121 = .ok (.aload_n 0, 1) := by decide +kernel
theorem dX9_cut_122 : decode cX9_cut 122 = .ok (.aload_n 1, 1) := by decide +kernel
theorem dX9_cut_123 : decode cX9_cut 123 = .ok (.getfield 30, 3) := by decide +kernel
theorem dX9_cut_126 : decode cX9_cut 126 = .ok (.aload_n 2, 1) := by decide +kernel
theorem dX9_cut_127 : decode cX9_cut 127 = .ok (.getfield 30, 3) := by decide +kernel
theorem dX9_cut_130 : decode cX9_cut 130 = .ok (.lload 4, 2) := by decide +kernel
theorem dX9_cut_132 : decode cX9_cut 132 = .ok (.lload 6, 2) := by decide +kernel
theorem dX9_cut_134 : decode cX9_cut 134 = .ok (.invokestatic 36, 3) := by decide +kernel
theorem dX9_cut_137 : decode cX9_cut 137 = .ok (.putfield 30, 3) := by decide +kernel
theorem dX9_cut_140 : decode cX9_cut 140 = .ok (.aload_n 0, 1) := by decide +kernel
theorem dX9_cut_141 : decode cX9_cut 141 = .ok (.aload_n 1, 1) := by decide +kernel
theorem dX9_cut_142 : decode cX9_cut 142 = .ok (.getfield 33, 3) := by decide +kernel
theorem dX9_cut_145 : decode cX9_cut 145 = .ok (.aload_n 2, 1) := by decide +kernel
theorem dX9_cut_146 : decode cX9_cut 146 = .ok (.getfield 33, 3) := by decide +kernel
theorem dX9_cut_149 : decode cX9_cut 149 = .ok (.lload 4, 2) := by decide +kernel
theorem dX9_cut_151 : decode cX9_cut 151 = .ok (.lload 6, 2) := by decide +kernel
theorem dX9_cut_153 : decode cX9_cut 153 = .ok (.invokestatic 36, 3) := by decide +kernel
theorem dX9_cut_156 : decode cX9_cut 156 = .ok (.putfield 33, 3) := by decide +kernel
theorem dX9_cut_159 : decode cX9_cut 159 = .ok (.return_, 1) := by decide +kernel
def f_X9_cut (F : Nat) (t0 : Nat) (p0 : Nat) (p1 : Nat) (i2 : Int32) (M : GM) : Option GM := bnd (((gI M p0 2) - i2).toInt64) (fun w1 => bnd (((gI M p0 2) - (gI M p1 2)).toInt64) (fun w3 => bndO (f_X9_between F (gI M p0 0) (gI M p1 0) w1 w3 M) (fun v6 => bnd (sI M t0 0 v6) (fun M7 => bndO (f_X9_between F (gI M7 p0 1) (gI M7 p1 1) w1 w3 M7) (fun v10 => bnd (sI M7 t0 1 v10) (fun M11 => bnd (sI M11 t0 2 i2) (fun M13 => bndO (f_X9_between F (gI M13 p0 3) (gI M13 p1 3) w1 w3 M13) (fun v16 => bnd (sI M13 t0 3 v16) (fun M17 => bndO (f_X9_between F (gI M17 p0 4) (gI M17 p1 4) w1 w3 M17) (fun v20 => bnd (sI M17 t0 4 v20) (fun M21 => bndO (f_X9_between F (gI M21 p0 5) (gI M21 p1 5) w1 w3 M21) (fun v24 => bnd (sI M21 t0 5 v24) (fun M25 => bndO (f_X9_between F (gI M25 p0 6) (gI M25 p1 6) w1 w3 M25) (fun v28 => bnd (sI M25 t0 6 v28) (fun M29 => bndO (f_X9_between F (gI M29 p0 7) (gI M29 p1 7) w1 w3 M29) (fun v32 => bnd (sI M29 t0 7 v32) (fun M33 => some M33)))))))))))))))))
set_option maxHeartbeats 4000000 in
set_option maxRecDepth 100000 in
theorem w_X9_cut {x : GX} (X : GC x cX9_cut 8 RX9 2) {t0 : Nat} {p0 : Nat} {p1 : Nat} {i2 : Int32} (h0 : gT t0 = 9) (h1 : gT p0 = 9) (h2 : gT p1 = 9) {F : Nat} {M : GM} {r9 : GM} (hR : ∀ (M9 : GM) (lv9 : List (Nat × Value)) (pc9 : Nat), r9 = M9 → decode cX9_cut pc9 = .ok (.return_, 1) → WG x M9 lv9 pc9 []) (h : f_X9_cut F t0 p0 p1 i2 M = some r9) : WG x M [(0, .ref (gad (xz x) t0)), (1, .ref (gad (xz x) p0)), (2, .ref (gad (xz x) p1)), (3, .int i2)] 0 [] := by
  unfold f_X9_cut at h
  refine g_aload_n X (j := 1) dX9_cut_0 rfl rfl ?_
  refine gf_X9_18 X h1 dX9_cut_1 ?_
  refine g_iload_n X (j := 3) dX9_cut_4 rfl rfl ?_
  refine g_isub X dX9_cut_5 ?_
  refine g_i2l X dX9_cut_6 ?_
  refine g_topl (fun w1 e2 => ?_)
  have h := bnd_e e2 h
  refine g_lstore X (lv' := [(4, .long w1), (0, .ref (gad (xz x) t0)), (1, .ref (gad (xz x) p0)), (2, .ref (gad (xz x) p1)), (3, .int i2)]) dX9_cut_7 (by decide) rfl ?_
  refine g_aload_n X (j := 2) dX9_cut_9 rfl rfl ?_
  refine gf_X9_18 X h1 dX9_cut_10 ?_
  refine g_aload_n X (j := 3) dX9_cut_13 rfl rfl ?_
  refine gf_X9_18 X h2 dX9_cut_14 ?_
  refine g_isub X dX9_cut_17 ?_
  refine g_i2l X dX9_cut_18 ?_
  refine g_topl (fun w3 e4 => ?_)
  have h := bnd_e e4 h
  refine g_lstore X (lv' := [(6, .long w3), (4, .long w1), (0, .ref (gad (xz x) t0)), (1, .ref (gad (xz x) p0)), (2, .ref (gad (xz x) p1)), (3, .int i2)]) dX9_cut_19 (by decide) rfl ?_
  refine g_aload_n X (j := 2) dX9_cut_21 rfl rfl ?_
  refine g_aload_n X (j := 3) dX9_cut_22 rfl rfl ?_
  refine gf_X9_9 X h1 dX9_cut_23 ?_
  refine g_aload_n X (j := 4) dX9_cut_26 rfl rfl ?_
  refine gf_X9_9 X h2 dX9_cut_27 ?_
  refine g_lload X (j := 1) dX9_cut_30 rfl ?_
  refine g_lload X (j := 0) dX9_cut_32 rfl ?_
  obtain ⟨v6, hc5, h⟩ := bndO_e h
  refine gc_X9_36 X (ct_X9_between X.htr  hc5) (by decide) (Nat.le_of_ble_eq_true rfl) dX9_cut_34 ?_
  refine gp_X9_9 X h0 dX9_cut_37 ?_
  refine g_mem (fun M7 e8 => ?_)
  have h := bnd_e e8 h
  refine g_aload_n X (j := 2) dX9_cut_40 rfl rfl ?_
  refine g_aload_n X (j := 3) dX9_cut_41 rfl rfl ?_
  refine gf_X9_15 X h1 dX9_cut_42 ?_
  refine g_aload_n X (j := 4) dX9_cut_45 rfl rfl ?_
  refine gf_X9_15 X h2 dX9_cut_46 ?_
  refine g_lload X (j := 1) dX9_cut_49 rfl ?_
  refine g_lload X (j := 0) dX9_cut_51 rfl ?_
  obtain ⟨v10, hc9, h⟩ := bndO_e h
  refine gc_X9_36 X (ct_X9_between X.htr  hc9) (by decide) (Nat.le_of_ble_eq_true rfl) dX9_cut_53 ?_
  refine gp_X9_15 X h0 dX9_cut_56 ?_
  refine g_mem (fun M11 e12 => ?_)
  have h := bnd_e e12 h
  refine g_aload_n X (j := 2) dX9_cut_59 rfl rfl ?_
  refine g_iload_n X (j := 5) dX9_cut_60 rfl rfl ?_
  refine gp_X9_18 X h0 dX9_cut_61 ?_
  refine g_mem (fun M13 e14 => ?_)
  have h := bnd_e e14 h
  refine g_aload_n X (j := 2) dX9_cut_64 rfl rfl ?_
  refine g_aload_n X (j := 3) dX9_cut_65 rfl rfl ?_
  refine gf_X9_21 X h1 dX9_cut_66 ?_
  refine g_aload_n X (j := 4) dX9_cut_69 rfl rfl ?_
  refine gf_X9_21 X h2 dX9_cut_70 ?_
  refine g_lload X (j := 1) dX9_cut_73 rfl ?_
  refine g_lload X (j := 0) dX9_cut_75 rfl ?_
  obtain ⟨v16, hc15, h⟩ := bndO_e h
  refine gc_X9_36 X (ct_X9_between X.htr  hc15) (by decide) (Nat.le_of_ble_eq_true rfl) dX9_cut_77 ?_
  refine gp_X9_21 X h0 dX9_cut_80 ?_
  refine g_mem (fun M17 e18 => ?_)
  have h := bnd_e e18 h
  refine g_aload_n X (j := 2) dX9_cut_83 rfl rfl ?_
  refine g_aload_n X (j := 3) dX9_cut_84 rfl rfl ?_
  refine gf_X9_24 X h1 dX9_cut_85 ?_
  refine g_aload_n X (j := 4) dX9_cut_88 rfl rfl ?_
  refine gf_X9_24 X h2 dX9_cut_89 ?_
  refine g_lload X (j := 1) dX9_cut_92 rfl ?_
  refine g_lload X (j := 0) dX9_cut_94 rfl ?_
  obtain ⟨v20, hc19, h⟩ := bndO_e h
  refine gc_X9_36 X (ct_X9_between X.htr  hc19) (by decide) (Nat.le_of_ble_eq_true rfl) dX9_cut_96 ?_
  refine gp_X9_24 X h0 dX9_cut_99 ?_
  refine g_mem (fun M21 e22 => ?_)
  have h := bnd_e e22 h
  refine g_aload_n X (j := 2) dX9_cut_102 rfl rfl ?_
  refine g_aload_n X (j := 3) dX9_cut_103 rfl rfl ?_
  refine gf_X9_27 X h1 dX9_cut_104 ?_
  refine g_aload_n X (j := 4) dX9_cut_107 rfl rfl ?_
  refine gf_X9_27 X h2 dX9_cut_108 ?_
  refine g_lload X (j := 1) dX9_cut_111 rfl ?_
  refine g_lload X (j := 0) dX9_cut_113 rfl ?_
  obtain ⟨v24, hc23, h⟩ := bndO_e h
  refine gc_X9_36 X (ct_X9_between X.htr  hc23) (by decide) (Nat.le_of_ble_eq_true rfl) dX9_cut_115 ?_
  refine gp_X9_27 X h0 dX9_cut_118 ?_
  refine g_mem (fun M25 e26 => ?_)
  have h := bnd_e e26 h
  refine g_aload_n X (j := 2) dX9_cut_121 rfl rfl ?_
  refine g_aload_n X (j := 3) dX9_cut_122 rfl rfl ?_
  refine gf_X9_30 X h1 dX9_cut_123 ?_
  refine g_aload_n X (j := 4) dX9_cut_126 rfl rfl ?_
  refine gf_X9_30 X h2 dX9_cut_127 ?_
  refine g_lload X (j := 1) dX9_cut_130 rfl ?_
  refine g_lload X (j := 0) dX9_cut_132 rfl ?_
  obtain ⟨v28, hc27, h⟩ := bndO_e h
  refine gc_X9_36 X (ct_X9_between X.htr  hc27) (by decide) (Nat.le_of_ble_eq_true rfl) dX9_cut_134 ?_
  refine gp_X9_30 X h0 dX9_cut_137 ?_
  refine g_mem (fun M29 e30 => ?_)
  have h := bnd_e e30 h
  refine g_aload_n X (j := 2) dX9_cut_140 rfl rfl ?_
  refine g_aload_n X (j := 3) dX9_cut_141 rfl rfl ?_
  refine gf_X9_33 X h1 dX9_cut_142 ?_
  refine g_aload_n X (j := 4) dX9_cut_145 rfl rfl ?_
  refine gf_X9_33 X h2 dX9_cut_146 ?_
  refine g_lload X (j := 1) dX9_cut_149 rfl ?_
  refine g_lload X (j := 0) dX9_cut_151 rfl ?_
  obtain ⟨v32, hc31, h⟩ := bndO_e h
  refine gc_X9_36 X (ct_X9_between X.htr  hc31) (by decide) (Nat.le_of_ble_eq_true rfl) dX9_cut_153 ?_
  refine gp_X9_33 X h0 dX9_cut_156 ?_
  refine g_mem (fun M33 e34 => ?_)
  have h := bnd_e e34 h
  exact hR M33 _ _ (Option.some.inj h).symm dX9_cut_159
theorem ct_X9_cut {l : Launch} {z : GZ} (htr : l.stackTraces = false) {t0 : Nat} {p0 : Nat} {p1 : Nat} {i2 : Int32} (h0 : gT t0 = 9) (h1 : gT p0 = 9) (h2 : gT p1 = 9) {M : GM} {F : Nat} {M1 : GM} (h : f_X9_cut F t0 p0 p1 i2 M = some M1) : gMet l z yX9_cut cX9_cut 8 none 2 [.ref (gad z t0), .ref (gad z p0), .ref (gad z p1), .int i2] M (none) M1 := gMet_ofV (by decide +kernel) (Nat.le_of_ble_eq_true rfl) htr (fun x X ez el hR => by subst ez; subst el; exact w_X9_cut X h0 h1 h2 (fun M9 lv9 pc9 e9 d9 => by cases e9; exact hR lv9 pc9 d9) h)
theorem dX9_copy_0 : decode cX9_copy 0 = .ok (.aload_n 0, 1) := by decide +kernel
theorem dX9_copy_1 : decode cX9_copy 1 = .ok (.aload_n 1, 1) := by decide +kernel
theorem dX9_copy_2 : decode cX9_copy 2 = .ok (.getfield 9, 3) := by decide +kernel
theorem dX9_copy_5 : decode cX9_copy 5 = .ok (.putfield 9, 3) := by decide +kernel
theorem dX9_copy_8 : decode cX9_copy 8 = .ok (.aload_n 0, 1) := by decide +kernel
theorem dX9_copy_9 : decode cX9_copy 9 = .ok (.aload_n 1, 1) := by decide +kernel
theorem dX9_copy_10 : decode cX9_copy 10 = .ok (.getfield 15, 3) := by decide +kernel
theorem dX9_copy_13 : decode cX9_copy 13 = .ok (.putfield 15, 3) := by decide +kernel
theorem dX9_copy_16 : decode cX9_copy 16 = .ok (.aload_n 0, 1) := by decide +kernel
theorem dX9_copy_17 : decode cX9_copy 17 = .ok (.aload_n 1, 1) := by decide +kernel
theorem dX9_copy_18 : decode cX9_copy 18 = .ok (.getfield 18, 3) := by decide +kernel
theorem dX9_copy_21 : decode cX9_copy 21 = .ok (.putfield 18, 3) := by decide +kernel
theorem dX9_copy_24 : decode cX9_copy 24 = .ok (.aload_n 0, 1) := by decide +kernel
theorem dX9_copy_25 : decode cX9_copy 25 = .ok (.aload_n 1, 1) := by decide +kernel
theorem dX9_copy_26 : decode cX9_copy 26 = .ok (.getfield 21, 3) := by decide +kernel
theorem dX9_copy_29 : decode cX9_copy 29 = .ok (.putfield 21, 3) := by decide +kernel
theorem dX9_copy_32 : decode cX9_copy 32 = .ok (.aload_n 0, 1) := by decide +kernel
theorem dX9_copy_33 : decode cX9_copy 33 = .ok (.aload_n 1, 1) := by decide +kernel
theorem dX9_copy_34 : decode cX9_copy 34 = .ok (.getfield 24, 3) := by decide +kernel
theorem dX9_copy_37 : decode cX9_copy 37 = .ok (.putfield 24, 3) := by decide +kernel
theorem dX9_copy_40 : decode cX9_copy 40 = .ok (.aload_n 0, 1) := by decide +kernel
theorem dX9_copy_41 : decode cX9_copy 41 = .ok (.aload_n 1, 1) := by decide +kernel
theorem dX9_copy_42 : decode cX9_copy 42 = .ok (.getfield 27, 3) := by decide +kernel
theorem dX9_copy_45 : decode cX9_copy 45 = .ok (.putfield 27, 3) := by decide +kernel
theorem dX9_copy_48 : decode cX9_copy 48 = .ok (.aload_n 0, 1) := by decide +kernel
theorem dX9_copy_49 : decode cX9_copy 49 = .ok (.aload_n 1, 1) := by decide +kernel
theorem dX9_copy_50 : decode cX9_copy 50 = .ok (.getfield 30, 3) := by decide +kernel
theorem dX9_copy_53 : decode cX9_copy 53 = .ok (.putfield 30, 3) := by decide +kernel
theorem dX9_copy_56 : decode cX9_copy 56 = .ok (.aload_n 0, 1) := by decide +kernel
theorem dX9_copy_57 : decode cX9_copy 57 = .ok (.aload_n 1, 1) := by decide +kernel
theorem dX9_copy_58 : decode cX9_copy 58 = .ok (.getfield 33, 3) := by decide +kernel
theorem dX9_copy_61 : decode cX9_copy 61 = .ok (.putfield 33, 3) := by decide +kernel
theorem dX9_copy_64 : decode cX9_copy 64 = .ok (.return_, 1) := by decide +kernel
def f_X9_copy (t0 : Nat) (p0 : Nat) (M : GM) : GM := bnd (sI M t0 0 (gI M p0 0)) (fun M1 => bnd (sI M1 t0 1 (gI M1 p0 1)) (fun M3 => bnd (sI M3 t0 2 (gI M3 p0 2)) (fun M5 => bnd (sI M5 t0 3 (gI M5 p0 3)) (fun M7 => bnd (sI M7 t0 4 (gI M7 p0 4)) (fun M9 => bnd (sI M9 t0 5 (gI M9 p0 5)) (fun M11 => bnd (sI M11 t0 6 (gI M11 p0 6)) (fun M13 => bnd (sI M13 t0 7 (gI M13 p0 7)) (fun M15 => M15))))))))
set_option maxHeartbeats 4000000 in
set_option maxRecDepth 100000 in
theorem w_X9_copy {x : GX} (X : GC x cX9_copy 2 RX9 0) {t0 : Nat} {p0 : Nat} (h0 : gT t0 = 9) (h1 : gT p0 = 9) {M : GM} {r9 : GM} (hR : ∀ (M9 : GM) (lv9 : List (Nat × Value)) (pc9 : Nat), r9 = M9 → decode cX9_copy pc9 = .ok (.return_, 1) → WG x M9 lv9 pc9 []) (h : f_X9_copy t0 p0 M = r9) : WG x M [(0, .ref (gad (xz x) t0)), (1, .ref (gad (xz x) p0))] 0 [] := by
  unfold f_X9_copy at h
  refine g_aload_n X (j := 0) dX9_copy_0 rfl rfl ?_
  refine g_aload_n X (j := 1) dX9_copy_1 rfl rfl ?_
  refine gf_X9_9 X h1 dX9_copy_2 ?_
  refine gp_X9_9 X h0 dX9_copy_5 ?_
  refine g_mem (fun M1 e2 => ?_)
  have h := bnd_e e2 h
  refine g_aload_n X (j := 0) dX9_copy_8 rfl rfl ?_
  refine g_aload_n X (j := 1) dX9_copy_9 rfl rfl ?_
  refine gf_X9_15 X h1 dX9_copy_10 ?_
  refine gp_X9_15 X h0 dX9_copy_13 ?_
  refine g_mem (fun M3 e4 => ?_)
  have h := bnd_e e4 h
  refine g_aload_n X (j := 0) dX9_copy_16 rfl rfl ?_
  refine g_aload_n X (j := 1) dX9_copy_17 rfl rfl ?_
  refine gf_X9_18 X h1 dX9_copy_18 ?_
  refine gp_X9_18 X h0 dX9_copy_21 ?_
  refine g_mem (fun M5 e6 => ?_)
  have h := bnd_e e6 h
  refine g_aload_n X (j := 0) dX9_copy_24 rfl rfl ?_
  refine g_aload_n X (j := 1) dX9_copy_25 rfl rfl ?_
  refine gf_X9_21 X h1 dX9_copy_26 ?_
  refine gp_X9_21 X h0 dX9_copy_29 ?_
  refine g_mem (fun M7 e8 => ?_)
  have h := bnd_e e8 h
  refine g_aload_n X (j := 0) dX9_copy_32 rfl rfl ?_
  refine g_aload_n X (j := 1) dX9_copy_33 rfl rfl ?_
  refine gf_X9_24 X h1 dX9_copy_34 ?_
  refine gp_X9_24 X h0 dX9_copy_37 ?_
  refine g_mem (fun M9 e10 => ?_)
  have h := bnd_e e10 h
  refine g_aload_n X (j := 0) dX9_copy_40 rfl rfl ?_
  refine g_aload_n X (j := 1) dX9_copy_41 rfl rfl ?_
  refine gf_X9_27 X h1 dX9_copy_42 ?_
  refine gp_X9_27 X h0 dX9_copy_45 ?_
  refine g_mem (fun M11 e12 => ?_)
  have h := bnd_e e12 h
  refine g_aload_n X (j := 0) dX9_copy_48 rfl rfl ?_
  refine g_aload_n X (j := 1) dX9_copy_49 rfl rfl ?_
  refine gf_X9_30 X h1 dX9_copy_50 ?_
  refine gp_X9_30 X h0 dX9_copy_53 ?_
  refine g_mem (fun M13 e14 => ?_)
  have h := bnd_e e14 h
  refine g_aload_n X (j := 0) dX9_copy_56 rfl rfl ?_
  refine g_aload_n X (j := 1) dX9_copy_57 rfl rfl ?_
  refine gf_X9_33 X h1 dX9_copy_58 ?_
  refine gp_X9_33 X h0 dX9_copy_61 ?_
  refine g_mem (fun M15 e16 => ?_)
  have h := bnd_e e16 h
  exact hR M15 _ _ h.symm dX9_copy_64
theorem ct_X9_copy {l : Launch} {z : GZ} (htr : l.stackTraces = false) {t0 : Nat} {p0 : Nat} (h0 : gT t0 = 9) (h1 : gT p0 = 9) {M : GM} : gMet l z yX9_copy cX9_copy 2 none 0 [.ref (gad z t0), .ref (gad z p0)] M (none) (f_X9_copy t0 p0 M) := gMet_ofV (by decide +kernel) (Nat.le_of_ble_eq_true rfl) htr (fun x X ez el hR => by subst ez; subst el; exact w_X9_copy X h0 h1 (fun M9 lv9 pc9 e9 d9 => by cases e9; exact hR lv9 pc9 d9) rfl)
theorem gc_X8_35 {x : GX} {cc : ByteArray} {nL d pc : Nat} {M : GM} {lv : List (Nat × Value)} {st : List Value} (X : GC x cc nL RX8 d) {i0 : Nat} {M1 : GM} {g : Nat} (ht : gT g = 9) (hM : gMet (xl x) (xz x) yX9_copy cX9_copy 2 none 0 [.ref (gad (xz x) g), .ref (gad (xz x) i0)] M (none) M1) (hd : 1 ≤ d) (hsum : (st.map fun v => v.category).sum ≤ 8) (dec : decode cc pc = .ok (.invokevirtual 35, 3)) (go : WG x M1 lv (pc + 3) (st)) : WG x M lv pc (.ref (gad (xz x) i0) :: .ref (gad (xz x) g) :: st) := g_callV X (n := 1) (As := [.ref (gad (xz x) i0)]) (rest := st) hM ht (by decide) (gE_9 ht) rfl q_184 q_185 q_186 q_20 q_187 (by decide +kernel) rfl hd (by decide) rfl hsum dec go
theorem gc_X8_39 {x : GX} {cc : ByteArray} {nL d pc : Nat} {M : GM} {lv : List (Nat × Value)} {st : List Value} (X : GC x cc nL RX8 d) {i0 : Nat} {i1 : Nat} {i2 : Int32} {M1 : GM} {g : Nat} (ht : gT g = 9) (hM : gMet (xl x) (xz x) yX9_cut cX9_cut 8 none 2 [.ref (gad (xz x) g), .ref (gad (xz x) i0), .ref (gad (xz x) i1), .int i2] M (none) M1) (hd : 3 ≤ d) (hsum : (st.map fun v => v.category).sum ≤ 8) (dec : decode cc pc = .ok (.invokevirtual 39, 3)) (go : WG x M1 lv (pc + 3) (st)) : WG x M lv pc (.int i2 :: .ref (gad (xz x) i1) :: .ref (gad (xz x) i0) :: .ref (gad (xz x) g) :: st) := g_callV X (n := 3) (As := [.ref (gad (xz x) i0), .ref (gad (xz x) i1), .int i2]) (rest := st) hM ht (by decide) (gE_9 ht) rfl q_188 q_189 q_190 q_20 q_191 (by decide +kernel) rfl hd (by decide) rfl hsum dec go
theorem dX8_cutAt_0 : decode cX8_cutAt 0 = .ok (.aload_n 0, 1) := by decide +kernel
theorem dX8_cutAt_1 : decode cX8_cutAt 1 = .ok (.iconst 0, 1) := by decide +kernel
theorem dX8_cutAt_2 : decode cX8_cutAt 2 = .ok (.putfield 28, 3) := by decide +kernel
theorem dX8_cutAt_5 : decode cX8_cutAt 5 = .ok (.iconst 0, 1) := by decide +kernel
theorem dX8_cutAt_6 : decode cX8_cutAt 6 = .ok (.istore_n 2, 1) := by decide +kernel
theorem dX8_cutAt_7 : decode cX8_cutAt 7 = .ok (.iload_n 2, 1) := by decide +kernel
theorem dX8_cutAt_8 : decode cX8_cutAt 8 = .ok (.aload_n 0, 1) := by decide +kernel
theorem dX8_cutAt_9 : decode cX8_cutAt 9 = .ok (.getfield 12, 3) := by decide +kernel
theorem dX8_cutAt_12 : decode cX8_cutAt 12 = .ok (.arraylength, 1) := by decide +kernel
theorem dX8_cutAt_13 : decode cX8_cutAt 13 = .ok (.if_icmp .ge 167, 3) := by decide +kernel
theorem dX8_cutAt_16 : decode cX8_cutAt 16 = .ok (.aload_n 0, 1) := by decide +kernel
theorem dX8_cutAt_17 : decode cX8_cutAt 17 = .ok (.getfield 12, 3) := by decide +kernel
theorem dX8_cutAt_20 : decode cX8_cutAt 20 = .ok (.iload_n 2, 1) := by decide +kernel
theorem dX8_cutAt_21 : decode cX8_cutAt 21 = .ok (.aaload, 1) := by decide +kernel
theorem dX8_cutAt_22 : decode cX8_cutAt 22 = .ok (.astore_n 3, 1) := by decide +kernel
theorem dX8_cutAt_23 : decode cX8_cutAt 23 = .ok (.aload_n 0, 1) := by decide +kernel
theorem dX8_cutAt_24 : decode cX8_cutAt 24 = .ok (.getfield 12, 3) := by decide +kernel
theorem dX8_cutAt_27 : decode cX8_cutAt 27 = .ok (.iload_n 2, 1) := by decide +kernel
theorem dX8_cutAt_28 : decode cX8_cutAt 28 = .ok (.iconst 1, 1) := by decide +kernel
theorem dX8_cutAt_29 : decode cX8_cutAt 29 = .ok (.iadd, 1) := by decide +kernel
theorem dX8_cutAt_30 : decode cX8_cutAt 30 = .ok (.aload_n 0, 1) := by decide +kernel
theorem dX8_cutAt_31 : decode cX8_cutAt 31 = .ok (.getfield 12, 3) := by decide +kernel
theorem dX8_cutAt_34 : decode cX8_cutAt 34 = .ok (.arraylength, 1) := by decide +kernel
theorem dX8_cutAt_35 : decode cX8_cutAt 35 = .ok (.irem, 1) := by decide +kernel
theorem dX8_cutAt_36 : decode cX8_cutAt 36 = .ok (.aaload, 1) := by decide +kernel
theorem dX8_cutAt_37 : decode cX8_cutAt 37 = .ok (.astore 4, 2) := by decide +kernel
theorem dX8_cutAt_39 : decode cX8_cutAt 39 = .ok (.aload_n 3, 1) := by decide +kernel
theorem dX8_cutAt_40 : decode cX8_cutAt 40 = .ok (.getfield 32, 3) := by decide +kernel
theorem dX8_cutAt_43 : decode cX8_cutAt 43 = .ok (.iload_n 1, 1) := by decide +kernel
theorem dX8_cutAt_44 : decode cX8_cutAt 44 = .ok (.if_icmp .lt 7, 3) := by decide +kernel
theorem dX8_cutAt_47 : decode cX8_cutAt 47 = .ok (.iconst 1, 1) := by decide +kernel
theorem dX8_cutAt_48 : decode cX8_cutAt 48 = .ok (.goto 4, 3) := by decide +kernel
theorem dX8_cutAt_51 : decode cX8_cutAt 51 = .ok (.iconst 0, 1) := by decide +kernel
theorem dX8_cutAt_52 : decode cX8_cutAt 52 = .ok (.istore 5, 2) := by decide +kernel
theorem dX8_cutAt_54 : decode cX8_cutAt 54 = .ok (.aload 4, 2) := by decide +kernel
theorem dX8_cutAt_56 : decode cX8_cutAt 56 = .ok (.getfield 32, 3) := by decide +kernel
theorem dX8_cutAt_59 : decode cX8_cutAt 59 = .ok (.iload_n 1, 1) := by decide +kernel
theorem dX8_cutAt_60 : decode cX8_cutAt 60 = .ok (.if_icmp .lt 7, 3) := by decide +kernel
theorem dX8_cutAt_63 : decode cX8_cutAt 63 = .ok (.iconst 1, 1) := by decide +kernel
theorem dX8_cutAt_64 : decode cX8_cutAt 64 = .ok (.goto 4, 3) := by decide +kernel
theorem dX8_cutAt_67 : decode cX8_cutAt 67 = .ok (.iconst 0, 1) := by decide +kernel
theorem dX8_cutAt_68 : decode cX8_cutAt 68 = .ok (.istore 6, 2) := by decide +kernel
theorem dX8_cutAt_70 : decode cX8_cutAt 70 = .ok (.iload 5, 2) := by decide +kernel
theorem dX8_cutAt_72 : decode cX8_cutAt 72 = .ok (.ifCond .eq 38, 3) := by decide +kernel
theorem dX8_cutAt_75 : decode cX8_cutAt 75 = .ok (.aload_n 0, 1) := by decide +kernel
theorem dX8_cutAt_76 : decode cX8_cutAt 76 = .ok (.getfield 28, 3) := by decide +kernel
theorem dX8_cutAt_79 : decode cX8_cutAt 79 = .ok (.aload_n 0, 1) := by decide +kernel
theorem dX8_cutAt_80 : decode cX8_cutAt 80 = .ok (.getfield 18, 3) := by decide +kernel
theorem dX8_cutAt_83 : decode cX8_cutAt 83 = .ok (.arraylength, 1) := by decide +kernel
theorem dX8_cutAt_84 : decode cX8_cutAt 84 = .ok (.if_icmp .ge 26, 3) := by decide +kernel
theorem dX8_cutAt_87 : decode cX8_cutAt 87 = .ok (.aload_n 0, 1) := by decide +kernel
theorem dX8_cutAt_88 : decode cX8_cutAt 88 = .ok (.getfield 18, 3) := by decide +kernel
theorem dX8_cutAt_91 : decode cX8_cutAt 91 = .ok (.aload_n 0, 1) := by decide +kernel
theorem dX8_cutAt_92 : decode cX8_cutAt 92 = .ok (.getfield 28, 3) := by decide +kernel
theorem dX8_cutAt_95 : decode cX8_cutAt 95 = .ok (.aaload, 1) := by decide +kernel
theorem dX8_cutAt_96 : decode cX8_cutAt 96 = .ok (.aload_n 3, 1) := by decide +kernel
theorem dX8_cutAt_97 : decode cX8_cutAt 97 = .ok (.invokevirtual 35, 3) := by decide +kernel
theorem dX8_cutAt_100 : decode cX8_cutAt 100 = .ok (.aload_n 0, 1) := by decide +kernel
theorem dX8_cutAt_101 : decode cX8_cutAt 101 = .ok (.dup, 1) := by decide +kernel
theorem dX8_cutAt_102 : decode cX8_cutAt 102 = .ok (.getfield 28, 3) := by decide +kernel
theorem dX8_cutAt_105 : decode cX8_cutAt 105 = .ok (.iconst 1, 1) := by decide +kernel
theorem dX8_cutAt_106 : decode cX8_cutAt 106 = .ok (.iadd, 1) := by decide +kernel
theorem dX8_cutAt_107 : decode cX8_cutAt 107 = .ok (.putfield 28, 3) := by decide +kernel
theorem dX8_cutAt_110 : decode cX8_cutAt 110 = .ok (.iload 5, 2) := by decide +kernel
theorem dX8_cutAt_112 : decode cX8_cutAt 112 = .ok (.iload 6, 2) := by decide +kernel
theorem dX8_cutAt_114 : decode cX8_cutAt 114 = .ok (.if_icmp .eq 60, 3) := by decide +kernel
theorem dX8_cutAt_117 : decode cX8_cutAt 117 = .ok (.aload_n 0, 1) := by decide +kernel
theorem dX8_cutAt_118 : decode cX8_cutAt 118 = .ok (.getfield 28, 3) := by decide +kernel
theorem dX8_cutAt_121 : decode cX8_cutAt 121 = .ok (.aload_n 0, 1) := by decide +kernel
theorem dX8_cutAt_122 : decode cX8_cutAt 122 = .ok (.getfield 18, 3) := by decide +kernel
theorem dX8_cutAt_125 : decode cX8_cutAt 125 = .ok (.arraylength, 1) := by decide +kernel
theorem dX8_cutAt_126 : decode cX8_cutAt 126 = .ok (.if_icmp .ge 48, 3) := by decide +kernel
theorem dX8_cutAt_129 : decode cX8_cutAt 129 = .ok (.aload_n 0, 1) := by decide +kernel
theorem dX8_cutAt_130 : decode cX8_cutAt 130 = .ok (.getfield 18, 3) := by decide +kernel
theorem dX8_cutAt_133 : decode cX8_cutAt 133 = .ok (.aload_n 0, 1) := by decide +kernel
theorem dX8_cutAt_134 : decode cX8_cutAt 134 = .ok (.getfield 28, 3) := by decide +kernel
theorem dX8_cutAt_137 : decode cX8_cutAt 137 = .ok (.aaload, 1) := by decide +kernel
theorem dX8_cutAt_138 : decode cX8_cutAt 138 = .ok (.iload 5, 2) := by decide +kernel
theorem dX8_cutAt_140 : decode cX8_cutAt 140 = .ok (.ifCond .eq 7, 3) := by decide +kernel
theorem dX8_cutAt_143 : decode cX8_cutAt 143 = .ok (.aload_n 3, 1) := by decide +kernel
theorem dX8_cutAt_144 : decode cX8_cutAt 144 = .ok (.goto 5, 3) := by decide +kernel
theorem dX8_cutAt_147 : decode cX8_cutAt 147 = .ok (.aload 4, 2) := by decide +kernel
theorem dX8_cutAt_149 : decode cX8_cutAt 149 = .ok (.iload 5, 2) := by decide +kernel
theorem dX8_cutAt_151 : decode cX8_cutAt 151 = .ok (.ifCond .eq 8, 3) := by decide +kernel
theorem dX8_cutAt_154 : decode cX8_cutAt 154 = .ok (.aload 4, 2) := by decide +kernel
theorem dX8_cutAt_156 : decode cX8_cutAt 156 = .ok (.goto 4, 3) := by decide +kernel
theorem dX8_cutAt_159 : decode cX8_cutAt 159 = .ok (.aload_n 3, 1) := by decide +kernel
theorem dX8_cutAt_160 : decode cX8_cutAt 160 = .ok (.iload_n 1, 1) := by decide +kernel
theorem dX8_cutAt_161 : decode cX8_cutAt 161 = .ok (.invokevirtual 39, 3) := by decide +kernel
theorem dX8_cutAt_164 : decode cX8_cutAt 164 = .ok (.aload_n 0, 1) := by decide +kernel
theorem dX8_cutAt_165 : decode cX8_cutAt 165 = .ok (.dup, 1) := by decide +kernel
theorem dX8_cutAt_166 : decode cX8_cutAt 166 = .ok (.getfield 28, 3) := by decide +kernel
theorem dX8_cutAt_169 : decode cX8_cutAt 169 = .ok (.iconst 1, 1) := by decide +kernel
theorem dX8_cutAt_170 : decode cX8_cutAt 170 = .ok (.iadd, 1) := by decide +kernel
theorem dX8_cutAt_171 : decode cX8_cutAt 171 = .ok (.putfield 28, 3) := by decide +kernel
theorem dX8_cutAt_174 : decode cX8_cutAt 174 = .ok (.iinc 2 1, 3) := by decide +kernel
theorem dX8_cutAt_177 : decode cX8_cutAt 177 = .ok (.goto (-170), 3) := by decide +kernel
theorem dX8_cutAt_180 : decode cX8_cutAt 180 = .ok (.return_, 1) := by decide +kernel
def bk_X8_cutAt_160_7 (F : Nat) (rec : Int32 → GM → Option GM) (a5 : Int32) (a57 : Int32) (p58 : Nat) (p60 : Nat) (p62 : Nat) (M : GM) : Option GM := bndO (f_X9_cut F p62 p60 p58 a5 M) (fun M65 => bnd (sI M65 6 3 ((gI M65 6 3) + (1 : Int32))) (fun M66 => bnd (a57 + (1 : Int32)) (fun v68 => rec v68 M66)))
set_option maxHeartbeats 4000000 in
set_option maxRecDepth 100000 in
theorem bw_X8_cutAt_160_7 {x : GX} (X : GC x cX8_cutAt 7 RX8 3) {a5 : Int32} {a57 : Int32} {p58 : Nat} {p60 : Nat} {p62 : Nat}  (k59 : gT p58 = 9) (k61 : gT p60 = 9) (k63 : gT p62 = 9) {F : Nat} {rec : Int32 → GM → Option GM} {M : GM} {r9 : GM} (hE : ∀  (M9 : GM), r9 = M9 → WG x M9 [] 180 []) (hrec : ∀ (a6_9 : Int32) (M9 : GM), rec a6_9 M9 = some r9 → WG x M9 [(0, .ref (gad (xz x) 6)), (1, .int a5), (2, .int a6_9)] 7 []) (h : bk_X8_cutAt_160_7 F rec a5 a57 p58 p60 p62 M = some r9) : WG x M [(0, .ref (gad (xz x) 6)), (1, .int a5), (2, .int a57)] 160 [.ref (gad (xz x) p58), .ref (gad (xz x) p60), .ref (gad (xz x) p62)] := by
  unfold bk_X8_cutAt_160_7 at h
  refine g_iload_n X (j := 1) dX8_cutAt_160 rfl rfl ?_
  obtain ⟨M65, hc64, h⟩ := bndO_e h
  refine gc_X8_39 X k63 (ct_X9_cut X.htr k63 k61 k59 hc64) (by decide) (Nat.le_of_ble_eq_true rfl) dX8_cutAt_161 ?_
  refine g_aload_n X (j := 0) dX8_cutAt_164 rfl rfl ?_
  refine g_dup X dX8_cutAt_165 rfl ?_
  refine gf_X8_28 X gT_c6 dX8_cutAt_166 ?_
  refine g_iconst X (v := 1) dX8_cutAt_169 (by decide) ?_
  refine g_iadd X dX8_cutAt_170 ?_
  refine gp_X8_28 X gT_c6 dX8_cutAt_171 ?_
  refine g_mem (fun M66 e67 => ?_)
  have h := bnd_e e67 h
  refine g_iinc X (j := 2) (w := a57 + (1 : Int32)) (lv' := [(0, .ref (gad (xz x) 6)), (1, .int a5)]) dX8_cutAt_174 rfl (by rw [ii_1]) (by decide) (fun _ => rfl) (fun v68 e69 => ?_)
  have h := bnd_e e69 h
  refine g_goto X (tgt := 7) dX8_cutAt_177 (by decide) ?_
  refine g_lv [1, 2, 0] rfl ?_
  exact hrec v68 M66 h
def bk_X8_cutAt_149_7 (F : Nat) (rec : Int32 → GM → Option GM) (a5 : Int32) (a47 : Int32) (p48 : Nat) (p50 : Nat) (a52 : Int32) (p53 : Nat) (p55 : Nat) (M : GM) : Option GM := if a52 = 0 then (bk_X8_cutAt_160_7 F rec a5 a47 p48 p53 p55 M) else (bk_X8_cutAt_160_7 F rec a5 a47 p50 p53 p55 M)
set_option maxHeartbeats 4000000 in
set_option maxRecDepth 100000 in
theorem bw_X8_cutAt_149_7 {x : GX} (X : GC x cX8_cutAt 7 RX8 3) {a5 : Int32} {a47 : Int32} {p48 : Nat} {p50 : Nat} {a52 : Int32} {p53 : Nat} {p55 : Nat}  (k49 : gT p48 = 9) (k51 : gT p50 = 9) (k54 : gT p53 = 9) (k56 : gT p55 = 9) {F : Nat} {rec : Int32 → GM → Option GM} {M : GM} {r9 : GM} (hE : ∀  (M9 : GM), r9 = M9 → WG x M9 [] 180 []) (hrec : ∀ (a6_9 : Int32) (M9 : GM), rec a6_9 M9 = some r9 → WG x M9 [(0, .ref (gad (xz x) 6)), (1, .int a5), (2, .int a6_9)] 7 []) (h : bk_X8_cutAt_149_7 F rec a5 a47 p48 p50 a52 p53 p55 M = some r9) : WG x M [(0, .ref (gad (xz x) 6)), (1, .int a5), (2, .int a47), (3, .ref (gad (xz x) p48)), (4, .ref (gad (xz x) p50)), (5, .int a52)] 149 [.ref (gad (xz x) p53), .ref (gad (xz x) p55)] := by
  unfold bk_X8_cutAt_149_7 at h
  refine g_iload X (j := 5) dX8_cutAt_149 rfl ?_
  refine g_if_eq X (tgt := 159) dX8_cutAt_151 (by decide) (fun hb => ?_) (fun hb => ?_)
  · have h := ite_t hb h
    refine g_aload_n X (j := 3) dX8_cutAt_159 rfl rfl ?_
    refine g_lv [0, 1, 2] rfl ?_
    exact bw_X8_cutAt_160_7 X k49 k54 k56 hE hrec h
  · have h := ite_f hb h
    refine g_aload X (j := 4) dX8_cutAt_154 rfl ?_
    refine g_goto X (tgt := 160) dX8_cutAt_156 (by decide) ?_
    refine g_lv [0, 1, 2] rfl ?_
    exact bw_X8_cutAt_160_7 X k51 k54 k56 hE hrec h
def bk_X8_cutAt_110_7 (F : Nat) (rec : Int32 → GM → Option GM) (a5 : Int32) (a32 : Int32) (p33 : Nat) (p35 : Nat) (a37 : Int32) (a38 : Int32) (M : GM) : Option GM := if a37 = a38 then (bnd (a32 + (1 : Int32)) (fun v39 => rec v39 M)) else (if (4 : Int32) ≤ (gI M 6 3) then (bnd (a32 + (1 : Int32)) (fun v41 => rec v41 M)) else (grd (gIn (gI M 6 3) (gN 11)) (bnd (gR 11 (gI M 6 3).toNatClampNeg) (fun o44 => if a37 = 0 then (bk_X8_cutAt_149_7 F rec a5 a32 p33 p35 a37 p35 o44 M) else (bk_X8_cutAt_149_7 F rec a5 a32 p33 p35 a37 p33 o44 M)))))
set_option maxHeartbeats 4000000 in
set_option maxRecDepth 100000 in
theorem bw_X8_cutAt_110_7 {x : GX} (X : GC x cX8_cutAt 7 RX8 3) {a5 : Int32} {a32 : Int32} {p33 : Nat} {p35 : Nat} {a37 : Int32} {a38 : Int32}  (k34 : gT p33 = 9) (k36 : gT p35 = 9) {F : Nat} {rec : Int32 → GM → Option GM} {M : GM} {r9 : GM} (hE : ∀  (M9 : GM), r9 = M9 → WG x M9 [] 180 []) (hrec : ∀ (a6_9 : Int32) (M9 : GM), rec a6_9 M9 = some r9 → WG x M9 [(0, .ref (gad (xz x) 6)), (1, .int a5), (2, .int a6_9)] 7 []) (h : bk_X8_cutAt_110_7 F rec a5 a32 p33 p35 a37 a38 M = some r9) : WG x M [(0, .ref (gad (xz x) 6)), (1, .int a5), (2, .int a32), (3, .ref (gad (xz x) p33)), (4, .ref (gad (xz x) p35)), (5, .int a37), (6, .int a38)] 110 [] := by
  unfold bk_X8_cutAt_110_7 at h
  refine g_iload X (j := 5) dX8_cutAt_110 rfl ?_
  refine g_iload X (j := 6) dX8_cutAt_112 rfl ?_
  refine g_icmp_eq X (tgt := 174) dX8_cutAt_114 (by decide) (fun hb => ?_) (fun hb => ?_)
  · have h := ite_t hb h
    refine g_iinc X (j := 2) (w := a32 + (1 : Int32)) (lv' := [(0, .ref (gad (xz x) 6)), (1, .int a5), (3, .ref (gad (xz x) p33)), (4, .ref (gad (xz x) p35)), (5, .int a37), (6, .int a38)]) dX8_cutAt_174 rfl (by rw [ii_1]) (by decide) (fun _ => rfl) (fun v39 e40 => ?_)
    have h := bnd_e e40 h
    refine g_goto X (tgt := 7) dX8_cutAt_177 (by decide) ?_
    refine g_lv [1, 2, 0] rfl ?_
    exact hrec v39 M h
  · have h := ite_f hb h
    refine g_aload_n X (j := 0) dX8_cutAt_117 rfl rfl ?_
    refine gf_X8_28 X gT_c6 dX8_cutAt_118 ?_
    refine g_aload_n X (j := 0) dX8_cutAt_121 rfl rfl ?_
    refine gf_X8_18 X gT_c6 dX8_cutAt_122 ?_
    refine g_alen_26 X gT_c11 dX8_cutAt_125 ?_
    rw [show Int32.ofNat (gN 11) = 4 by decide +kernel]
    refine g_icmp_ge X (tgt := 174) dX8_cutAt_126 (by decide) (fun hb => ?_) (fun hb => ?_)
    · have h := ite_t hb h
      refine g_iinc X (j := 2) (w := a32 + (1 : Int32)) (lv' := [(0, .ref (gad (xz x) 6)), (1, .int a5), (3, .ref (gad (xz x) p33)), (4, .ref (gad (xz x) p35)), (5, .int a37), (6, .int a38)]) dX8_cutAt_174 rfl (by rw [ii_1]) (by decide) (fun _ => rfl) (fun v41 e42 => ?_)
      have h := bnd_e e42 h
      refine g_goto X (tgt := 7) dX8_cutAt_177 (by decide) ?_
      refine g_lv [1, 2, 0] rfl ?_
      exact hrec v41 M h
    · have h := ite_f hb h
      refine g_aload_n X (j := 0) dX8_cutAt_129 rfl rfl ?_
      refine gf_X8_18 X gT_c6 dX8_cutAt_130 ?_
      refine g_aload_n X (j := 0) dX8_cutAt_133 rfl rfl ?_
      refine gf_X8_28 X gT_c6 dX8_cutAt_134 ?_
      obtain ⟨hg43, h⟩ := grd_e h
      refine g_aald_26 X gT_c11 hg43 dX8_cutAt_137 ?_
      refine g_topr (fun o44 e45 => ?_)
      have h := bnd_e e45 h
      have k46 : gT o44 = 9 := by rw [e45]; exact gR_26 gT_c11 (gIn_lt hg43)
      refine g_iload X (j := 5) dX8_cutAt_138 rfl ?_
      refine g_if_eq X (tgt := 147) dX8_cutAt_140 (by decide) (fun hb => ?_) (fun hb => ?_)
      · have h := ite_t hb h
        refine g_aload X (j := 4) dX8_cutAt_147 rfl ?_
        refine g_lv [0, 1, 2, 3, 4, 5] rfl ?_
        exact bw_X8_cutAt_149_7 X k34 k36 k36 k46 hE hrec h
      · have h := ite_f hb h
        refine g_aload_n X (j := 3) dX8_cutAt_143 rfl rfl ?_
        refine g_goto X (tgt := 149) dX8_cutAt_144 (by decide) ?_
        refine g_lv [0, 1, 2, 3, 4, 5] rfl ?_
        exact bw_X8_cutAt_149_7 X k34 k36 k34 k46 hE hrec h
def bk_X8_cutAt_68_7 (F : Nat) (rec : Int32 → GM → Option GM) (a5 : Int32) (a23 : Int32) (p24 : Nat) (p26 : Nat) (a28 : Int32) (a29 : Int32) (M : GM) : Option GM := bnd a29 (fun v30 => if a28 = 0 then (bk_X8_cutAt_110_7 F rec a5 a23 p24 p26 a28 v30 M) else (if (4 : Int32) ≤ (gI M 6 3) then (bk_X8_cutAt_110_7 F rec a5 a23 p24 p26 a28 v30 M) else (grd (gIn (gI M 6 3) (gN 11)) (bnd (gR 11 (gI M 6 3).toNatClampNeg) (fun o71 => bnd (f_X9_copy o71 p24 M) (fun M74 => bnd (sI M74 6 3 ((gI M74 6 3) + (1 : Int32))) (fun M76 => bk_X8_cutAt_110_7 F rec a5 a23 p24 p26 a28 v30 M76)))))))
set_option maxHeartbeats 4000000 in
set_option maxRecDepth 100000 in
theorem bw_X8_cutAt_68_7 {x : GX} (X : GC x cX8_cutAt 7 RX8 3) {a5 : Int32} {a23 : Int32} {p24 : Nat} {p26 : Nat} {a28 : Int32} {a29 : Int32}  (k25 : gT p24 = 9) (k27 : gT p26 = 9) {F : Nat} {rec : Int32 → GM → Option GM} {M : GM} {r9 : GM} (hE : ∀  (M9 : GM), r9 = M9 → WG x M9 [] 180 []) (hrec : ∀ (a6_9 : Int32) (M9 : GM), rec a6_9 M9 = some r9 → WG x M9 [(0, .ref (gad (xz x) 6)), (1, .int a5), (2, .int a6_9)] 7 []) (h : bk_X8_cutAt_68_7 F rec a5 a23 p24 p26 a28 a29 M = some r9) : WG x M [(0, .ref (gad (xz x) 6)), (1, .int a5), (2, .int a23), (3, .ref (gad (xz x) p24)), (4, .ref (gad (xz x) p26)), (5, .int a28)] 68 [.int a29] := by
  unfold bk_X8_cutAt_68_7 at h
  refine g_topi (fun v30 e31 => ?_)
  have h := bnd_e e31 h
  refine g_istore X (lv' := [(6, .int v30), (0, .ref (gad (xz x) 6)), (1, .int a5), (2, .int a23), (3, .ref (gad (xz x) p24)), (4, .ref (gad (xz x) p26)), (5, .int a28)]) dX8_cutAt_68 (by decide) rfl ?_
  refine g_iload X (j := 6) dX8_cutAt_70 rfl ?_
  refine g_if_eq X (tgt := 110) dX8_cutAt_72 (by decide) (fun hb => ?_) (fun hb => ?_)
  · have h := ite_t hb h
    refine g_lv [1, 2, 3, 4, 5, 6, 0] rfl ?_
    exact bw_X8_cutAt_110_7 X k25 k27 hE hrec h
  · have h := ite_f hb h
    refine g_aload_n X (j := 1) dX8_cutAt_75 rfl rfl ?_
    refine gf_X8_28 X gT_c6 dX8_cutAt_76 ?_
    refine g_aload_n X (j := 1) dX8_cutAt_79 rfl rfl ?_
    refine gf_X8_18 X gT_c6 dX8_cutAt_80 ?_
    refine g_alen_26 X gT_c11 dX8_cutAt_83 ?_
    rw [show Int32.ofNat (gN 11) = 4 by decide +kernel]
    refine g_icmp_ge X (tgt := 110) dX8_cutAt_84 (by decide) (fun hb => ?_) (fun hb => ?_)
    · have h := ite_t hb h
      refine g_lv [1, 2, 3, 4, 5, 6, 0] rfl ?_
      exact bw_X8_cutAt_110_7 X k25 k27 hE hrec h
    · have h := ite_f hb h
      refine g_aload_n X (j := 1) dX8_cutAt_87 rfl rfl ?_
      refine gf_X8_18 X gT_c6 dX8_cutAt_88 ?_
      refine g_aload_n X (j := 1) dX8_cutAt_91 rfl rfl ?_
      refine gf_X8_28 X gT_c6 dX8_cutAt_92 ?_
      obtain ⟨hg70, h⟩ := grd_e h
      refine g_aald_26 X gT_c11 hg70 dX8_cutAt_95 ?_
      refine g_topr (fun o71 e72 => ?_)
      have h := bnd_e e72 h
      have k73 : gT o71 = 9 := by rw [e72]; exact gR_26 gT_c11 (gIn_lt hg70)
      refine g_aload_n X (j := 4) dX8_cutAt_96 rfl rfl ?_
      refine gc_X8_35 X k73 (ct_X9_copy X.htr k73 k25) (by decide) (Nat.le_of_ble_eq_true rfl) dX8_cutAt_97 ?_
      refine g_mem (fun M74 e75 => ?_)
      have h := bnd_e e75 h
      refine g_aload_n X (j := 1) dX8_cutAt_100 rfl rfl ?_
      refine g_dup X dX8_cutAt_101 rfl ?_
      refine gf_X8_28 X gT_c6 dX8_cutAt_102 ?_
      refine g_iconst X (v := 1) dX8_cutAt_105 (by decide) ?_
      refine g_iadd X dX8_cutAt_106 ?_
      refine gp_X8_28 X gT_c6 dX8_cutAt_107 ?_
      refine g_mem (fun M76 e77 => ?_)
      have h := bnd_e e77 h
      refine g_lv [1, 2, 3, 4, 5, 6, 0] rfl ?_
      exact bw_X8_cutAt_110_7 X k25 k27 hE hrec h
def bk_X8_cutAt_52_7 (F : Nat) (rec : Int32 → GM → Option GM) (a5 : Int32) (a15 : Int32) (p16 : Nat) (p18 : Nat) (a20 : Int32) (M : GM) : Option GM := bnd a20 (fun v21 => if (gI M p18 2) < a5 then (bk_X8_cutAt_68_7 F rec a5 a15 p16 p18 v21 (0 : Int32) M) else (bk_X8_cutAt_68_7 F rec a5 a15 p16 p18 v21 (1 : Int32) M))
set_option maxHeartbeats 4000000 in
set_option maxRecDepth 100000 in
theorem bw_X8_cutAt_52_7 {x : GX} (X : GC x cX8_cutAt 7 RX8 3) {a5 : Int32} {a15 : Int32} {p16 : Nat} {p18 : Nat} {a20 : Int32}  (k17 : gT p16 = 9) (k19 : gT p18 = 9) {F : Nat} {rec : Int32 → GM → Option GM} {M : GM} {r9 : GM} (hE : ∀  (M9 : GM), r9 = M9 → WG x M9 [] 180 []) (hrec : ∀ (a6_9 : Int32) (M9 : GM), rec a6_9 M9 = some r9 → WG x M9 [(0, .ref (gad (xz x) 6)), (1, .int a5), (2, .int a6_9)] 7 []) (h : bk_X8_cutAt_52_7 F rec a5 a15 p16 p18 a20 M = some r9) : WG x M [(0, .ref (gad (xz x) 6)), (1, .int a5), (2, .int a15), (3, .ref (gad (xz x) p16)), (4, .ref (gad (xz x) p18))] 52 [.int a20] := by
  unfold bk_X8_cutAt_52_7 at h
  refine g_topi (fun v21 e22 => ?_)
  have h := bnd_e e22 h
  refine g_istore X (lv' := [(5, .int v21), (0, .ref (gad (xz x) 6)), (1, .int a5), (2, .int a15), (3, .ref (gad (xz x) p16)), (4, .ref (gad (xz x) p18))]) dX8_cutAt_52 (by decide) rfl ?_
  refine g_aload X (j := 5) dX8_cutAt_54 rfl ?_
  refine gf_X8_32 X k19 dX8_cutAt_56 ?_
  refine g_iload_n X (j := 2) dX8_cutAt_59 rfl rfl ?_
  refine g_icmp_lt X (tgt := 67) dX8_cutAt_60 (by decide) (fun hb => ?_) (fun hb => ?_)
  · have h := ite_t hb h
    refine g_iconst X (v := 0) dX8_cutAt_67 (by decide) ?_
    refine g_lv [1, 2, 3, 4, 5, 0] rfl ?_
    exact bw_X8_cutAt_68_7 X k17 k19 hE hrec h
  · have h := ite_f hb h
    refine g_iconst X (v := 1) dX8_cutAt_63 (by decide) ?_
    refine g_goto X (tgt := 68) dX8_cutAt_64 (by decide) ?_
    refine g_lv [1, 2, 3, 4, 5, 0] rfl ?_
    exact bw_X8_cutAt_68_7 X k17 k19 hE hrec h
def st_X8_cutAt_7 (F : Nat) (a5 : Int32) (rec : Int32 → GM → Option GM) (a6 : Int32) (M : GM) : Option GM := if (3 : Int32) ≤ a6 then (some M) else (grd (gIn a6 (gN 7)) (bnd (gR 7 a6.toNatClampNeg) (fun o8 => grd (gIn ((a6 + (1 : Int32)) - (a6 + (1 : Int32)) / (3 : Int32) * (3 : Int32)) (gN 7)) (bnd (gR 7 ((a6 + (1 : Int32)) - (a6 + (1 : Int32)) / (3 : Int32) * (3 : Int32)).toNatClampNeg) (fun o12 => if (gI M o8 2) < a5 then (bk_X8_cutAt_52_7 F rec a5 a6 o8 o12 (0 : Int32) M) else (bk_X8_cutAt_52_7 F rec a5 a6 o8 o12 (1 : Int32) M))))))
def lp_X8_cutAt_7 (F : Nat) (a5 : Int32) : Nat → Int32 → GM → Option GM
  | 0 => fun _ _ => none
  | f + 1 => fun a6 M => st_X8_cutAt_7 F a5 (lp_X8_cutAt_7 F a5 f) a6 M
set_option maxHeartbeats 4000000 in
set_option maxRecDepth 100000 in
theorem lw_X8_cutAt_7 {x : GX} (X : GC x cX8_cutAt 7 RX8 3) {a5 : Int32}  {F : Nat} {r9 : GM} (hE : ∀  (M9 : GM), r9 = M9 → WG x M9 [] 180 []) : ∀ (f : Nat) (a6 : Int32) (M : GM), lp_X8_cutAt_7 F a5 f a6 M = some r9 → WG x M [(0, .ref (gad (xz x) 6)), (1, .int a5), (2, .int a6)] 7 [] := by
  intro f
  induction f with
  | zero => intro a6 M h; cases h
  | succ f ih =>
    intro a6 M h
    have hrec := ih
    have h : st_X8_cutAt_7 F a5 (lp_X8_cutAt_7 F a5 f) a6 M = some r9 := h
    generalize lp_X8_cutAt_7 F a5 f = rec at h hrec
    unfold st_X8_cutAt_7 at h
    refine g_iload_n X (j := 2) dX8_cutAt_7 rfl rfl ?_
    refine g_aload_n X (j := 0) dX8_cutAt_8 rfl rfl ?_
    refine gf_X8_12 X gT_c6 dX8_cutAt_9 ?_
    refine g_alen_26 X gT_c7 dX8_cutAt_12 ?_
    rw [show Int32.ofNat (gN 7) = 3 by decide +kernel]
    refine g_icmp_ge X (tgt := 180) dX8_cutAt_13 (by decide) (fun hb => ?_) (fun hb => ?_)
    · have h := ite_t hb h
      refine g_lv [] rfl ?_
      exact hE M (Option.some.inj h).symm
    · have h := ite_f hb h
      refine g_aload_n X (j := 0) dX8_cutAt_16 rfl rfl ?_
      refine gf_X8_12 X gT_c6 dX8_cutAt_17 ?_
      refine g_iload_n X (j := 2) dX8_cutAt_20 rfl rfl ?_
      obtain ⟨hg7, h⟩ := grd_e h
      refine g_aald_26 X gT_c7 hg7 dX8_cutAt_21 ?_
      refine g_topr (fun o8 e9 => ?_)
      have h := bnd_e e9 h
      have k10 : gT o8 = 9 := by rw [e9]; exact gR_26 gT_c7 (gIn_lt hg7)
      refine g_astore_n X (lv' := [(3, .ref (gad (xz x) o8)), (0, .ref (gad (xz x) 6)), (1, .int a5), (2, .int a6)]) dX8_cutAt_22 rfl (by decide) rfl ?_
      refine g_aload_n X (j := 1) dX8_cutAt_23 rfl rfl ?_
      refine gf_X8_12 X gT_c6 dX8_cutAt_24 ?_
      refine g_iload_n X (j := 3) dX8_cutAt_27 rfl rfl ?_
      refine g_iconst X (v := 1) dX8_cutAt_28 (by decide) ?_
      refine g_iadd X dX8_cutAt_29 ?_
      refine g_aload_n X (j := 1) dX8_cutAt_30 rfl rfl ?_
      refine gf_X8_12 X gT_c6 dX8_cutAt_31 ?_
      refine g_alen_26 X gT_c7 dX8_cutAt_34 ?_
      rw [show Int32.ofNat (gN 7) = 3 by decide +kernel]
      refine g_irem X dX8_cutAt_35 (by decide) ?_
      obtain ⟨hg11, h⟩ := grd_e h
      refine g_aald_26 X gT_c7 hg11 dX8_cutAt_36 ?_
      refine g_topr (fun o12 e13 => ?_)
      have h := bnd_e e13 h
      have k14 : gT o12 = 9 := by rw [e13]; exact gR_26 gT_c7 (gIn_lt hg11)
      refine g_astore X (lv' := [(4, .ref (gad (xz x) o12)), (3, .ref (gad (xz x) o8)), (0, .ref (gad (xz x) 6)), (1, .int a5), (2, .int a6)]) dX8_cutAt_37 (by decide) rfl ?_
      refine g_aload_n X (j := 1) dX8_cutAt_39 rfl rfl ?_
      refine gf_X8_32 X k10 dX8_cutAt_40 ?_
      refine g_iload_n X (j := 3) dX8_cutAt_43 rfl rfl ?_
      refine g_icmp_lt X (tgt := 51) dX8_cutAt_44 (by decide) (fun hb => ?_) (fun hb => ?_)
      · have h := ite_t hb h
        refine g_iconst X (v := 0) dX8_cutAt_51 (by decide) ?_
        refine g_lv [2, 3, 4, 1, 0] rfl ?_
        exact bw_X8_cutAt_52_7 X k10 k14 hE hrec h
      · have h := ite_f hb h
        refine g_iconst X (v := 1) dX8_cutAt_47 (by decide) ?_
        refine g_goto X (tgt := 52) dX8_cutAt_48 (by decide) ?_
        refine g_lv [2, 3, 4, 1, 0] rfl ?_
        exact bw_X8_cutAt_52_7 X k10 k14 hE hrec h
def f_X8_cutAt (F : Nat) (i0 : Int32) (M : GM) : Option GM := bnd (sI M 6 3 (0 : Int32)) (fun M1 => bnd (0 : Int32) (fun v3 => bndO (lp_X8_cutAt_7 F i0 F v3 M1) (fun M78 => some M78)))
set_option maxHeartbeats 4000000 in
set_option maxRecDepth 100000 in
theorem w_X8_cutAt {x : GX} (X : GC x cX8_cutAt 7 RX8 3) {i0 : Int32}  {F : Nat} {M : GM} {r9 : GM} (hR : ∀ (M9 : GM) (lv9 : List (Nat × Value)) (pc9 : Nat), r9 = M9 → decode cX8_cutAt pc9 = .ok (.return_, 1) → WG x M9 lv9 pc9 []) (h : f_X8_cutAt F i0 M = some r9) : WG x M [(0, .ref (gad (xz x) 6)), (1, .int i0)] 0 [] := by
  unfold f_X8_cutAt at h
  refine g_aload_n X (j := 0) dX8_cutAt_0 rfl rfl ?_
  refine g_iconst X (v := 0) dX8_cutAt_1 (by decide) ?_
  refine gp_X8_28 X gT_c6 dX8_cutAt_2 ?_
  refine g_mem (fun M1 e2 => ?_)
  have h := bnd_e e2 h
  refine g_iconst X (v := 0) dX8_cutAt_5 (by decide) ?_
  refine g_topi (fun v3 e4 => ?_)
  have h := bnd_e e4 h
  refine g_istore_n X (lv' := [(2, .int v3), (0, .ref (gad (xz x) 6)), (1, .int i0)]) dX8_cutAt_6 rfl (by decide) rfl ?_
  refine g_lv [1, 2, 0] rfl ?_
  obtain ⟨M78, hl79, h⟩ := bndO_e h
  refine lw_X8_cutAt_7 X  (fun M78_ e9 => ?_) F v3 M1 hl79
  cases e9
  exact hR M78 _ _ (Option.some.inj h).symm dX8_cutAt_180
theorem ct_X8_cutAt {l : Launch} {z : GZ} (htr : l.stackTraces = false) {i0 : Int32}  {M : GM} {F : Nat} {M1 : GM} (h : f_X8_cutAt F i0 M = some M1) : gMet l z yX8_cutAt cX8_cutAt 7 none 3 [.ref (gad z 6), .int i0] M (none) M1 := gMet_ofV (by decide +kernel) (Nat.le_of_ble_eq_true rfl) htr (fun x X ez el hR => by subst ez; subst el; exact w_X8_cutAt X  (fun M9 lv9 pc9 e9 d9 => by cases e9; exact hR lv9 pc9 d9) h)
theorem gc_X8_47 {x : GX} {cc : ByteArray} {nL d pc : Nat} {M : GM} {lv : List (Nat × Value)} {st : List Value} (X : GC x cc nL RX8 d) {i0 : Nat} {i1 : Nat} {i2 : Nat} {i3 : Int32} {M1 : GM} {g : Nat} (ht : gT g = 6) (hM : gMet (xl x) (xz x) yX6_take cX6_take 7 none 2 [.ref (gad (xz x) g), .ref (gad (xz x) i0), .ref (gad (xz x) i1), .ref (gad (xz x) i2), .int i3] M (none) M1) (hd : 3 ≤ d) (hsum : (st.map fun v => v.category).sum ≤ 8) (dec : decode cc pc = .ok (.invokevirtual 47, 3)) (go : WG x M1 lv (pc + 3) (st)) : WG x M lv pc (.int i3 :: .ref (gad (xz x) i2) :: .ref (gad (xz x) i1) :: .ref (gad (xz x) i0) :: .ref (gad (xz x) g) :: st) := g_callV X (n := 4) (As := [.ref (gad (xz x) i0), .ref (gad (xz x) i1), .ref (gad (xz x) i2), .int i3]) (rest := st) hM ht (by decide) (gE_6 ht) rfl q_214 q_215 q_216 q_21 q_217 (by decide +kernel) rfl hd (by decide) rfl hsum dec go
theorem dX8_split_0 : decode cX8_split 0 = .ok (.iconst 0, 1) := by decide +kernel
theorem dX8_split_1 : decode cX8_split 1 = .ok (.istore_n 2, 1) := by decide +kernel
theorem dX8_split_2 : decode cX8_split 2 = .ok (.iload_n 2, 1) := by decide +kernel
theorem dX8_split_3 : decode cX8_split 3 = .ok (.aload_n 0, 1) := by decide +kernel
theorem dX8_split_4 : decode cX8_split 4 = .ok (.getfield 24, 3) := by decide +kernel
theorem dX8_split_7 : decode cX8_split 7 = .ok (.arraylength, 1) := by decide +kernel
theorem dX8_split_8 : decode cX8_split 8 = .ok (.if_icmp .ge 69, 3) := by decide +kernel
theorem dX8_split_11 : decode cX8_split 11 = .ok (.aload_n 0, 1) := by decide +kernel
theorem dX8_split_12 : decode cX8_split 12 = .ok (.getfield 24, 3) := by decide +kernel
theorem dX8_split_15 : decode cX8_split 15 = .ok (.iload_n 2, 1) := by decide +kernel
theorem dX8_split_16 : decode cX8_split 16 = .ok (.aaload, 1) := by decide +kernel
theorem dX8_split_17 : decode cX8_split 17 = .ok (.astore_n 3, 1) := by decide +kernel
theorem dX8_split_18 : decode cX8_split 18 = .ok (.aload_n 3, 1) := by decide +kernel
theorem dX8_split_19 : decode cX8_split 19 = .ok (.iconst 0, 1) := by decide +kernel
theorem dX8_split_20 : decode cX8_split 20 = .ok (.putfield 43, 3) := by decide +kernel
theorem dX8_split_23 : decode cX8_split 23 = .ok (.iload_n 2, 1) := by decide +kernel
theorem dX8_split_24 : decode cX8_split 24 = .ok (.iconst 2, 1) := by decide +kernel
theorem dX8_split_25 : decode cX8_split 25 = .ok (.iadd, 1) := by decide +kernel
theorem dX8_split_26 : decode cX8_split 26 = .ok (.aload_n 0, 1) := by decide +kernel
theorem dX8_split_27 : decode cX8_split 27 = .ok (.getfield 28, 3) := by decide +kernel
theorem dX8_split_30 : decode cX8_split 30 = .ok (.if_icmp .ge 41, 3) := by decide +kernel
theorem dX8_split_33 : decode cX8_split 33 = .ok (.iload_n 2, 1) := by decide +kernel
theorem dX8_split_34 : decode cX8_split 34 = .ok (.iconst 2, 1) := by decide +kernel
theorem dX8_split_35 : decode cX8_split 35 = .ok (.iadd, 1) := by decide +kernel
theorem dX8_split_36 : decode cX8_split 36 = .ok (.aload_n 0, 1) := by decide +kernel
theorem dX8_split_37 : decode cX8_split 37 = .ok (.getfield 18, 3) := by decide +kernel
theorem dX8_split_40 : decode cX8_split 40 = .ok (.arraylength, 1) := by decide +kernel
theorem dX8_split_41 : decode cX8_split 41 = .ok (.if_icmp .ge 30, 3) := by decide +kernel
theorem dX8_split_44 : decode cX8_split 44 = .ok (.aload_n 3, 1) := by decide +kernel
theorem dX8_split_45 : decode cX8_split 45 = .ok (.aload_n 0, 1) := by decide +kernel
theorem dX8_split_46 : decode cX8_split 46 = .ok (.getfield 18, 3) := by decide +kernel
theorem dX8_split_49 : decode cX8_split 49 = .ok (.iconst 0, 1) := by decide +kernel
theorem dX8_split_50 : decode cX8_split 50 = .ok (.aaload, 1) := by decide +kernel
theorem dX8_split_51 : decode cX8_split 51 = .ok (.aload_n 0, 1) := by decide +kernel
theorem dX8_split_52 : decode cX8_split 52 = .ok (.getfield 18, 3) := by decide +kernel
theorem dX8_split_55 : decode cX8_split 55 = .ok (.iload_n 2, 1) := by decide +kernel
theorem dX8_split_56 : decode cX8_split 56 = .ok (.iconst 1, 1) := by decide +kernel
theorem dX8_split_57 : decode cX8_split 57 = .ok (.iadd, 1) := by decide +kernel
theorem dX8_split_58 : decode cX8_split 58 = .ok (.aaload, 1) := by decide +kernel
theorem dX8_split_59 : decode cX8_split 59 = .ok (.aload_n 0, 1) := by decide +kernel
theorem dX8_split_60 : decode cX8_split 60 = .ok (.getfield 18, 3) := by decide +kernel
theorem dX8_split_63 : decode cX8_split 63 = .ok (.iload_n 2, 1) := by decide +kernel
theorem dX8_split_64 : decode cX8_split 64 = .ok (.iconst 2, 1) := by decide +kernel
theorem dX8_split_65 : decode cX8_split 65 = .ok (.iadd, 1) := by decide +kernel
theorem dX8_split_66 : decode cX8_split 66 = .ok (.aaload, 1) := by decide +kernel
theorem dX8_split_67 : decode cX8_split 67 = .ok (.iload_n 1, 1) := by decide +kernel
theorem dX8_split_68 : decode cX8_split 68 = .ok (.invokevirtual 47, 3) := by decide +kernel
theorem dX8_split_71 : decode cX8_split 71 = .ok (.iinc 2 1, 3) := by decide +kernel
theorem dX8_split_74 : decode cX8_split 74 = .ok (.goto (-72), 3) := by decide +kernel
theorem dX8_split_77 : decode cX8_split 77 = .ok (.return_, 1) := by decide +kernel
def st_X8_split_2 (F : Nat) (a3 : Int32) (rec : Int32 → GM → Option GM) (a4 : Int32) (M : GM) : Option GM := if (2 : Int32) ≤ a4 then (some M) else (grd (gIn a4 (gN 16)) (bnd (gR 16 a4.toNatClampNeg) (fun o6 => bnd (sI M o6 5 (0 : Int32)) (fun M9 => if (gI M9 6 3) ≤ (a4 + (2 : Int32)) then (bnd (a4 + (1 : Int32)) (fun v11 => rec v11 M9)) else (if (4 : Int32) ≤ (a4 + (2 : Int32)) then (bnd (a4 + (1 : Int32)) (fun v13 => rec v13 M9)) else (grd (gIn (a4 + (1 : Int32)) (gN 11)) (bnd (gR 11 (a4 + (1 : Int32)).toNatClampNeg) (fun o16 => grd (gIn (a4 + (2 : Int32)) (gN 11)) (bnd (gR 11 (a4 + (2 : Int32)).toNatClampNeg) (fun o20 => bndO (f_X6_take F o6 12 o16 o20 a3 M9) (fun M24 => bnd (a4 + (1 : Int32)) (fun v25 => rec v25 M24))))))))))))
def lp_X8_split_2 (F : Nat) (a3 : Int32) : Nat → Int32 → GM → Option GM
  | 0 => fun _ _ => none
  | f + 1 => fun a4 M => st_X8_split_2 F a3 (lp_X8_split_2 F a3 f) a4 M
set_option maxHeartbeats 4000000 in
set_option maxRecDepth 100000 in
theorem lw_X8_split_2 {x : GX} (X : GC x cX8_split 4 RX8 3) {a3 : Int32}  {F : Nat} {r9 : GM} (hE : ∀  (M9 : GM), r9 = M9 → WG x M9 [] 77 []) : ∀ (f : Nat) (a4 : Int32) (M : GM), lp_X8_split_2 F a3 f a4 M = some r9 → WG x M [(0, .ref (gad (xz x) 6)), (1, .int a3), (2, .int a4)] 2 [] := by
  intro f
  induction f with
  | zero => intro a4 M h; cases h
  | succ f ih =>
    intro a4 M h
    have hrec := ih
    have h : st_X8_split_2 F a3 (lp_X8_split_2 F a3 f) a4 M = some r9 := h
    generalize lp_X8_split_2 F a3 f = rec at h hrec
    unfold st_X8_split_2 at h
    refine g_iload_n X (j := 2) dX8_split_2 rfl rfl ?_
    refine g_aload_n X (j := 0) dX8_split_3 rfl rfl ?_
    refine gf_X8_24 X gT_c6 dX8_split_4 ?_
    refine g_alen_27 X gT_c16 dX8_split_7 ?_
    rw [show Int32.ofNat (gN 16) = 2 by decide +kernel]
    refine g_icmp_ge X (tgt := 77) dX8_split_8 (by decide) (fun hb => ?_) (fun hb => ?_)
    · have h := ite_t hb h
      refine g_lv [] rfl ?_
      exact hE M (Option.some.inj h).symm
    · have h := ite_f hb h
      refine g_aload_n X (j := 0) dX8_split_11 rfl rfl ?_
      refine gf_X8_24 X gT_c6 dX8_split_12 ?_
      refine g_iload_n X (j := 2) dX8_split_15 rfl rfl ?_
      obtain ⟨hg5, h⟩ := grd_e h
      refine g_aald_27 X gT_c16 hg5 dX8_split_16 ?_
      refine g_topr (fun o6 e7 => ?_)
      have h := bnd_e e7 h
      have k8 : gT o6 = 6 := by rw [e7]; exact gR_27 gT_c16 (gIn_lt hg5)
      refine g_astore_n X (lv' := [(3, .ref (gad (xz x) o6)), (0, .ref (gad (xz x) 6)), (1, .int a3), (2, .int a4)]) dX8_split_17 rfl (by decide) rfl ?_
      refine g_aload_n X (j := 0) dX8_split_18 rfl rfl ?_
      refine g_iconst X (v := 0) dX8_split_19 (by decide) ?_
      refine gp_X8_43 X k8 (Or.inl rfl) dX8_split_20 ?_
      refine g_mem (fun M9 e10 => ?_)
      have h := bnd_e e10 h
      refine g_iload_n X (j := 3) dX8_split_23 rfl rfl ?_
      refine g_iconst X (v := 2) dX8_split_24 (by decide) ?_
      refine g_iadd X dX8_split_25 ?_
      refine g_aload_n X (j := 1) dX8_split_26 rfl rfl ?_
      refine gf_X8_28 X gT_c6 dX8_split_27 ?_
      refine g_icmp_ge X (tgt := 71) dX8_split_30 (by decide) (fun hb => ?_) (fun hb => ?_)
      · have h := ite_t hb h
        refine g_iinc X (j := 3) (w := a4 + (1 : Int32)) (lv' := [(3, .ref (gad (xz x) o6)), (0, .ref (gad (xz x) 6)), (1, .int a3)]) dX8_split_71 rfl (by rw [ii_1]) (by decide) (fun _ => rfl) (fun v11 e12 => ?_)
        have h := bnd_e e12 h
        refine g_goto X (tgt := 2) dX8_split_74 (by decide) ?_
        refine g_lv [2, 3, 0] rfl ?_
        exact hrec v11 M9 h
      · have h := ite_f hb h
        refine g_iload_n X (j := 3) dX8_split_33 rfl rfl ?_
        refine g_iconst X (v := 2) dX8_split_34 (by decide) ?_
        refine g_iadd X dX8_split_35 ?_
        refine g_aload_n X (j := 1) dX8_split_36 rfl rfl ?_
        refine gf_X8_18 X gT_c6 dX8_split_37 ?_
        refine g_alen_26 X gT_c11 dX8_split_40 ?_
        rw [show Int32.ofNat (gN 11) = 4 by decide +kernel]
        refine g_icmp_ge X (tgt := 71) dX8_split_41 (by decide) (fun hb => ?_) (fun hb => ?_)
        · have h := ite_t hb h
          refine g_iinc X (j := 3) (w := a4 + (1 : Int32)) (lv' := [(3, .ref (gad (xz x) o6)), (0, .ref (gad (xz x) 6)), (1, .int a3)]) dX8_split_71 rfl (by rw [ii_1]) (by decide) (fun _ => rfl) (fun v13 e14 => ?_)
          have h := bnd_e e14 h
          refine g_goto X (tgt := 2) dX8_split_74 (by decide) ?_
          refine g_lv [2, 3, 0] rfl ?_
          exact hrec v13 M9 h
        · have h := ite_f hb h
          refine g_aload_n X (j := 0) dX8_split_44 rfl rfl ?_
          refine g_aload_n X (j := 1) dX8_split_45 rfl rfl ?_
          refine gf_X8_18 X gT_c6 dX8_split_46 ?_
          refine g_iconst X (v := 0) dX8_split_49 (by decide) ?_
          refine g_aald_26 X gT_c11 (by decide +kernel) dX8_split_50 ?_
          rw [show gR 11 (Int32.toNatClampNeg 0) = 12 by decide +kernel]
          refine g_aload_n X (j := 1) dX8_split_51 rfl rfl ?_
          refine gf_X8_18 X gT_c6 dX8_split_52 ?_
          refine g_iload_n X (j := 3) dX8_split_55 rfl rfl ?_
          refine g_iconst X (v := 1) dX8_split_56 (by decide) ?_
          refine g_iadd X dX8_split_57 ?_
          obtain ⟨hg15, h⟩ := grd_e h
          refine g_aald_26 X gT_c11 hg15 dX8_split_58 ?_
          refine g_topr (fun o16 e17 => ?_)
          have h := bnd_e e17 h
          have k18 : gT o16 = 9 := by rw [e17]; exact gR_26 gT_c11 (gIn_lt hg15)
          refine g_aload_n X (j := 1) dX8_split_59 rfl rfl ?_
          refine gf_X8_18 X gT_c6 dX8_split_60 ?_
          refine g_iload_n X (j := 3) dX8_split_63 rfl rfl ?_
          refine g_iconst X (v := 2) dX8_split_64 (by decide) ?_
          refine g_iadd X dX8_split_65 ?_
          obtain ⟨hg19, h⟩ := grd_e h
          refine g_aald_26 X gT_c11 hg19 dX8_split_66 ?_
          refine g_topr (fun o20 e21 => ?_)
          have h := bnd_e e21 h
          have k22 : gT o20 = 9 := by rw [e21]; exact gR_26 gT_c11 (gIn_lt hg19)
          refine g_iload_n X (j := 2) dX8_split_67 rfl rfl ?_
          obtain ⟨M24, hc23, h⟩ := bndO_e h
          refine gc_X8_47 X k8 (ct_X6_take X.htr k8 gT_c12 k18 k22 hc23) (by decide) (Nat.le_of_ble_eq_true rfl) dX8_split_68 ?_
          refine g_iinc X (j := 3) (w := a4 + (1 : Int32)) (lv' := [(3, .ref (gad (xz x) o6)), (0, .ref (gad (xz x) 6)), (1, .int a3)]) dX8_split_71 rfl (by rw [ii_1]) (by decide) (fun _ => rfl) (fun v25 e26 => ?_)
          have h := bnd_e e26 h
          refine g_goto X (tgt := 2) dX8_split_74 (by decide) ?_
          refine g_lv [2, 3, 0] rfl ?_
          exact hrec v25 M24 h
def f_X8_split (F : Nat) (i0 : Int32) (M : GM) : Option GM := bnd (0 : Int32) (fun v1 => bndO (lp_X8_split_2 F i0 F v1 M) (fun M27 => some M27))
set_option maxHeartbeats 4000000 in
set_option maxRecDepth 100000 in
theorem w_X8_split {x : GX} (X : GC x cX8_split 4 RX8 3) {i0 : Int32}  {F : Nat} {M : GM} {r9 : GM} (hR : ∀ (M9 : GM) (lv9 : List (Nat × Value)) (pc9 : Nat), r9 = M9 → decode cX8_split pc9 = .ok (.return_, 1) → WG x M9 lv9 pc9 []) (h : f_X8_split F i0 M = some r9) : WG x M [(0, .ref (gad (xz x) 6)), (1, .int i0)] 0 [] := by
  unfold f_X8_split at h
  refine g_iconst X (v := 0) dX8_split_0 (by decide) ?_
  refine g_topi (fun v1 e2 => ?_)
  have h := bnd_e e2 h
  refine g_istore_n X (lv' := [(2, .int v1), (0, .ref (gad (xz x) 6)), (1, .int i0)]) dX8_split_1 rfl (by decide) rfl ?_
  refine g_lv [1, 2, 0] rfl ?_
  obtain ⟨M27, hl28, h⟩ := bndO_e h
  refine lw_X8_split_2 X  (fun M27_ e9 => ?_) F v1 M hl28
  cases e9
  exact hR M27 _ _ (Option.some.inj h).symm dX8_split_77
theorem ct_X8_split {l : Launch} {z : GZ} (htr : l.stackTraces = false) {i0 : Int32}  {M : GM} {F : Nat} {M1 : GM} (h : f_X8_split F i0 M = some M1) : gMet l z yX8_split cX8_split 4 none 3 [.ref (gad z 6), .int i0] M (none) M1 := gMet_ofV (by decide +kernel) (Nat.le_of_ble_eq_true rfl) htr (fun x X ez el hR => by subst ez; subst el; exact w_X8_split X  (fun M9 lv9 pc9 e9 d9 => by cases e9; exact hR lv9 pc9 d9) h)
