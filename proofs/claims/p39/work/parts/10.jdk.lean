/-! 10.jdk -/
theorem dJ9_floorDiv_7cf53_0 : decode cJ9_floorDiv_7cf53 0 = .ok (.iload_n 0, 1) := by decide +kernel
theorem dJ9_floorDiv_7cf53_1 : decode cJ9_floorDiv_7cf53 1 = .ok (.iload_n 1, 1) := by decide +kernel
theorem dJ9_floorDiv_7cf53_2 : decode cJ9_floorDiv_7cf53 2 = .ok (.idiv, 1) := by decide +kernel
theorem dJ9_floorDiv_7cf53_3 : decode cJ9_floorDiv_7cf53 3 = .ok (.istore_n 2, 1) := by decide +kernel
theorem dJ9_floorDiv_7cf53_4 : decode cJ9_floorDiv_7cf53 4 = .ok (.iload_n 0, 1) := by decide +kernel
theorem dJ9_floorDiv_7cf53_5 : decode cJ9_floorDiv_7cf53 5 = .ok (.iload_n 1, 1) := by decide +kernel
theorem dJ9_floorDiv_7cf53_6 : decode cJ9_floorDiv_7cf53 6 = .ok (.ixor, 1) := by decide +kernel
theorem dJ9_floorDiv_7cf53_7 : decode cJ9_floorDiv_7cf53 7 = .ok (.ifCond .ge 14, 3) := by decide +kernel
theorem dJ9_floorDiv_7cf53_10 : decode cJ9_floorDiv_7cf53 10 = .ok (.iload_n 2, 1) := by decide +kernel
theorem dJ9_floorDiv_7cf53_11 : decode cJ9_floorDiv_7cf53 11 = .ok (.iload_n 1, 1) := by decide +kernel
theorem dJ9_floorDiv_7cf53_12 : decode cJ9_floorDiv_7cf53 12 = .ok (.imul, 1) := by decide +kernel
theorem dJ9_floorDiv_7cf53_13 : decode cJ9_floorDiv_7cf53 13 = .ok (.iload_n 0, 1) := by decide +kernel
theorem dJ9_floorDiv_7cf53_14 : decode cJ9_floorDiv_7cf53 14 = .ok (.if_icmp .eq 7, 3) := by decide +kernel
theorem dJ9_floorDiv_7cf53_17 : decode cJ9_floorDiv_7cf53 17 = .ok (.iload_n 2, 1) := by decide +kernel
theorem dJ9_floorDiv_7cf53_18 : decode cJ9_floorDiv_7cf53 18 = .ok (.iconst 1, 1) := by decide +kernel
theorem dJ9_floorDiv_7cf53_19 : decode cJ9_floorDiv_7cf53 19 = .ok (.isub, 1) := by decide +kernel
theorem dJ9_floorDiv_7cf53_20 : decode cJ9_floorDiv_7cf53 20 = .ok (.ireturn, 1) := by decide +kernel
theorem dJ9_floorDiv_7cf53_21 : decode cJ9_floorDiv_7cf53 21 = .ok (.iload_n 2, 1) := by decide +kernel
theorem dJ9_floorDiv_7cf53_22 : decode cJ9_floorDiv_7cf53 22 = .ok (.ireturn, 1) := by decide +kernel
def f_J9_floorDiv_7cf53 (F : Nat) (i0 : Int32) (i1 : Int32) (M : GM) : Option Int32 := grd (decide (¬ i1 = 0)) (bnd (i0 / i1) (fun v2 => if 0 ≤ (i0 ^^^ i1) then (some v2) else (if (v2 * i1) = i0 then (some v2) else (some (v2 - (1 : Int32))))))
set_option maxHeartbeats 4000000 in
set_option maxRecDepth 100000 in
theorem w_J9_floorDiv_7cf53 {x : GX} (X : GC x cJ9_floorDiv_7cf53 3 RJ9 0) {i0 : Int32} {i1 : Int32}  {F : Nat} {M : GM} {r9 : Int32} (hR : ∀ (v9 : Int32) (lv9 : List (Nat × Value)) (pc9 : Nat), r9 = v9 → decode cJ9_floorDiv_7cf53 pc9 = .ok (.ireturn, 1) → WG x M lv9 pc9 [.int v9]) (h : f_J9_floorDiv_7cf53 F i0 i1 M = some r9) : WG x M [(0, .int i0), (1, .int i1)] 0 [] := by
  unfold f_J9_floorDiv_7cf53 at h
  refine g_iload_n X (j := 0) dJ9_floorDiv_7cf53_0 rfl rfl ?_
  refine g_iload_n X (j := 1) dJ9_floorDiv_7cf53_1 rfl rfl ?_
  obtain ⟨hg1, h⟩ := grd_e h
  refine g_idiv X dJ9_floorDiv_7cf53_2 (of_decide_eq_true hg1) ?_
  refine g_topi (fun v2 e3 => ?_)
  have h := bnd_e e3 h
  refine g_istore_n X (lv' := [(2, .int v2), (0, .int i0), (1, .int i1)]) dJ9_floorDiv_7cf53_3 rfl (by decide) rfl ?_
  refine g_iload_n X (j := 1) dJ9_floorDiv_7cf53_4 rfl rfl ?_
  refine g_iload_n X (j := 2) dJ9_floorDiv_7cf53_5 rfl rfl ?_
  refine g_ixor X dJ9_floorDiv_7cf53_6 ?_
  refine g_if_ge X (tgt := 21) dJ9_floorDiv_7cf53_7 (by decide) (fun hb => ?_) (fun hb => ?_)
  · have h := ite_t hb h
    refine g_iload_n X (j := 0) dJ9_floorDiv_7cf53_21 rfl rfl ?_
    exact hR v2 _ _ (Option.some.inj h).symm dJ9_floorDiv_7cf53_22
  · have h := ite_f hb h
    refine g_iload_n X (j := 0) dJ9_floorDiv_7cf53_10 rfl rfl ?_
    refine g_iload_n X (j := 2) dJ9_floorDiv_7cf53_11 rfl rfl ?_
    refine g_imul X dJ9_floorDiv_7cf53_12 ?_
    refine g_iload_n X (j := 1) dJ9_floorDiv_7cf53_13 rfl rfl ?_
    refine g_icmp_eq X (tgt := 21) dJ9_floorDiv_7cf53_14 (by decide) (fun hb => ?_) (fun hb => ?_)
    · have h := ite_t hb h
      refine g_iload_n X (j := 0) dJ9_floorDiv_7cf53_21 rfl rfl ?_
      exact hR v2 _ _ (Option.some.inj h).symm dJ9_floorDiv_7cf53_22
    · have h := ite_f hb h
      refine g_iload_n X (j := 0) dJ9_floorDiv_7cf53_17 rfl rfl ?_
      refine g_iconst X (v := 1) dJ9_floorDiv_7cf53_18 (by decide) ?_
      refine g_isub X dJ9_floorDiv_7cf53_19 ?_
      exact hR (v2 - (1 : Int32)) _ _ (Option.some.inj h).symm dJ9_floorDiv_7cf53_20
theorem ct_J9_floorDiv_7cf53 {l : Launch} {z : GZ} (htr : l.stackTraces = false) {i0 : Int32} {i1 : Int32}  {M : GM} {F : Nat} {v : Int32} (h : f_J9_floorDiv_7cf53 F i0 i1 M = some v) : gMet l z yJ9_floorDiv_7cf53 cJ9_floorDiv_7cf53 3 (some .int) 0 [.int i0, .int i1] M (some (.int v)) M := gMet_ofI (by decide +kernel) (Nat.le_of_ble_eq_true rfl) htr rfl (fun x X ez el hR => by subst ez; subst el; exact w_J9_floorDiv_7cf53 X  (fun v9 lv9 pc9 e9 d9 => by cases e9; exact hR lv9 pc9 d9) h)
theorem dJ9_floorDiv_f86c9_0 : decode cJ9_floorDiv_f86c9 0 = .ok (.lload_n 0, 1) := by decide +kernel
theorem dJ9_floorDiv_f86c9_1 : decode cJ9_floorDiv_f86c9 1 = .ok (.lload_n 2, 1) := by decide +kernel
theorem dJ9_floorDiv_f86c9_2 : decode cJ9_floorDiv_f86c9 2 = .ok (.ldiv, 1) := by decide +kernel
theorem dJ9_floorDiv_f86c9_3 : decode cJ9_floorDiv_f86c9 3 = .ok (.lstore 4, 2) := by decide +kernel
theorem dJ9_floorDiv_f86c9_5 : decode cJ9_floorDiv_f86c9 5 = .ok (.lload_n 0, 1) := by decide +kernel
theorem dJ9_floorDiv_f86c9_6 : decode cJ9_floorDiv_f86c9 6 = .ok (.lload_n 2, 1) := by decide +kernel
theorem dJ9_floorDiv_f86c9_7 : decode cJ9_floorDiv_f86c9 7 = .ok (.lxor, 1) := by decide +kernel
theorem dJ9_floorDiv_f86c9_8 : decode cJ9_floorDiv_f86c9 8 = .ok (.lconst 0, 1) := by decide +kernel
theorem dJ9_floorDiv_f86c9_9 : decode cJ9_floorDiv_f86c9 9 = .ok (.lcmp, 1) := by decide +kernel
theorem dJ9_floorDiv_f86c9_10 : decode cJ9_floorDiv_f86c9 10 = .ok (.ifCond .ge 17, 3) := by decide +kernel
theorem dJ9_floorDiv_f86c9_13 : decode cJ9_floorDiv_f86c9 13 = .ok (.lload 4, 2) := by decide +kernel
theorem dJ9_floorDiv_f86c9_15 : decode cJ9_floorDiv_f86c9 15 = .ok (.lload_n 2, 1) := by decide +kernel
theorem dJ9_floorDiv_f86c9_16 : decode cJ9_floorDiv_f86c9 16 = .ok (.lmul, 1) := by decide +kernel
theorem dJ9_floorDiv_f86c9_17 : decode cJ9_floorDiv_f86c9 17 = .ok (.lload_n 0, 1) := by decide +kernel
theorem dJ9_floorDiv_f86c9_18 : decode cJ9_floorDiv_f86c9 18 = .ok (.lcmp, 1) := by decide +kernel
theorem dJ9_floorDiv_f86c9_19 : decode cJ9_floorDiv_f86c9 19 = .ok (.ifCond .eq 8, 3) := by decide +kernel
theorem dJ9_floorDiv_f86c9_22 : decode cJ9_floorDiv_f86c9 22 = .ok (.lload 4, 2) := by decide +kernel
theorem dJ9_floorDiv_f86c9_24 : decode cJ9_floorDiv_f86c9 24 = .ok (.lconst 1, 1) := by decide +kernel
theorem dJ9_floorDiv_f86c9_25 : decode cJ9_floorDiv_f86c9 25 = .ok (.lsub, 1) := by decide +kernel
theorem dJ9_floorDiv_f86c9_26 : decode cJ9_floorDiv_f86c9 26 = .ok (.lreturn, 1) := by decide +kernel
theorem dJ9_floorDiv_f86c9_27 : decode cJ9_floorDiv_f86c9 27 = .ok (.lload 4, 2) := by decide +kernel
theorem dJ9_floorDiv_f86c9_29 : decode cJ9_floorDiv_f86c9 29 = .ok (.lreturn, 1) := by decide +kernel
def f_J9_floorDiv_f86c9 (F : Nat) (j0 : Int64) (j1 : Int64) (M : GM) : Option Int64 := grd (decide (¬ j1 = 0)) (bnd (j0 / j1) (fun w2 => if 0 ≤ (lg_cmp (j0 ^^^ j1) (0 : Int64)) then (some w2) else (if (lg_cmp (w2 * j1) j0) = 0 then (some w2) else (some (w2 - (1 : Int64))))))
set_option maxHeartbeats 4000000 in
set_option maxRecDepth 100000 in
theorem w_J9_floorDiv_f86c9 {x : GX} (X : GC x cJ9_floorDiv_f86c9 6 RJ9 0) {j0 : Int64} {j1 : Int64}  {F : Nat} {M : GM} {r9 : Int64} (hR : ∀ (v9 : Int64) (lv9 : List (Nat × Value)) (pc9 : Nat), r9 = v9 → decode cJ9_floorDiv_f86c9 pc9 = .ok (.lreturn, 1) → WG x M lv9 pc9 [.long v9]) (h : f_J9_floorDiv_f86c9 F j0 j1 M = some r9) : WG x M [(0, .long j0), (2, .long j1)] 0 [] := by
  unfold f_J9_floorDiv_f86c9 at h
  refine g_lload_n X (j := 0) dJ9_floorDiv_f86c9_0 rfl rfl ?_
  refine g_lload_n X (j := 1) dJ9_floorDiv_f86c9_1 rfl rfl ?_
  obtain ⟨hg1, h⟩ := grd_e h
  refine g_ldiv X dJ9_floorDiv_f86c9_2 (of_decide_eq_true hg1) ?_
  refine g_topl (fun w2 e3 => ?_)
  have h := bnd_e e3 h
  refine g_lstore X (lv' := [(4, .long w2), (0, .long j0), (2, .long j1)]) dJ9_floorDiv_f86c9_3 (by decide) rfl ?_
  refine g_lload_n X (j := 1) dJ9_floorDiv_f86c9_5 rfl rfl ?_
  refine g_lload_n X (j := 2) dJ9_floorDiv_f86c9_6 rfl rfl ?_
  refine g_lxor X dJ9_floorDiv_f86c9_7 ?_
  refine g_lconst X (v := 0) dJ9_floorDiv_f86c9_8 (by decide) ?_
  refine g_lcmp X dJ9_floorDiv_f86c9_9 ?_
  refine g_if_ge X (tgt := 27) dJ9_floorDiv_f86c9_10 (by decide) (fun hb => ?_) (fun hb => ?_)
  · have h := ite_t hb h
    refine g_lload X (j := 0) dJ9_floorDiv_f86c9_27 rfl ?_
    exact hR w2 _ _ (Option.some.inj h).symm dJ9_floorDiv_f86c9_29
  · have h := ite_f hb h
    refine g_lload X (j := 0) dJ9_floorDiv_f86c9_13 rfl ?_
    refine g_lload_n X (j := 2) dJ9_floorDiv_f86c9_15 rfl rfl ?_
    refine g_lmul X dJ9_floorDiv_f86c9_16 ?_
    refine g_lload_n X (j := 1) dJ9_floorDiv_f86c9_17 rfl rfl ?_
    refine g_lcmp X dJ9_floorDiv_f86c9_18 ?_
    refine g_if_eq X (tgt := 27) dJ9_floorDiv_f86c9_19 (by decide) (fun hb => ?_) (fun hb => ?_)
    · have h := ite_t hb h
      refine g_lload X (j := 0) dJ9_floorDiv_f86c9_27 rfl ?_
      exact hR w2 _ _ (Option.some.inj h).symm dJ9_floorDiv_f86c9_29
    · have h := ite_f hb h
      refine g_lload X (j := 0) dJ9_floorDiv_f86c9_22 rfl ?_
      refine g_lconst X (v := 1) dJ9_floorDiv_f86c9_24 (by decide) ?_
      refine g_lsub X dJ9_floorDiv_f86c9_25 ?_
      exact hR (w2 - (1 : Int64)) _ _ (Option.some.inj h).symm dJ9_floorDiv_f86c9_26
theorem ct_J9_floorDiv_f86c9 {l : Launch} {z : GZ} (htr : l.stackTraces = false) {j0 : Int64} {j1 : Int64}  {M : GM} {F : Nat} {v : Int64} (h : f_J9_floorDiv_f86c9 F j0 j1 M = some v) : gMet l z yJ9_floorDiv_f86c9 cJ9_floorDiv_f86c9 6 (some .long) 0 [.long j0, .long j1] M (some (.long v)) M := gMet_ofL (by decide +kernel) (Nat.le_of_ble_eq_true rfl) htr (fun x X ez el hR => by subst ez; subst el; exact w_J9_floorDiv_f86c9 X  (fun v9 lv9 pc9 e9 d9 => by cases e9; exact hR lv9 pc9 d9) h)
theorem dJ7_fill_53178_0 : decode cJ7_fill_53178 0 = .ok (.iconst 0, 1) := by decide +kernel
theorem dJ7_fill_53178_1 : decode cJ7_fill_53178 1 = .ok (.istore_n 2, 1) := by decide +kernel
theorem dJ7_fill_53178_2 : decode cJ7_fill_53178 2 = .ok (.aload_n 0, 1) := by decide +kernel
theorem dJ7_fill_53178_3 : decode cJ7_fill_53178 3 = .ok (.arraylength, 1) := by decide +kernel
theorem dJ7_fill_53178_4 : decode cJ7_fill_53178 4 = .ok (.istore_n 3, 1) := by decide +kernel
theorem dJ7_fill_53178_5 : decode cJ7_fill_53178 5 = .ok (.iload_n 2, 1) := by decide +kernel
theorem dJ7_fill_53178_6 : decode cJ7_fill_53178 6 = .ok (.iload_n 3, 1) := by decide +kernel
theorem dJ7_fill_53178_7 : decode cJ7_fill_53178 7 = .ok (.if_icmp .ge 13, 3) := by decide +kernel
theorem dJ7_fill_53178_10 : decode cJ7_fill_53178 10 = .ok (.aload_n 0, 1) := by decide +kernel
theorem dJ7_fill_53178_11 : decode cJ7_fill_53178 11 = .ok (.iload_n 2, 1) := by decide +kernel
theorem dJ7_fill_53178_12 : decode cJ7_fill_53178 12 = .ok (.iload_n 1, 1) := by decide +kernel
theorem dJ7_fill_53178_13 : decode cJ7_fill_53178 13 = .ok (.iastore, 1) := by decide +kernel
theorem dJ7_fill_53178_14 : decode cJ7_fill_53178 14 = .ok (.iinc 2 1, 3) := by decide +kernel
theorem dJ7_fill_53178_17 : decode cJ7_fill_53178 17 = .ok (.goto (-12), 3) := by decide +kernel
theorem dJ7_fill_53178_20 : decode cJ7_fill_53178 20 = .ok (.return_, 1) := by decide +kernel
def st_J7_fill_53178_5 (F : Nat) (p5 : Nat) (a7 : Int32) (a9 : Int32) (rec : Int32 → GM → Option GM) (a8 : Int32) (M : GM) : Option GM := if a9 ≤ a8 then (some M) else (grd (gIn a8 (gN p5)) (bnd (sI M p5 a8.toNatClampNeg a7) (fun M11 => bnd (a8 + (1 : Int32)) (fun v13 => rec v13 M11))))
def lp_J7_fill_53178_5 (F : Nat) (p5 : Nat) (a7 : Int32) (a9 : Int32) : Nat → Int32 → GM → Option GM
  | 0 => fun _ _ => none
  | f + 1 => fun a8 M => st_J7_fill_53178_5 F p5 a7 a9 (lp_J7_fill_53178_5 F p5 a7 a9 f) a8 M
set_option maxHeartbeats 4000000 in
set_option maxRecDepth 100000 in
theorem lw_J7_fill_53178_5 {x : GX} (X : GC x cJ7_fill_53178 4 RJ7 0) {p5 : Nat} {a7 : Int32} {a9 : Int32} (k6 : gT p5 = 20) {F : Nat} {r9 : GM} (hE : ∀  (M9 : GM), r9 = M9 → WG x M9 [] 20 []) : ∀ (f : Nat) (a8 : Int32) (M : GM), lp_J7_fill_53178_5 F p5 a7 a9 f a8 M = some r9 → WG x M [(0, .ref (gad (xz x) p5)), (1, .int a7), (2, .int a8), (3, .int a9)] 5 [] := by
  intro f
  induction f with
  | zero => intro a8 M h; cases h
  | succ f ih =>
    intro a8 M h
    have hrec := ih
    have h : st_J7_fill_53178_5 F p5 a7 a9 (lp_J7_fill_53178_5 F p5 a7 a9 f) a8 M = some r9 := h
    generalize lp_J7_fill_53178_5 F p5 a7 a9 f = rec at h hrec
    unfold st_J7_fill_53178_5 at h
    refine g_iload_n X (j := 2) dJ7_fill_53178_5 rfl rfl ?_
    refine g_iload_n X (j := 3) dJ7_fill_53178_6 rfl rfl ?_
    refine g_icmp_ge X (tgt := 20) dJ7_fill_53178_7 (by decide) (fun hb => ?_) (fun hb => ?_)
    · have h := ite_t hb h
      refine g_lv [] rfl ?_
      exact hE M (Option.some.inj h).symm
    · have h := ite_f hb h
      refine g_aload_n X (j := 0) dJ7_fill_53178_10 rfl rfl ?_
      refine g_iload_n X (j := 2) dJ7_fill_53178_11 rfl rfl ?_
      refine g_iload_n X (j := 1) dJ7_fill_53178_12 rfl rfl ?_
      obtain ⟨hg10, h⟩ := grd_e h
      refine g_iast X k6 hg10 dJ7_fill_53178_13 ?_
      refine g_mem (fun M11 e12 => ?_)
      have h := bnd_e e12 h
      refine g_iinc X (j := 2) (w := a8 + (1 : Int32)) (lv' := [(0, .ref (gad (xz x) p5)), (1, .int a7), (3, .int a9)]) dJ7_fill_53178_14 rfl (by rw [ii_1]) (by decide) (fun _ => rfl) (fun v13 e14 => ?_)
      have h := bnd_e e14 h
      refine g_goto X (tgt := 5) dJ7_fill_53178_17 (by decide) ?_
      refine g_lv [1, 2, 0, 3] rfl ?_
      exact hrec v13 M11 h
def f_J7_fill_53178 (F : Nat) (p0 : Nat) (i1 : Int32) (M : GM) : Option GM := bnd (0 : Int32) (fun v1 => bnd (Int32.ofNat (gN p0)) (fun v3 => bndO (lp_J7_fill_53178_5 F p0 i1 v3 F v1 M) (fun M15 => some M15)))
set_option maxHeartbeats 4000000 in
set_option maxRecDepth 100000 in
theorem w_J7_fill_53178 {x : GX} (X : GC x cJ7_fill_53178 4 RJ7 0) {p0 : Nat} {i1 : Int32} (h1 : gT p0 = 20) {F : Nat} {M : GM} {r9 : GM} (hR : ∀ (M9 : GM) (lv9 : List (Nat × Value)) (pc9 : Nat), r9 = M9 → decode cJ7_fill_53178 pc9 = .ok (.return_, 1) → WG x M9 lv9 pc9 []) (h : f_J7_fill_53178 F p0 i1 M = some r9) : WG x M [(0, .ref (gad (xz x) p0)), (1, .int i1)] 0 [] := by
  unfold f_J7_fill_53178 at h
  refine g_iconst X (v := 0) dJ7_fill_53178_0 (by decide) ?_
  refine g_topi (fun v1 e2 => ?_)
  have h := bnd_e e2 h
  refine g_istore_n X (lv' := [(2, .int v1), (0, .ref (gad (xz x) p0)), (1, .int i1)]) dJ7_fill_53178_1 rfl (by decide) rfl ?_
  refine g_aload_n X (j := 1) dJ7_fill_53178_2 rfl rfl ?_
  refine g_alen_20 X h1 dJ7_fill_53178_3 ?_
  refine g_topi (fun v3 e4 => ?_)
  have h := bnd_e e4 h
  refine g_istore_n X (lv' := [(3, .int v3), (2, .int v1), (0, .ref (gad (xz x) p0)), (1, .int i1)]) dJ7_fill_53178_4 rfl (by decide) rfl ?_
  refine g_lv [2, 3, 1, 0] rfl ?_
  obtain ⟨M15, hl16, h⟩ := bndO_e h
  refine lw_J7_fill_53178_5 X h1 (fun M15_ e9 => ?_) F v1 M hl16
  cases e9
  exact hR M15 _ _ (Option.some.inj h).symm dJ7_fill_53178_20
theorem ct_J7_fill_53178 {l : Launch} {z : GZ} (htr : l.stackTraces = false) {p0 : Nat} {i1 : Int32} (h1 : gT p0 = 20) {M : GM} {F : Nat} {M1 : GM} (h : f_J7_fill_53178 F p0 i1 M = some M1) : gMet l z yJ7_fill_53178 cJ7_fill_53178 4 none 0 [.ref (gad z p0), .int i1] M (none) M1 := gMet_ofV (by decide +kernel) (Nat.le_of_ble_eq_true rfl) htr (fun x X ez el hR => by subst ez; subst el; exact w_J7_fill_53178 X h1 (fun M9 lv9 pc9 e9 d9 => by cases e9; exact hR lv9 pc9 d9) h)
