/-! constructors -/
theorem fr_X0 : ∀ j, j < 4 → defaultValue (tyX0 j) = vp_V [.int 0, .int 0, .int 0, .int 0] j := by
  intro j hj
  rcases (show j = 0 ∨ j = 1 ∨ j = 2 ∨ j = 3 by omega) with rfl | rfl | rfl | rfl <;> rfl
theorem fr_X1 : ∀ j, j < 3 → defaultValue (tyX1 j) = vp_V [.null, .int 0, .int 0] j := by
  intro j hj
  rcases (show j = 0 ∨ j = 1 ∨ j = 2 by omega) with rfl | rfl | rfl <;> rfl
theorem fr_X2 : ∀ j, j < 2 → defaultValue (tyX2 j) = vp_V [.null, .int 0] j := by
  intro j hj
  rcases (show j = 0 ∨ j = 1 by omega) with rfl | rfl <;> rfl
theorem fr_X3 : ∀ j, j < 6 → defaultValue (tyX3 j) = vp_V [.int 0, .int 0, .int 0, .int 0, .int 0, .int 0] j := by
  intro j hj
  rcases (show j = 0 ∨ j = 1 ∨ j = 2 ∨ j = 3 ∨ j = 4 ∨ j = 5 by omega) with rfl | rfl | rfl | rfl | rfl | rfl <;> rfl
theorem fr_X4 : ∀ j, j < 7 → defaultValue (tyX4 j) = vp_V [.int 0, .int 0, .int 0, .int 0, .int 0, .int 0, .int 0] j := by
  intro j hj
  rcases (show j = 0 ∨ j = 1 ∨ j = 2 ∨ j = 3 ∨ j = 4 ∨ j = 5 ∨ j = 6 by omega) with rfl | rfl | rfl | rfl | rfl | rfl | rfl <;> rfl
theorem fr_X5 : ∀ j, j < 2 → defaultValue (tyX5 j) = vp_V [.null, .int 0] j := by
  intro j hj
  rcases (show j = 0 ∨ j = 1 by omega) with rfl | rfl <;> rfl
theorem fr_X6 : ∀ j, j < 9 → defaultValue (tyX6 j) = vp_V [.null, .null, .null, .null, .long 0, .int 0, .long 0, .long 0, .long 0] j := by
  intro j hj
  rcases (show j = 0 ∨ j = 1 ∨ j = 2 ∨ j = 3 ∨ j = 4 ∨ j = 5 ∨ j = 6 ∨ j = 7 ∨ j = 8 by omega) with rfl | rfl | rfl | rfl | rfl | rfl | rfl | rfl | rfl <;> rfl
theorem fr_X7 : ∀ j, j < 3 → defaultValue (tyX7 j) = vp_V [.null, .null, .null] j := by
  intro j hj
  rcases (show j = 0 ∨ j = 1 ∨ j = 2 by omega) with rfl | rfl | rfl <;> rfl
theorem fr_X8 : ∀ j, j < 4 → defaultValue (tyX8 j) = vp_V [.null, .null, .null, .int 0] j := by
  intro j hj
  rcases (show j = 0 ∨ j = 1 ∨ j = 2 ∨ j = 3 by omega) with rfl | rfl | rfl | rfl <;> rfl
theorem fr_X9 : ∀ j, j < 12 → defaultValue (tyX9 j) = vp_V [.int 0, .int 0, .int 0, .int 0, .int 0, .int 0, .int 0, .int 0, .int 0, .int 0, .int 0, .int 0] j := by
  intro j hj
  rcases (show j = 0 ∨ j = 1 ∨ j = 2 ∨ j = 3 ∨ j = 4 ∨ j = 5 ∨ j = 6 ∨ j = 7 ∨ j = 8 ∨ j = 9 ∨ j = 10 ∨ j = 11 by omega) with rfl | rfl | rfl | rfl | rfl | rfl | rfl | rfl | rfl | rfl | rfl | rfl <;> rfl
theorem fr_X10 : ∀ j, j < 15 → defaultValue (tyX10 j) = vp_V [.null, .null, .null, .null, .null, .null, .null, .null, .null, .null, .null, .null, .int 0, .int 0, .int 0] j := by
  intro j hj
  rcases (show j = 0 ∨ j = 1 ∨ j = 2 ∨ j = 3 ∨ j = 4 ∨ j = 5 ∨ j = 6 ∨ j = 7 ∨ j = 8 ∨ j = 9 ∨ j = 10 ∨ j = 11 ∨ j = 12 ∨ j = 13 ∨ j = 14 by omega) with rfl | rfl | rfl | rfl | rfl | rfl | rfl | rfl | rfl | rfl | rfl | rfl | rfl | rfl | rfl <;> rfl
theorem fr_X11 : ∀ j, j < 14 → defaultValue (tyX11 j) = vp_V [.null, .null, .int 0, .int 0, .int 0, .null, .null, .null, .null, .null, .null, .int 0, .int 0, .int 0] j := by
  intro j hj
  rcases (show j = 0 ∨ j = 1 ∨ j = 2 ∨ j = 3 ∨ j = 4 ∨ j = 5 ∨ j = 6 ∨ j = 7 ∨ j = 8 ∨ j = 9 ∨ j = 10 ∨ j = 11 ∨ j = 12 ∨ j = 13 by omega) with rfl | rfl | rfl | rfl | rfl | rfl | rfl | rfl | rfl | rfl | rfl | rfl | rfl | rfl <;> rfl
theorem q_obj : Cond.code Lib.objectInit ⟨#[0xb1]⟩ 1 none ∈ GW := gw_mem 76 (by decide +kernel) (by decide +kernel)
theorem q_75 : (.instanceMethod ⟨"java/lang/Object", "<init>", "()V"⟩ : Cond) ∈ GW := gw_mem 75 (by decide +kernel) (by decide +kernel)
theorem q_490 : (.methodLink RX1 3 ⟨"java/lang/Object", "<init>", "()V"⟩ : Cond) ∈ GW := gw_mem 490 (by decide +kernel) (by decide +kernel)
theorem q_509 : (.methodLink RX8 3 ⟨"java/lang/Object", "<init>", "()V"⟩ : Cond) ∈ GW := gw_mem 509 (by decide +kernel) (by decide +kernel)
theorem q_510 : (.classLink RX8 9 RX9 : Cond) ∈ GW := gw_mem 510 (by decide +kernel) (by decide +kernel)
theorem q_512 : ((Jvm.Cond.instantiable "GlassRaster$Spot" (12 : Nat)) : Cond) ∈ GW := gw_mem 512 (by decide +kernel) (by decide +kernel)
theorem q_514 : (.instanceMethod yX9_init : Cond) ∈ GW := gw_mem 514 (by decide +kernel) (by decide +kernel)
theorem q_515 : (.code yX9_init cX9_init 1 none : Cond) ∈ GW := gw_mem 515 (by decide +kernel) (by decide +kernel)
theorem q_516 : (.methodLink RX9 3 ⟨"java/lang/Object", "<init>", "()V"⟩ : Cond) ∈ GW := gw_mem 516 (by decide +kernel) (by decide +kernel)
theorem q_578 : (.classLink RX8 21 RX6 : Cond) ∈ GW := gw_mem 578 (by decide +kernel) (by decide +kernel)
theorem q_580 : ((Jvm.Cond.instantiable "GlassRaster$Piece" (9 : Nat)) : Cond) ∈ GW := gw_mem 580 (by decide +kernel) (by decide +kernel)
theorem q_582 : (.instanceMethod yX6_init : Cond) ∈ GW := gw_mem 582 (by decide +kernel) (by decide +kernel)
theorem q_583 : (.code yX6_init cX6_init 1 none : Cond) ∈ GW := gw_mem 583 (by decide +kernel) (by decide +kernel)
theorem q_584 : (.methodLink RX6 3 ⟨"java/lang/Object", "<init>", "()V"⟩ : Cond) ∈ GW := gw_mem 584 (by decide +kernel) (by decide +kernel)
theorem q_585 : (.classLink RX6 9 RX0 : Cond) ∈ GW := gw_mem 585 (by decide +kernel) (by decide +kernel)
theorem q_586 : ((Jvm.Cond.instantiable "GlassRaster$Box" (4 : Nat)) : Cond) ∈ GW := gw_mem 586 (by decide +kernel) (by decide +kernel)
theorem q_588 : (.instanceMethod yX0_init : Cond) ∈ GW := gw_mem 588 (by decide +kernel) (by decide +kernel)
theorem q_589 : (.code yX0_init cX0_init 1 none : Cond) ∈ GW := gw_mem 589 (by decide +kernel) (by decide +kernel)
theorem q_590 : (.methodLink RX0 3 ⟨"java/lang/Object", "<init>", "()V"⟩ : Cond) ∈ GW := gw_mem 590 (by decide +kernel) (by decide +kernel)
theorem q_612 : (.classLink RX6 18 RX9 : Cond) ∈ GW := gw_mem 612 (by decide +kernel) (by decide +kernel)
theorem q_671 : (.methodLink RX7 3 ⟨"java/lang/Object", "<init>", "()V"⟩ : Cond) ∈ GW := gw_mem 671 (by decide +kernel) (by decide +kernel)
theorem q_690 : (.methodLink RX2 1 ⟨"java/lang/Object", "<init>", "()V"⟩ : Cond) ∈ GW := gw_mem 690 (by decide +kernel) (by decide +kernel)
theorem q_705 : (.methodLink RX3 1 ⟨"java/lang/Object", "<init>", "()V"⟩ : Cond) ∈ GW := gw_mem 705 (by decide +kernel) (by decide +kernel)
theorem q_735 : (.methodLink RX4 1 ⟨"java/lang/Object", "<init>", "()V"⟩ : Cond) ∈ GW := gw_mem 735 (by decide +kernel) (by decide +kernel)
theorem q_764 : (.methodLink RX5 3 ⟨"java/lang/Object", "<init>", "()V"⟩ : Cond) ∈ GW := gw_mem 764 (by decide +kernel) (by decide +kernel)
theorem dX0_init_0 : decode cX0_init 0 = .ok (.aload_n 0, 1) := by decide +kernel
theorem dX0_init_1 : decode cX0_init 1 = .ok (.invokespecial 3, 3) := by decide +kernel
theorem dX0_init_4 : decode cX0_init 4 = .ok (.aload_n 0, 1) := by decide +kernel
theorem dX0_init_5 : decode cX0_init 5 = .ok (.bipush 39, 2) := by decide +kernel
theorem dX0_init_7 : decode cX0_init 7 = .ok (.putfield 9, 3) := by decide +kernel
theorem dX0_init_10 : decode cX0_init 10 = .ok (.aload_n 0, 1) := by decide +kernel
theorem dX0_init_11 : decode cX0_init 11 = .ok (.bipush 23, 2) := by decide +kernel
theorem dX0_init_13 : decode cX0_init 13 = .ok (.putfield 15, 3) := by decide +kernel
theorem dX0_init_16 : decode cX0_init 16 = .ok (.return_, 1) := by decide +kernel
set_option maxHeartbeats 4000000 in
set_option maxRecDepth 100000 in
theorem dm_X0_init (l : Launch) (z : GZ) (pre : List va_E) (p : Nat) (hp : pre.length = p) : dMet l z yX0_init cX0_init 1 1 [.ref (gad z (p + 0))] (pre ++ [.inr (0, [.int 0, .int 0, .int 0, .int 0])]) (pre ++ [.inr (0, [.int 0, .int 0, .int 39, .int 23])]) 0 0 := by
  refine dMet_of (by decide +kernel) (Nat.le_of_ble_eq_true rfl) (fun x X ez el hnm hR => ?_)
  subst ez; subst el
  have hin : (xmeth x).name = "<init>" := hnm
  show WD x 0 0 (pre ++ [.inr (0, [.int 0, .int 0, .int 0, .int 0])]) [(0, .ref (gad (xz x) (p + 0)))] 0 []
  refine d_aload_n X (j := 0) dX0_init_0 rfl rfl ?_
  refine d_objInit X (by decide) (Nat.le_of_ble_eq_true rfl) q_590 q_75 q_obj dX0_init_1 ?_
  refine d_aload_n X (j := 0) dX0_init_4 rfl rfl ?_
  refine d_bipush X (v := 39) dX0_init_5 (by decide) ?_
  refine d_put X (k := 2) (es2 := (pre ++ [.inr (0, [.int 0, .int 0, .int 39, .int 0])])) (dg hp 0 rfl) (ds hp 0 rfl) rfl inX0 tyX0_ok nmX0 (by decide) q_597 rfl (Or.inl rfl) (tyX0_ok 2 (by decide)) rfl rfl (Nat.le_of_ble_eq_true rfl) dX0_init_7 ?_
  refine d_aload_n X (j := 0) dX0_init_10 rfl rfl ?_
  refine d_bipush X (v := 23) dX0_init_11 (by decide) ?_
  refine d_put X (k := 3) (es2 := (pre ++ [.inr (0, [.int 0, .int 0, .int 39, .int 23])])) (dg hp 0 rfl) (ds hp 0 rfl) rfl inX0 tyX0_ok nmX0 (by decide) q_600 rfl (Or.inl rfl) (tyX0_ok 3 (by decide)) rfl rfl (Nat.le_of_ble_eq_true rfl) dX0_init_13 ?_
  exact hR _ _ dX0_init_16
theorem dX3_init_0 : decode cX3_init 0 = .ok (.aload_n 0, 1) := by decide +kernel
theorem dX3_init_1 : decode cX3_init 1 = .ok (.invokespecial 1, 3) := by decide +kernel
theorem dX3_init_4 : decode cX3_init 4 = .ok (.return_, 1) := by decide +kernel
set_option maxHeartbeats 4000000 in
set_option maxRecDepth 100000 in
theorem dm_X3_init (l : Launch) (z : GZ) (pre : List va_E) (p : Nat) (hp : pre.length = p) : dMet l z yX3_init cX3_init 1 1 [.ref (gad z (p + 0))] (pre ++ [.inr (3, [.int 0, .int 0, .int 0, .int 0, .int 0, .int 0])]) (pre ++ [.inr (3, [.int 0, .int 0, .int 0, .int 0, .int 0, .int 0])]) 0 0 := by
  refine dMet_of (by decide +kernel) (Nat.le_of_ble_eq_true rfl) (fun x X ez el hnm hR => ?_)
  subst ez; subst el
  have hin : (xmeth x).name = "<init>" := hnm
  show WD x 0 0 (pre ++ [.inr (3, [.int 0, .int 0, .int 0, .int 0, .int 0, .int 0])]) [(0, .ref (gad (xz x) (p + 0)))] 0 []
  refine d_aload_n X (j := 0) dX3_init_0 rfl rfl ?_
  refine d_objInit X (by decide) (Nat.le_of_ble_eq_true rfl) q_705 q_75 q_obj dX3_init_1 ?_
  exact hR _ _ dX3_init_4
theorem dX4_init_0 : decode cX4_init 0 = .ok (.aload_n 0, 1) := by decide +kernel
theorem dX4_init_1 : decode cX4_init 1 = .ok (.invokespecial 1, 3) := by decide +kernel
theorem dX4_init_4 : decode cX4_init 4 = .ok (.return_, 1) := by decide +kernel
set_option maxHeartbeats 4000000 in
set_option maxRecDepth 100000 in
theorem dm_X4_init (l : Launch) (z : GZ) (pre : List va_E) (p : Nat) (hp : pre.length = p) : dMet l z yX4_init cX4_init 1 1 [.ref (gad z (p + 0))] (pre ++ [.inr (4, [.int 0, .int 0, .int 0, .int 0, .int 0, .int 0, .int 0])]) (pre ++ [.inr (4, [.int 0, .int 0, .int 0, .int 0, .int 0, .int 0, .int 0])]) 0 0 := by
  refine dMet_of (by decide +kernel) (Nat.le_of_ble_eq_true rfl) (fun x X ez el hnm hR => ?_)
  subst ez; subst el
  have hin : (xmeth x).name = "<init>" := hnm
  show WD x 0 0 (pre ++ [.inr (4, [.int 0, .int 0, .int 0, .int 0, .int 0, .int 0, .int 0])]) [(0, .ref (gad (xz x) (p + 0)))] 0 []
  refine d_aload_n X (j := 0) dX4_init_0 rfl rfl ?_
  refine d_objInit X (by decide) (Nat.le_of_ble_eq_true rfl) q_735 q_75 q_obj dX4_init_1 ?_
  exact hR _ _ dX4_init_4
theorem dX9_init_0 : decode cX9_init 0 = .ok (.aload_n 0, 1) := by decide +kernel
theorem dX9_init_1 : decode cX9_init 1 = .ok (.invokespecial 3, 3) := by decide +kernel
theorem dX9_init_4 : decode cX9_init 4 = .ok (.return_, 1) := by decide +kernel
set_option maxHeartbeats 4000000 in
set_option maxRecDepth 100000 in
theorem dm_X9_init (l : Launch) (z : GZ) (pre : List va_E) (p : Nat) (hp : pre.length = p) : dMet l z yX9_init cX9_init 1 1 [.ref (gad z (p + 0))] (pre ++ [.inr (9, [.int 0, .int 0, .int 0, .int 0, .int 0, .int 0, .int 0, .int 0, .int 0, .int 0, .int 0, .int 0])]) (pre ++ [.inr (9, [.int 0, .int 0, .int 0, .int 0, .int 0, .int 0, .int 0, .int 0, .int 0, .int 0, .int 0, .int 0])]) 0 0 := by
  refine dMet_of (by decide +kernel) (Nat.le_of_ble_eq_true rfl) (fun x X ez el hnm hR => ?_)
  subst ez; subst el
  have hin : (xmeth x).name = "<init>" := hnm
  show WD x 0 0 (pre ++ [.inr (9, [.int 0, .int 0, .int 0, .int 0, .int 0, .int 0, .int 0, .int 0, .int 0, .int 0, .int 0, .int 0])]) [(0, .ref (gad (xz x) (p + 0)))] 0 []
  refine d_aload_n X (j := 0) dX9_init_0 rfl rfl ?_
  refine d_objInit X (by decide) (Nat.le_of_ble_eq_true rfl) q_516 q_75 q_obj dX9_init_1 ?_
  exact hR _ _ dX9_init_4
theorem dX1_init_0 : decode cX1_init 0 = .ok (.aload_n 0, 1) := by decide +kernel
theorem dX1_init_1 : decode cX1_init 1 = .ok (.invokespecial 3, 3) := by decide +kernel
theorem dX1_init_4 : decode cX1_init 4 = .ok (.aload_n 0, 1) := by decide +kernel
theorem dX1_init_5 : decode cX1_init 5 = .ok (.bipush 12, 2) := by decide +kernel
theorem dX1_init_7 : decode cX1_init 7 = .ok (.newarray .int, 2) := by decide +kernel
theorem dX1_init_9 : decode cX1_init 9 = .ok (.dup, 1) := by decide +kernel
theorem dX1_init_10 : decode cX1_init 10 = .ok (.iconst 0, 1) := by decide +kernel
theorem dX1_init_11 : decode cX1_init 11 = .ok (.sipush 1024, 3) := by decide +kernel
theorem dX1_init_14 : decode cX1_init 14 = .ok (.iastore, 1) := by decide +kernel
theorem dX1_init_15 : decode cX1_init 15 = .ok (.dup, 1) := by decide +kernel
theorem dX1_init_16 : decode cX1_init 16 = .ok (.iconst 1, 1) := by decide +kernel
theorem dX1_init_17 : decode cX1_init 17 = .ok (.iconst 0, 1) := by decide +kernel
theorem dX1_init_18 : decode cX1_init 18 = .ok (.iastore, 1) := by decide +kernel
theorem dX1_init_19 : decode cX1_init 19 = .ok (.dup, 1) := by decide +kernel
theorem dX1_init_20 : decode cX1_init 20 = .ok (.iconst 2, 1) := by decide +kernel
theorem dX1_init_21 : decode cX1_init 21 = .ok (.iconst 0, 1) := by decide +kernel
theorem dX1_init_22 : decode cX1_init 22 = .ok (.iastore, 1) := by decide +kernel
theorem dX1_init_23 : decode cX1_init 23 = .ok (.dup, 1) := by decide +kernel
theorem dX1_init_24 : decode cX1_init 24 = .ok (.iconst 3, 1) := by decide +kernel
theorem dX1_init_25 : decode cX1_init 25 = .ok (.iconst 0, 1) := by decide +kernel
theorem dX1_init_26 : decode cX1_init 26 = .ok (.iastore, 1) := by decide +kernel
theorem dX1_init_27 : decode cX1_init 27 = .ok (.dup, 1) := by decide +kernel
theorem dX1_init_28 : decode cX1_init 28 = .ok (.iconst 4, 1) := by decide +kernel
theorem dX1_init_29 : decode cX1_init 29 = .ok (.iconst 0, 1) := by decide +kernel
theorem dX1_init_30 : decode cX1_init 30 = .ok (.iastore, 1) := by decide +kernel
theorem dX1_init_31 : decode cX1_init 31 = .ok (.dup, 1) := by decide +kernel
theorem dX1_init_32 : decode cX1_init 32 = .ok (.iconst 5, 1) := by decide +kernel
theorem dX1_init_33 : decode cX1_init 33 = .ok (.sipush 1024, 3) := by decide +kernel
theorem dX1_init_36 : decode cX1_init 36 = .ok (.iastore, 1) := by decide +kernel
theorem dX1_init_37 : decode cX1_init 37 = .ok (.dup, 1) := by decide +kernel
theorem dX1_init_38 : decode cX1_init 38 = .ok (.bipush 6, 2) := by decide +kernel
theorem dX1_init_40 : decode cX1_init 40 = .ok (.iconst 0, 1) := by decide +kernel
theorem dX1_init_41 : decode cX1_init 41 = .ok (.iastore, 1) := by decide +kernel
theorem dX1_init_42 : decode cX1_init 42 = .ok (.dup, 1) := by decide +kernel
theorem dX1_init_43 : decode cX1_init 43 = .ok (.bipush 7, 2) := by decide +kernel
theorem dX1_init_45 : decode cX1_init 45 = .ok (.iconst 0, 1) := by decide +kernel
theorem dX1_init_46 : decode cX1_init 46 = .ok (.iastore, 1) := by decide +kernel
theorem dX1_init_47 : decode cX1_init 47 = .ok (.dup, 1) := by decide +kernel
theorem dX1_init_48 : decode cX1_init 48 = .ok (.bipush 8, 2) := by decide +kernel
theorem dX1_init_50 : decode cX1_init 50 = .ok (.iconst 0, 1) := by decide +kernel
theorem dX1_init_51 : decode cX1_init 51 = .ok (.iastore, 1) := by decide +kernel
theorem dX1_init_52 : decode cX1_init 52 = .ok (.dup, 1) := by decide +kernel
theorem dX1_init_53 : decode cX1_init 53 = .ok (.bipush 9, 2) := by decide +kernel
theorem dX1_init_55 : decode cX1_init 55 = .ok (.iconst 0, 1) := by decide +kernel
theorem dX1_init_56 : decode cX1_init 56 = .ok (.iastore, 1) := by decide +kernel
theorem dX1_init_57 : decode cX1_init 57 = .ok (.dup, 1) := by decide +kernel
theorem dX1_init_58 : decode cX1_init 58 = .ok (.bipush 10, 2) := by decide +kernel
theorem dX1_init_60 : decode cX1_init 60 = .ok (.sipush 1024, 3) := by decide +kernel
theorem dX1_init_63 : decode cX1_init 63 = .ok (.iastore, 1) := by decide +kernel
theorem dX1_init_64 : decode cX1_init 64 = .ok (.dup, 1) := by decide +kernel
theorem dX1_init_65 : decode cX1_init 65 = .ok (.bipush 11, 2) := by decide +kernel
theorem dX1_init_67 : decode cX1_init 67 = .ok (.sipush 500, 3) := by decide +kernel
theorem dX1_init_70 : decode cX1_init 70 = .ok (.iastore, 1) := by decide +kernel
theorem dX1_init_71 : decode cX1_init 71 = .ok (.putfield 9, 3) := by decide +kernel
theorem dX1_init_74 : decode cX1_init 74 = .ok (.aload_n 0, 1) := by decide +kernel
theorem dX1_init_75 : decode cX1_init 75 = .ok (.bipush 100, 2) := by decide +kernel
theorem dX1_init_77 : decode cX1_init 77 = .ok (.putfield 15, 3) := by decide +kernel
theorem dX1_init_80 : decode cX1_init 80 = .ok (.aload_n 0, 1) := by decide +kernel
theorem dX1_init_81 : decode cX1_init 81 = .ok (.bipush 40, 2) := by decide +kernel
theorem dX1_init_83 : decode cX1_init 83 = .ok (.putfield 19, 3) := by decide +kernel
theorem dX1_init_86 : decode cX1_init 86 = .ok (.return_, 1) := by decide +kernel
set_option maxHeartbeats 4000000 in
set_option maxRecDepth 100000 in
theorem dm_X1_init (l : Launch) (z : GZ) (pre : List va_E) (p : Nat) (hp : pre.length = p) : dMet l z yX1_init cX1_init 1 1 [.ref (gad z (p + 0))] (pre ++ [.inr (1, [.null, .int 0, .int 0])]) (pre ++ [.inr (1, [.ref (gad z (p + 1)), .int 100, .int 40]), .inl (gcy z 20, 12, .inl (upd (upd (upd (upd (upd (upd (upd (upd (upd (upd (upd (upd (fun _ => 0) 0 1024) 1 0) 2 0) 3 0) 4 0) 5 1024) 6 0) 7 0) 8 0) 9 0) 10 1024) 11 500))]) 1 12 := by
  refine dMet_of (by decide +kernel) (Nat.le_of_ble_eq_true rfl) (fun x X ez el hnm hR => ?_)
  subst ez; subst el
  have hin : (xmeth x).name = "<init>" := hnm
  show WD x 0 0 (pre ++ [.inr (1, [.null, .int 0, .int 0])]) [(0, .ref (gad (xz x) (p + 0)))] 0 []
  refine d_aload_n X (j := 0) dX1_init_0 rfl rfl ?_
  refine d_objInit X (by decide) (Nat.le_of_ble_eq_true rfl) q_490 q_75 q_obj dX1_init_1 ?_
  refine d_aload_n X (j := 0) dX1_init_4 rfl rfl ?_
  refine d_bipush X (v := 12) dX1_init_5 (by decide) ?_
  refine d_newarr X (tag := 20) (atype := .int) (ty := .int) (a0 := (12, .inl (fun _ => 0))) (N := 12) (es2 := (pre ++ [.inr (1, [.null, .int 0, .int 0]), .inl (gcy (xz x) 20, 12, .inl (fun _ => 0))])) (a := p + 1) rfl rfl (fun h => h) q_ac20 (by rfl) (by decide) (by decide +kernel) (Nat.le_of_ble_eq_true rfl) (by decide) (by decide) (by simp only [List.append_assoc, List.cons_append, List.nil_append]) (by simp [hp]) dX1_init_7 ?_
  refine d_cs (c2 := 1) (s2 := 12) rfl rfl ?_
  refine d_dup X dX1_init_9 rfl ?_
  refine d_iconst X (v := 0) dX1_init_10 (by decide) ?_
  refine d_sipush X (v := 1024) dX1_init_11 (by decide) ?_
  refine d_iast X (f2 := upd (fun _ => 0) 0 1024) (es2 := (pre ++ [.inr (1, [.null, .int 0, .int 0]), .inl (gcy (xz x) 20, 12, .inl (upd (fun _ => 0) 0 1024))])) (dg hp 1 rfl) (by decide +kernel) (by rw [show Int32.toNatClampNeg 0 = 0 by decide +kernel]) (ds hp 1 rfl) dX1_init_14 ?_
  refine d_dup X dX1_init_15 rfl ?_
  refine d_iconst X (v := 1) dX1_init_16 (by decide) ?_
  refine d_iconst X (v := 0) dX1_init_17 (by decide) ?_
  refine d_iast X (f2 := upd (upd (fun _ => 0) 0 1024) 1 0) (es2 := (pre ++ [.inr (1, [.null, .int 0, .int 0]), .inl (gcy (xz x) 20, 12, .inl (upd (upd (fun _ => 0) 0 1024) 1 0))])) (dg hp 1 rfl) (by decide +kernel) (by rw [show Int32.toNatClampNeg 1 = 1 by decide +kernel]) (ds hp 1 rfl) dX1_init_18 ?_
  refine d_dup X dX1_init_19 rfl ?_
  refine d_iconst X (v := 2) dX1_init_20 (by decide) ?_
  refine d_iconst X (v := 0) dX1_init_21 (by decide) ?_
  refine d_iast X (f2 := upd (upd (upd (fun _ => 0) 0 1024) 1 0) 2 0) (es2 := (pre ++ [.inr (1, [.null, .int 0, .int 0]), .inl (gcy (xz x) 20, 12, .inl (upd (upd (upd (fun _ => 0) 0 1024) 1 0) 2 0))])) (dg hp 1 rfl) (by decide +kernel) (by rw [show Int32.toNatClampNeg 2 = 2 by decide +kernel]) (ds hp 1 rfl) dX1_init_22 ?_
  refine d_dup X dX1_init_23 rfl ?_
  refine d_iconst X (v := 3) dX1_init_24 (by decide) ?_
  refine d_iconst X (v := 0) dX1_init_25 (by decide) ?_
  refine d_iast X (f2 := upd (upd (upd (upd (fun _ => 0) 0 1024) 1 0) 2 0) 3 0) (es2 := (pre ++ [.inr (1, [.null, .int 0, .int 0]), .inl (gcy (xz x) 20, 12, .inl (upd (upd (upd (upd (fun _ => 0) 0 1024) 1 0) 2 0) 3 0))])) (dg hp 1 rfl) (by decide +kernel) (by rw [show Int32.toNatClampNeg 3 = 3 by decide +kernel]) (ds hp 1 rfl) dX1_init_26 ?_
  refine d_dup X dX1_init_27 rfl ?_
  refine d_iconst X (v := 4) dX1_init_28 (by decide) ?_
  refine d_iconst X (v := 0) dX1_init_29 (by decide) ?_
  refine d_iast X (f2 := upd (upd (upd (upd (upd (fun _ => 0) 0 1024) 1 0) 2 0) 3 0) 4 0) (es2 := (pre ++ [.inr (1, [.null, .int 0, .int 0]), .inl (gcy (xz x) 20, 12, .inl (upd (upd (upd (upd (upd (fun _ => 0) 0 1024) 1 0) 2 0) 3 0) 4 0))])) (dg hp 1 rfl) (by decide +kernel) (by rw [show Int32.toNatClampNeg 4 = 4 by decide +kernel]) (ds hp 1 rfl) dX1_init_30 ?_
  refine d_dup X dX1_init_31 rfl ?_
  refine d_iconst X (v := 5) dX1_init_32 (by decide) ?_
  refine d_sipush X (v := 1024) dX1_init_33 (by decide) ?_
  refine d_iast X (f2 := upd (upd (upd (upd (upd (upd (fun _ => 0) 0 1024) 1 0) 2 0) 3 0) 4 0) 5 1024) (es2 := (pre ++ [.inr (1, [.null, .int 0, .int 0]), .inl (gcy (xz x) 20, 12, .inl (upd (upd (upd (upd (upd (upd (fun _ => 0) 0 1024) 1 0) 2 0) 3 0) 4 0) 5 1024))])) (dg hp 1 rfl) (by decide +kernel) (by rw [show Int32.toNatClampNeg 5 = 5 by decide +kernel]) (ds hp 1 rfl) dX1_init_36 ?_
  refine d_dup X dX1_init_37 rfl ?_
  refine d_bipush X (v := 6) dX1_init_38 (by decide) ?_
  refine d_iconst X (v := 0) dX1_init_40 (by decide) ?_
  refine d_iast X (f2 := upd (upd (upd (upd (upd (upd (upd (fun _ => 0) 0 1024) 1 0) 2 0) 3 0) 4 0) 5 1024) 6 0) (es2 := (pre ++ [.inr (1, [.null, .int 0, .int 0]), .inl (gcy (xz x) 20, 12, .inl (upd (upd (upd (upd (upd (upd (upd (fun _ => 0) 0 1024) 1 0) 2 0) 3 0) 4 0) 5 1024) 6 0))])) (dg hp 1 rfl) (by decide +kernel) (by rw [show Int32.toNatClampNeg 6 = 6 by decide +kernel]) (ds hp 1 rfl) dX1_init_41 ?_
  refine d_dup X dX1_init_42 rfl ?_
  refine d_bipush X (v := 7) dX1_init_43 (by decide) ?_
  refine d_iconst X (v := 0) dX1_init_45 (by decide) ?_
  refine d_iast X (f2 := upd (upd (upd (upd (upd (upd (upd (upd (fun _ => 0) 0 1024) 1 0) 2 0) 3 0) 4 0) 5 1024) 6 0) 7 0) (es2 := (pre ++ [.inr (1, [.null, .int 0, .int 0]), .inl (gcy (xz x) 20, 12, .inl (upd (upd (upd (upd (upd (upd (upd (upd (fun _ => 0) 0 1024) 1 0) 2 0) 3 0) 4 0) 5 1024) 6 0) 7 0))])) (dg hp 1 rfl) (by decide +kernel) (by rw [show Int32.toNatClampNeg 7 = 7 by decide +kernel]) (ds hp 1 rfl) dX1_init_46 ?_
  refine d_dup X dX1_init_47 rfl ?_
  refine d_bipush X (v := 8) dX1_init_48 (by decide) ?_
  refine d_iconst X (v := 0) dX1_init_50 (by decide) ?_
  refine d_iast X (f2 := upd (upd (upd (upd (upd (upd (upd (upd (upd (fun _ => 0) 0 1024) 1 0) 2 0) 3 0) 4 0) 5 1024) 6 0) 7 0) 8 0) (es2 := (pre ++ [.inr (1, [.null, .int 0, .int 0]), .inl (gcy (xz x) 20, 12, .inl (upd (upd (upd (upd (upd (upd (upd (upd (upd (fun _ => 0) 0 1024) 1 0) 2 0) 3 0) 4 0) 5 1024) 6 0) 7 0) 8 0))])) (dg hp 1 rfl) (by decide +kernel) (by rw [show Int32.toNatClampNeg 8 = 8 by decide +kernel]) (ds hp 1 rfl) dX1_init_51 ?_
  refine d_dup X dX1_init_52 rfl ?_
  refine d_bipush X (v := 9) dX1_init_53 (by decide) ?_
  refine d_iconst X (v := 0) dX1_init_55 (by decide) ?_
  refine d_iast X (f2 := upd (upd (upd (upd (upd (upd (upd (upd (upd (upd (fun _ => 0) 0 1024) 1 0) 2 0) 3 0) 4 0) 5 1024) 6 0) 7 0) 8 0) 9 0) (es2 := (pre ++ [.inr (1, [.null, .int 0, .int 0]), .inl (gcy (xz x) 20, 12, .inl (upd (upd (upd (upd (upd (upd (upd (upd (upd (upd (fun _ => 0) 0 1024) 1 0) 2 0) 3 0) 4 0) 5 1024) 6 0) 7 0) 8 0) 9 0))])) (dg hp 1 rfl) (by decide +kernel) (by rw [show Int32.toNatClampNeg 9 = 9 by decide +kernel]) (ds hp 1 rfl) dX1_init_56 ?_
  refine d_dup X dX1_init_57 rfl ?_
  refine d_bipush X (v := 10) dX1_init_58 (by decide) ?_
  refine d_sipush X (v := 1024) dX1_init_60 (by decide) ?_
  refine d_iast X (f2 := upd (upd (upd (upd (upd (upd (upd (upd (upd (upd (upd (fun _ => 0) 0 1024) 1 0) 2 0) 3 0) 4 0) 5 1024) 6 0) 7 0) 8 0) 9 0) 10 1024) (es2 := (pre ++ [.inr (1, [.null, .int 0, .int 0]), .inl (gcy (xz x) 20, 12, .inl (upd (upd (upd (upd (upd (upd (upd (upd (upd (upd (upd (fun _ => 0) 0 1024) 1 0) 2 0) 3 0) 4 0) 5 1024) 6 0) 7 0) 8 0) 9 0) 10 1024))])) (dg hp 1 rfl) (by decide +kernel) (by rw [show Int32.toNatClampNeg 10 = 10 by decide +kernel]) (ds hp 1 rfl) dX1_init_63 ?_
  refine d_dup X dX1_init_64 rfl ?_
  refine d_bipush X (v := 11) dX1_init_65 (by decide) ?_
  refine d_sipush X (v := 500) dX1_init_67 (by decide) ?_
  refine d_iast X (f2 := upd (upd (upd (upd (upd (upd (upd (upd (upd (upd (upd (upd (fun _ => 0) 0 1024) 1 0) 2 0) 3 0) 4 0) 5 1024) 6 0) 7 0) 8 0) 9 0) 10 1024) 11 500) (es2 := (pre ++ [.inr (1, [.null, .int 0, .int 0]), .inl (gcy (xz x) 20, 12, .inl (upd (upd (upd (upd (upd (upd (upd (upd (upd (upd (upd (upd (fun _ => 0) 0 1024) 1 0) 2 0) 3 0) 4 0) 5 1024) 6 0) 7 0) 8 0) 9 0) 10 1024) 11 500))])) (dg hp 1 rfl) (by decide +kernel) (by rw [show Int32.toNatClampNeg 11 = 11 by decide +kernel]) (ds hp 1 rfl) dX1_init_70 ?_
  refine d_put X (k := 0) (es2 := (pre ++ [.inr (1, [.ref (gad (xz x) (p + 1)), .int 0, .int 0]), .inl (gcy (xz x) 20, 12, .inl (upd (upd (upd (upd (upd (upd (upd (upd (upd (upd (upd (upd (fun _ => 0) 0 1024) 1 0) 2 0) 3 0) 4 0) 5 1024) 6 0) 7 0) 8 0) 9 0) 10 1024) 11 500))])) (dg hp 0 rfl) (ds hp 0 rfl) rfl inX1 tyX1_ok nmX1 (by decide) q_491 rfl (Or.inr ⟨rfl, hin, rfl⟩) (tyX1_ok 0 (by decide)) rfl rfl (Nat.le_of_ble_eq_true rfl) dX1_init_71 ?_
  refine d_aload_n X (j := 0) dX1_init_74 rfl rfl ?_
  refine d_bipush X (v := 100) dX1_init_75 (by decide) ?_
  refine d_put X (k := 1) (es2 := (pre ++ [.inr (1, [.ref (gad (xz x) (p + 1)), .int 100, .int 0]), .inl (gcy (xz x) 20, 12, .inl (upd (upd (upd (upd (upd (upd (upd (upd (upd (upd (upd (upd (fun _ => 0) 0 1024) 1 0) 2 0) 3 0) 4 0) 5 1024) 6 0) 7 0) 8 0) 9 0) 10 1024) 11 500))])) (dg hp 0 rfl) (ds hp 0 rfl) rfl inX1 tyX1_ok nmX1 (by decide) q_492 rfl (Or.inl rfl) (tyX1_ok 1 (by decide)) rfl rfl (Nat.le_of_ble_eq_true rfl) dX1_init_77 ?_
  refine d_aload_n X (j := 0) dX1_init_80 rfl rfl ?_
  refine d_bipush X (v := 40) dX1_init_81 (by decide) ?_
  refine d_put X (k := 2) (es2 := (pre ++ [.inr (1, [.ref (gad (xz x) (p + 1)), .int 100, .int 40]), .inl (gcy (xz x) 20, 12, .inl (upd (upd (upd (upd (upd (upd (upd (upd (upd (upd (upd (upd (fun _ => 0) 0 1024) 1 0) 2 0) 3 0) 4 0) 5 1024) 6 0) 7 0) 8 0) 9 0) 10 1024) 11 500))])) (dg hp 0 rfl) (ds hp 0 rfl) rfl inX1 tyX1_ok nmX1 (by decide) q_494 rfl (Or.inl rfl) (tyX1_ok 2 (by decide)) rfl rfl (Nat.le_of_ble_eq_true rfl) dX1_init_83 ?_
  exact hR _ _ dX1_init_86
theorem dX2_init_0 : decode cX2_init 0 = .ok (.aload_n 0, 1) := by decide +kernel
theorem dX2_init_1 : decode cX2_init 1 = .ok (.invokespecial 1, 3) := by decide +kernel
theorem dX2_init_4 : decode cX2_init 4 = .ok (.aload_n 0, 1) := by decide +kernel
theorem dX2_init_5 : decode cX2_init 5 = .ok (.sipush 2048, 3) := by decide +kernel
theorem dX2_init_8 : decode cX2_init 8 = .ok (.newarray .int, 2) := by decide +kernel
theorem dX2_init_10 : decode cX2_init 10 = .ok (.putfield 9, 3) := by decide +kernel
theorem dX2_init_13 : decode cX2_init 13 = .ok (.return_, 1) := by decide +kernel
set_option maxHeartbeats 4000000 in
set_option maxRecDepth 100000 in
theorem dm_X2_init (l : Launch) (z : GZ) (pre : List va_E) (p : Nat) (hp : pre.length = p) : dMet l z yX2_init cX2_init 1 1 [.ref (gad z (p + 0))] (pre ++ [.inr (2, [.null, .int 0])]) (pre ++ [.inr (2, [.ref (gad z (p + 1)), .int 0]), .inl (gcy z 20, 2048, .inl (fun _ => 0))]) 1 2048 := by
  refine dMet_of (by decide +kernel) (Nat.le_of_ble_eq_true rfl) (fun x X ez el hnm hR => ?_)
  subst ez; subst el
  have hin : (xmeth x).name = "<init>" := hnm
  show WD x 0 0 (pre ++ [.inr (2, [.null, .int 0])]) [(0, .ref (gad (xz x) (p + 0)))] 0 []
  refine d_aload_n X (j := 0) dX2_init_0 rfl rfl ?_
  refine d_objInit X (by decide) (Nat.le_of_ble_eq_true rfl) q_690 q_75 q_obj dX2_init_1 ?_
  refine d_aload_n X (j := 0) dX2_init_4 rfl rfl ?_
  refine d_sipush X (v := 2048) dX2_init_5 (by decide) ?_
  refine d_newarr X (tag := 20) (atype := .int) (ty := .int) (a0 := (2048, .inl (fun _ => 0))) (N := 2048) (es2 := (pre ++ [.inr (2, [.null, .int 0]), .inl (gcy (xz x) 20, 2048, .inl (fun _ => 0))])) (a := p + 1) rfl rfl (fun h => h) q_ac20 (by rfl) (by decide) (by decide +kernel) (Nat.le_of_ble_eq_true rfl) (by decide) (by decide) (by simp only [List.append_assoc, List.cons_append, List.nil_append]) (by simp [hp]) dX2_init_8 ?_
  refine d_cs (c2 := 1) (s2 := 2048) rfl rfl ?_
  refine d_put X (k := 0) (es2 := (pre ++ [.inr (2, [.ref (gad (xz x) (p + 1)), .int 0]), .inl (gcy (xz x) 20, 2048, .inl (fun _ => 0))])) (dg hp 0 rfl) (ds hp 0 rfl) rfl inX2 tyX2_ok nmX2 (by decide) q_691 rfl (Or.inr ⟨rfl, hin, rfl⟩) (tyX2_ok 0 (by decide)) rfl rfl (Nat.le_of_ble_eq_true rfl) dX2_init_10 ?_
  exact hR _ _ dX2_init_13
theorem dX5_init_0 : decode cX5_init 0 = .ok (.aload_n 0, 1) := by decide +kernel
theorem dX5_init_1 : decode cX5_init 1 = .ok (.invokespecial 3, 3) := by decide +kernel
theorem dX5_init_4 : decode cX5_init 4 = .ok (.aload_n 0, 1) := by decide +kernel
theorem dX5_init_5 : decode cX5_init 5 = .ok (.bipush 64, 2) := by decide +kernel
theorem dX5_init_7 : decode cX5_init 7 = .ok (.newarray .int, 2) := by decide +kernel
theorem dX5_init_9 : decode cX5_init 9 = .ok (.putfield 9, 3) := by decide +kernel
theorem dX5_init_12 : decode cX5_init 12 = .ok (.aload_n 0, 1) := by decide +kernel
theorem dX5_init_13 : decode cX5_init 13 = .ok (.iconst 1, 1) := by decide +kernel
theorem dX5_init_14 : decode cX5_init 14 = .ok (.putfield 15, 3) := by decide +kernel
theorem dX5_init_17 : decode cX5_init 17 = .ok (.return_, 1) := by decide +kernel
set_option maxHeartbeats 4000000 in
set_option maxRecDepth 100000 in
theorem dm_X5_init (l : Launch) (z : GZ) (pre : List va_E) (p : Nat) (hp : pre.length = p) : dMet l z yX5_init cX5_init 1 1 [.ref (gad z (p + 0))] (pre ++ [.inr (5, [.null, .int 0])]) (pre ++ [.inr (5, [.ref (gad z (p + 1)), .int 1]), .inl (gcy z 20, 64, .inl (fun _ => 0))]) 1 64 := by
  refine dMet_of (by decide +kernel) (Nat.le_of_ble_eq_true rfl) (fun x X ez el hnm hR => ?_)
  subst ez; subst el
  have hin : (xmeth x).name = "<init>" := hnm
  show WD x 0 0 (pre ++ [.inr (5, [.null, .int 0])]) [(0, .ref (gad (xz x) (p + 0)))] 0 []
  refine d_aload_n X (j := 0) dX5_init_0 rfl rfl ?_
  refine d_objInit X (by decide) (Nat.le_of_ble_eq_true rfl) q_764 q_75 q_obj dX5_init_1 ?_
  refine d_aload_n X (j := 0) dX5_init_4 rfl rfl ?_
  refine d_bipush X (v := 64) dX5_init_5 (by decide) ?_
  refine d_newarr X (tag := 20) (atype := .int) (ty := .int) (a0 := (64, .inl (fun _ => 0))) (N := 64) (es2 := (pre ++ [.inr (5, [.null, .int 0]), .inl (gcy (xz x) 20, 64, .inl (fun _ => 0))])) (a := p + 1) rfl rfl (fun h => h) q_ac20 (by rfl) (by decide) (by decide +kernel) (Nat.le_of_ble_eq_true rfl) (by decide) (by decide) (by simp only [List.append_assoc, List.cons_append, List.nil_append]) (by simp [hp]) dX5_init_7 ?_
  refine d_cs (c2 := 1) (s2 := 64) rfl rfl ?_
  refine d_put X (k := 0) (es2 := (pre ++ [.inr (5, [.ref (gad (xz x) (p + 1)), .int 0]), .inl (gcy (xz x) 20, 64, .inl (fun _ => 0))])) (dg hp 0 rfl) (ds hp 0 rfl) rfl inX5 tyX5_ok nmX5 (by decide) q_765 rfl (Or.inr ⟨rfl, hin, rfl⟩) (tyX5_ok 0 (by decide)) rfl rfl (Nat.le_of_ble_eq_true rfl) dX5_init_9 ?_
  refine d_aload_n X (j := 0) dX5_init_12 rfl rfl ?_
  refine d_iconst X (v := 1) dX5_init_13 (by decide) ?_
  refine d_put X (k := 1) (es2 := (pre ++ [.inr (5, [.ref (gad (xz x) (p + 1)), .int 1]), .inl (gcy (xz x) 20, 64, .inl (fun _ => 0))])) (dg hp 0 rfl) (ds hp 0 rfl) rfl inX5 tyX5_ok nmX5 (by decide) q_767 rfl (Or.inl rfl) (tyX5_ok 1 (by decide)) (by decide +kernel) (by decide +kernel) (Nat.le_of_ble_eq_true rfl) dX5_init_14 ?_
  exact hR _ _ dX5_init_17
theorem dX6_init_0 : decode cX6_init 0 = .ok (.aload_n 0, 1) := by decide +kernel
theorem dX6_init_1 : decode cX6_init 1 = .ok (.invokespecial 3, 3) := by decide +kernel
theorem dX6_init_4 : decode cX6_init 4 = .ok (.aload_n 0, 1) := by decide +kernel
theorem dX6_init_5 : decode cX6_init 5 = .ok (.new 9, 3) := by decide +kernel
theorem dX6_init_8 : decode cX6_init 8 = .ok (.dup, 1) := by decide +kernel
theorem dX6_init_9 : decode cX6_init 9 = .ok (.invokespecial 11, 3) := by decide +kernel
theorem dX6_init_12 : decode cX6_init 12 = .ok (.putfield 12, 3) := by decide +kernel
theorem dX6_init_15 : decode cX6_init 15 = .ok (.aload_n 0, 1) := by decide +kernel
theorem dX6_init_16 : decode cX6_init 16 = .ok (.new 18, 3) := by decide +kernel
theorem dX6_init_19 : decode cX6_init 19 = .ok (.dup, 1) := by decide +kernel
theorem dX6_init_20 : decode cX6_init 20 = .ok (.invokespecial 20, 3) := by decide +kernel
theorem dX6_init_23 : decode cX6_init 23 = .ok (.putfield 21, 3) := by decide +kernel
theorem dX6_init_26 : decode cX6_init 26 = .ok (.aload_n 0, 1) := by decide +kernel
theorem dX6_init_27 : decode cX6_init 27 = .ok (.new 18, 3) := by decide +kernel
theorem dX6_init_30 : decode cX6_init 30 = .ok (.dup, 1) := by decide +kernel
theorem dX6_init_31 : decode cX6_init 31 = .ok (.invokespecial 20, 3) := by decide +kernel
theorem dX6_init_34 : decode cX6_init 34 = .ok (.putfield 25, 3) := by decide +kernel
theorem dX6_init_37 : decode cX6_init 37 = .ok (.aload_n 0, 1) := by decide +kernel
theorem dX6_init_38 : decode cX6_init 38 = .ok (.new 18, 3) := by decide +kernel
theorem dX6_init_41 : decode cX6_init 41 = .ok (.dup, 1) := by decide +kernel
theorem dX6_init_42 : decode cX6_init 42 = .ok (.invokespecial 20, 3) := by decide +kernel
theorem dX6_init_45 : decode cX6_init 45 = .ok (.putfield 28, 3) := by decide +kernel
theorem dX6_init_48 : decode cX6_init 48 = .ok (.return_, 1) := by decide +kernel
set_option maxHeartbeats 4000000 in
set_option maxRecDepth 100000 in
theorem dm_X6_init (l : Launch) (z : GZ) (pre : List va_E) (p : Nat) (hp : pre.length = p) : dMet l z yX6_init cX6_init 1 2 [.ref (gad z (p + 0))] (pre ++ [.inr (6, [.null, .null, .null, .null, .long 0, .int 0, .long 0, .long 0, .long 0])]) (pre ++ [.inr (6, [.ref (gad z (p + 1)), .ref (gad z (p + 2)), .ref (gad z (p + 3)), .ref (gad z (p + 4)), .long 0, .int 0, .long 0, .long 0, .long 0]), .inr (0, [.int 0, .int 0, .int 39, .int 23]), .inr (9, [.int 0, .int 0, .int 0, .int 0, .int 0, .int 0, .int 0, .int 0, .int 0, .int 0, .int 0, .int 0]), .inr (9, [.int 0, .int 0, .int 0, .int 0, .int 0, .int 0, .int 0, .int 0, .int 0, .int 0, .int 0, .int 0]), .inr (9, [.int 0, .int 0, .int 0, .int 0, .int 0, .int 0, .int 0, .int 0, .int 0, .int 0, .int 0, .int 0])]) 4 40 := by
  refine dMet_of (by decide +kernel) (Nat.le_of_ble_eq_true rfl) (fun x X ez el hnm hR => ?_)
  subst ez; subst el
  have hin : (xmeth x).name = "<init>" := hnm
  show WD x 0 0 (pre ++ [.inr (6, [.null, .null, .null, .null, .long 0, .int 0, .long 0, .long 0, .long 0])]) [(0, .ref (gad (xz x) (p + 0)))] 0 []
  refine d_aload_n X (j := 0) dX6_init_0 rfl rfl ?_
  refine d_objInit X (by decide) (Nat.le_of_ble_eq_true rfl) q_584 q_75 q_obj dX6_init_1 ?_
  refine d_aload_n X (j := 0) dX6_init_4 rfl rfl ?_
  refine d_new X (t := 0) (fs := [.int 0, .int 0, .int 0, .int 0]) (es2 := (pre ++ [.inr (6, [.null, .null, .null, .null, .long 0, .int 0, .long 0, .long 0, .long 0]), .inr (0, [.int 0, .int 0, .int 0, .int 0])])) (a := p + 1) rfl inX0 tyX0_ok q_585 q_586 q_22 fr_X0 (by decide) (by decide) (by simp only [List.append_assoc, List.cons_append, List.nil_append]) (by simp [hp]) dX6_init_5 ?_
  refine d_cs (c2 := 1) (s2 := 4) rfl rfl ?_
  refine d_dup X dX6_init_8 rfl ?_
  refine d_call X (As := []) (n := 0) (host := RX10) (es1 := (pre ++ [.inr (6, [.null, .null, .null, .null, .long 0, .int 0, .long 0, .long 0, .long 0])]) ++ [.inr (0, [.int 0, .int 0, .int 0, .int 0])]) (by simp only [List.append_assoc, List.cons_append, List.nil_append]) (dm_X0_init (xl x) (xz x) (pre ++ [.inr (6, [.null, .null, .null, .null, .long 0, .int 0, .long 0, .long 0, .long 0])]) (p + 1) (by simp [hp])) (Or.inr (fun h => h.2.2.2.2.1)) rfl q_588 q_22 q_589 (by decide +kernel) rfl (by decide) (by decide) (by decide) (by decide) (Nat.le_of_ble_eq_true rfl) dX6_init_9 ?_
  refine d_es (es2 := (pre ++ [.inr (6, [.null, .null, .null, .null, .long 0, .int 0, .long 0, .long 0, .long 0]), .inr (0, [.int 0, .int 0, .int 39, .int 23])])) (by simp only [List.append_assoc, List.cons_append, List.nil_append, Nat.add_assoc, Nat.reduceAdd]) ?_
  refine d_cs (c2 := 1) (s2 := 4) rfl rfl ?_
  refine d_put X (k := 0) (es2 := (pre ++ [.inr (6, [.ref (gad (xz x) (p + 1)), .null, .null, .null, .long 0, .int 0, .long 0, .long 0, .long 0]), .inr (0, [.int 0, .int 0, .int 39, .int 23])])) (dg hp 0 rfl) (ds hp 0 rfl) rfl inX6 tyX6_ok nmX6 (by decide) q_614 rfl (Or.inr ⟨rfl, hin, rfl⟩) (tyX6_ok 0 (by decide)) rfl rfl (Nat.le_of_ble_eq_true rfl) dX6_init_12 ?_
  refine d_aload_n X (j := 0) dX6_init_15 rfl rfl ?_
  refine d_new X (t := 9) (fs := [.int 0, .int 0, .int 0, .int 0, .int 0, .int 0, .int 0, .int 0, .int 0, .int 0, .int 0, .int 0]) (es2 := (pre ++ [.inr (6, [.ref (gad (xz x) (p + 1)), .null, .null, .null, .long 0, .int 0, .long 0, .long 0, .long 0]), .inr (0, [.int 0, .int 0, .int 39, .int 23]), .inr (9, [.int 0, .int 0, .int 0, .int 0, .int 0, .int 0, .int 0, .int 0, .int 0, .int 0, .int 0, .int 0])])) (a := p + 2) rfl inX9 tyX9_ok q_612 q_512 q_20 fr_X9 (by decide) (by decide) (by simp only [List.append_assoc, List.cons_append, List.nil_append]) (by simp [hp]) dX6_init_16 ?_
  refine d_cs (c2 := 2) (s2 := 16) rfl rfl ?_
  refine d_dup X dX6_init_19 rfl ?_
  refine d_call X (As := []) (n := 0) (host := RX10) (es1 := (pre ++ [.inr (6, [.ref (gad (xz x) (p + 1)), .null, .null, .null, .long 0, .int 0, .long 0, .long 0, .long 0]), .inr (0, [.int 0, .int 0, .int 39, .int 23])]) ++ [.inr (9, [.int 0, .int 0, .int 0, .int 0, .int 0, .int 0, .int 0, .int 0, .int 0, .int 0, .int 0, .int 0])]) (by simp only [List.append_assoc, List.cons_append, List.nil_append]) (dm_X9_init (xl x) (xz x) (pre ++ [.inr (6, [.ref (gad (xz x) (p + 1)), .null, .null, .null, .long 0, .int 0, .long 0, .long 0, .long 0]), .inr (0, [.int 0, .int 0, .int 39, .int 23])]) (p + 2) (by simp [hp])) (Or.inr (fun h => h.2.2.2.2.2.1)) rfl q_514 q_20 q_515 (by decide +kernel) rfl (by decide) (by decide) (by decide) (by decide) (Nat.le_of_ble_eq_true rfl) dX6_init_20 ?_
  refine d_es (es2 := (pre ++ [.inr (6, [.ref (gad (xz x) (p + 1)), .null, .null, .null, .long 0, .int 0, .long 0, .long 0, .long 0]), .inr (0, [.int 0, .int 0, .int 39, .int 23]), .inr (9, [.int 0, .int 0, .int 0, .int 0, .int 0, .int 0, .int 0, .int 0, .int 0, .int 0, .int 0, .int 0])])) (by simp only [List.append_assoc, List.cons_append, List.nil_append, Nat.add_assoc, Nat.reduceAdd]) ?_
  refine d_cs (c2 := 2) (s2 := 16) rfl rfl ?_
  refine d_put X (k := 1) (es2 := (pre ++ [.inr (6, [.ref (gad (xz x) (p + 1)), .ref (gad (xz x) (p + 2)), .null, .null, .long 0, .int 0, .long 0, .long 0, .long 0]), .inr (0, [.int 0, .int 0, .int 39, .int 23]), .inr (9, [.int 0, .int 0, .int 0, .int 0, .int 0, .int 0, .int 0, .int 0, .int 0, .int 0, .int 0, .int 0])])) (dg hp 0 rfl) (ds hp 0 rfl) rfl inX6 tyX6_ok nmX6 (by decide) q_617 rfl (Or.inl rfl) (tyX6_ok 1 (by decide)) rfl rfl (Nat.le_of_ble_eq_true rfl) dX6_init_23 ?_
  refine d_aload_n X (j := 0) dX6_init_26 rfl rfl ?_
  refine d_new X (t := 9) (fs := [.int 0, .int 0, .int 0, .int 0, .int 0, .int 0, .int 0, .int 0, .int 0, .int 0, .int 0, .int 0]) (es2 := (pre ++ [.inr (6, [.ref (gad (xz x) (p + 1)), .ref (gad (xz x) (p + 2)), .null, .null, .long 0, .int 0, .long 0, .long 0, .long 0]), .inr (0, [.int 0, .int 0, .int 39, .int 23]), .inr (9, [.int 0, .int 0, .int 0, .int 0, .int 0, .int 0, .int 0, .int 0, .int 0, .int 0, .int 0, .int 0]), .inr (9, [.int 0, .int 0, .int 0, .int 0, .int 0, .int 0, .int 0, .int 0, .int 0, .int 0, .int 0, .int 0])])) (a := p + 3) rfl inX9 tyX9_ok q_612 q_512 q_20 fr_X9 (by decide) (by decide) (by simp only [List.append_assoc, List.cons_append, List.nil_append]) (by simp [hp]) dX6_init_27 ?_
  refine d_cs (c2 := 3) (s2 := 28) rfl rfl ?_
  refine d_dup X dX6_init_30 rfl ?_
  refine d_call X (As := []) (n := 0) (host := RX10) (es1 := (pre ++ [.inr (6, [.ref (gad (xz x) (p + 1)), .ref (gad (xz x) (p + 2)), .null, .null, .long 0, .int 0, .long 0, .long 0, .long 0]), .inr (0, [.int 0, .int 0, .int 39, .int 23]), .inr (9, [.int 0, .int 0, .int 0, .int 0, .int 0, .int 0, .int 0, .int 0, .int 0, .int 0, .int 0, .int 0])]) ++ [.inr (9, [.int 0, .int 0, .int 0, .int 0, .int 0, .int 0, .int 0, .int 0, .int 0, .int 0, .int 0, .int 0])]) (by simp only [List.append_assoc, List.cons_append, List.nil_append]) (dm_X9_init (xl x) (xz x) (pre ++ [.inr (6, [.ref (gad (xz x) (p + 1)), .ref (gad (xz x) (p + 2)), .null, .null, .long 0, .int 0, .long 0, .long 0, .long 0]), .inr (0, [.int 0, .int 0, .int 39, .int 23]), .inr (9, [.int 0, .int 0, .int 0, .int 0, .int 0, .int 0, .int 0, .int 0, .int 0, .int 0, .int 0, .int 0])]) (p + 3) (by simp [hp])) (Or.inr (fun h => h.2.2.2.2.2.1)) rfl q_514 q_20 q_515 (by decide +kernel) rfl (by decide) (by decide) (by decide) (by decide) (Nat.le_of_ble_eq_true rfl) dX6_init_31 ?_
  refine d_es (es2 := (pre ++ [.inr (6, [.ref (gad (xz x) (p + 1)), .ref (gad (xz x) (p + 2)), .null, .null, .long 0, .int 0, .long 0, .long 0, .long 0]), .inr (0, [.int 0, .int 0, .int 39, .int 23]), .inr (9, [.int 0, .int 0, .int 0, .int 0, .int 0, .int 0, .int 0, .int 0, .int 0, .int 0, .int 0, .int 0]), .inr (9, [.int 0, .int 0, .int 0, .int 0, .int 0, .int 0, .int 0, .int 0, .int 0, .int 0, .int 0, .int 0])])) (by simp only [List.append_assoc, List.cons_append, List.nil_append, Nat.add_assoc, Nat.reduceAdd]) ?_
  refine d_cs (c2 := 3) (s2 := 28) rfl rfl ?_
  refine d_put X (k := 2) (es2 := (pre ++ [.inr (6, [.ref (gad (xz x) (p + 1)), .ref (gad (xz x) (p + 2)), .ref (gad (xz x) (p + 3)), .null, .long 0, .int 0, .long 0, .long 0, .long 0]), .inr (0, [.int 0, .int 0, .int 39, .int 23]), .inr (9, [.int 0, .int 0, .int 0, .int 0, .int 0, .int 0, .int 0, .int 0, .int 0, .int 0, .int 0, .int 0]), .inr (9, [.int 0, .int 0, .int 0, .int 0, .int 0, .int 0, .int 0, .int 0, .int 0, .int 0, .int 0, .int 0])])) (dg hp 0 rfl) (ds hp 0 rfl) rfl inX6 tyX6_ok nmX6 (by decide) q_619 rfl (Or.inl rfl) (tyX6_ok 2 (by decide)) rfl rfl (Nat.le_of_ble_eq_true rfl) dX6_init_34 ?_
  refine d_aload_n X (j := 0) dX6_init_37 rfl rfl ?_
  refine d_new X (t := 9) (fs := [.int 0, .int 0, .int 0, .int 0, .int 0, .int 0, .int 0, .int 0, .int 0, .int 0, .int 0, .int 0]) (es2 := (pre ++ [.inr (6, [.ref (gad (xz x) (p + 1)), .ref (gad (xz x) (p + 2)), .ref (gad (xz x) (p + 3)), .null, .long 0, .int 0, .long 0, .long 0, .long 0]), .inr (0, [.int 0, .int 0, .int 39, .int 23]), .inr (9, [.int 0, .int 0, .int 0, .int 0, .int 0, .int 0, .int 0, .int 0, .int 0, .int 0, .int 0, .int 0]), .inr (9, [.int 0, .int 0, .int 0, .int 0, .int 0, .int 0, .int 0, .int 0, .int 0, .int 0, .int 0, .int 0]), .inr (9, [.int 0, .int 0, .int 0, .int 0, .int 0, .int 0, .int 0, .int 0, .int 0, .int 0, .int 0, .int 0])])) (a := p + 4) rfl inX9 tyX9_ok q_612 q_512 q_20 fr_X9 (by decide) (by decide) (by simp only [List.append_assoc, List.cons_append, List.nil_append]) (by simp [hp]) dX6_init_38 ?_
  refine d_cs (c2 := 4) (s2 := 40) rfl rfl ?_
  refine d_dup X dX6_init_41 rfl ?_
  refine d_call X (As := []) (n := 0) (host := RX10) (es1 := (pre ++ [.inr (6, [.ref (gad (xz x) (p + 1)), .ref (gad (xz x) (p + 2)), .ref (gad (xz x) (p + 3)), .null, .long 0, .int 0, .long 0, .long 0, .long 0]), .inr (0, [.int 0, .int 0, .int 39, .int 23]), .inr (9, [.int 0, .int 0, .int 0, .int 0, .int 0, .int 0, .int 0, .int 0, .int 0, .int 0, .int 0, .int 0]), .inr (9, [.int 0, .int 0, .int 0, .int 0, .int 0, .int 0, .int 0, .int 0, .int 0, .int 0, .int 0, .int 0])]) ++ [.inr (9, [.int 0, .int 0, .int 0, .int 0, .int 0, .int 0, .int 0, .int 0, .int 0, .int 0, .int 0, .int 0])]) (by simp only [List.append_assoc, List.cons_append, List.nil_append]) (dm_X9_init (xl x) (xz x) (pre ++ [.inr (6, [.ref (gad (xz x) (p + 1)), .ref (gad (xz x) (p + 2)), .ref (gad (xz x) (p + 3)), .null, .long 0, .int 0, .long 0, .long 0, .long 0]), .inr (0, [.int 0, .int 0, .int 39, .int 23]), .inr (9, [.int 0, .int 0, .int 0, .int 0, .int 0, .int 0, .int 0, .int 0, .int 0, .int 0, .int 0, .int 0]), .inr (9, [.int 0, .int 0, .int 0, .int 0, .int 0, .int 0, .int 0, .int 0, .int 0, .int 0, .int 0, .int 0])]) (p + 4) (by simp [hp])) (Or.inr (fun h => h.2.2.2.2.2.1)) rfl q_514 q_20 q_515 (by decide +kernel) rfl (by decide) (by decide) (by decide) (by decide) (Nat.le_of_ble_eq_true rfl) dX6_init_42 ?_
  refine d_es (es2 := (pre ++ [.inr (6, [.ref (gad (xz x) (p + 1)), .ref (gad (xz x) (p + 2)), .ref (gad (xz x) (p + 3)), .null, .long 0, .int 0, .long 0, .long 0, .long 0]), .inr (0, [.int 0, .int 0, .int 39, .int 23]), .inr (9, [.int 0, .int 0, .int 0, .int 0, .int 0, .int 0, .int 0, .int 0, .int 0, .int 0, .int 0, .int 0]), .inr (9, [.int 0, .int 0, .int 0, .int 0, .int 0, .int 0, .int 0, .int 0, .int 0, .int 0, .int 0, .int 0]), .inr (9, [.int 0, .int 0, .int 0, .int 0, .int 0, .int 0, .int 0, .int 0, .int 0, .int 0, .int 0, .int 0])])) (by simp only [List.append_assoc, List.cons_append, List.nil_append, Nat.add_assoc, Nat.reduceAdd]) ?_
  refine d_cs (c2 := 4) (s2 := 40) rfl rfl ?_
  refine d_put X (k := 3) (es2 := (pre ++ [.inr (6, [.ref (gad (xz x) (p + 1)), .ref (gad (xz x) (p + 2)), .ref (gad (xz x) (p + 3)), .ref (gad (xz x) (p + 4)), .long 0, .int 0, .long 0, .long 0, .long 0]), .inr (0, [.int 0, .int 0, .int 39, .int 23]), .inr (9, [.int 0, .int 0, .int 0, .int 0, .int 0, .int 0, .int 0, .int 0, .int 0, .int 0, .int 0, .int 0]), .inr (9, [.int 0, .int 0, .int 0, .int 0, .int 0, .int 0, .int 0, .int 0, .int 0, .int 0, .int 0, .int 0]), .inr (9, [.int 0, .int 0, .int 0, .int 0, .int 0, .int 0, .int 0, .int 0, .int 0, .int 0, .int 0, .int 0])])) (dg hp 0 rfl) (ds hp 0 rfl) rfl inX6 tyX6_ok nmX6 (by decide) q_621 rfl (Or.inl rfl) (tyX6_ok 3 (by decide)) rfl rfl (Nat.le_of_ble_eq_true rfl) dX6_init_45 ?_
  exact hR _ _ dX6_init_48
theorem dX8_init_0 : decode cX8_init 0 = .ok (.aload_n 0, 1) := by decide +kernel
theorem dX8_init_1 : decode cX8_init 1 = .ok (.invokespecial 3, 3) := by decide +kernel
theorem dX8_init_4 : decode cX8_init 4 = .ok (.aload_n 0, 1) := by decide +kernel
theorem dX8_init_5 : decode cX8_init 5 = .ok (.iconst 3, 1) := by decide +kernel
theorem dX8_init_6 : decode cX8_init 6 = .ok (.anewarray 9, 3) := by decide +kernel
theorem dX8_init_9 : decode cX8_init 9 = .ok (.dup, 1) := by decide +kernel
theorem dX8_init_10 : decode cX8_init 10 = .ok (.iconst 0, 1) := by decide +kernel
theorem dX8_init_11 : decode cX8_init 11 = .ok (.new 9, 3) := by decide +kernel
theorem dX8_init_14 : decode cX8_init 14 = .ok (.dup, 1) := by decide +kernel
theorem dX8_init_15 : decode cX8_init 15 = .ok (.invokespecial 11, 3) := by decide +kernel
theorem dX8_init_18 : decode cX8_init 18 = .ok (.aastore, 1) := by decide +kernel
theorem dX8_init_19 : decode cX8_init 19 = .ok (.dup, 1) := by decide +kernel
theorem dX8_init_20 : decode cX8_init 20 = .ok (.iconst 1, 1) := by decide +kernel
theorem dX8_init_21 : decode cX8_init 21 = .ok (.new 9, 3) := by decide +kernel
theorem dX8_init_24 : decode cX8_init 24 = .ok (.dup, 1) := by decide +kernel
theorem dX8_init_25 : decode cX8_init 25 = .ok (.invokespecial 11, 3) := by decide +kernel
theorem dX8_init_28 : decode cX8_init 28 = .ok (.aastore, 1) := by decide +kernel
theorem dX8_init_29 : decode cX8_init 29 = .ok (.dup, 1) := by decide +kernel
theorem dX8_init_30 : decode cX8_init 30 = .ok (.iconst 2, 1) := by decide +kernel
theorem dX8_init_31 : decode cX8_init 31 = .ok (.new 9, 3) := by decide +kernel
theorem dX8_init_34 : decode cX8_init 34 = .ok (.dup, 1) := by decide +kernel
theorem dX8_init_35 : decode cX8_init 35 = .ok (.invokespecial 11, 3) := by decide +kernel
theorem dX8_init_38 : decode cX8_init 38 = .ok (.aastore, 1) := by decide +kernel
theorem dX8_init_39 : decode cX8_init 39 = .ok (.putfield 12, 3) := by decide +kernel
theorem dX8_init_42 : decode cX8_init 42 = .ok (.aload_n 0, 1) := by decide +kernel
theorem dX8_init_43 : decode cX8_init 43 = .ok (.iconst 4, 1) := by decide +kernel
theorem dX8_init_44 : decode cX8_init 44 = .ok (.anewarray 9, 3) := by decide +kernel
theorem dX8_init_47 : decode cX8_init 47 = .ok (.dup, 1) := by decide +kernel
theorem dX8_init_48 : decode cX8_init 48 = .ok (.iconst 0, 1) := by decide +kernel
theorem dX8_init_49 : decode cX8_init 49 = .ok (.new 9, 3) := by decide +kernel
theorem dX8_init_52 : decode cX8_init 52 = .ok (.dup, 1) := by decide +kernel
theorem dX8_init_53 : decode cX8_init 53 = .ok (.invokespecial 11, 3) := by decide +kernel
theorem dX8_init_56 : decode cX8_init 56 = .ok (.aastore, 1) := by decide +kernel
theorem dX8_init_57 : decode cX8_init 57 = .ok (.dup, 1) := by decide +kernel
theorem dX8_init_58 : decode cX8_init 58 = .ok (.iconst 1, 1) := by decide +kernel
theorem dX8_init_59 : decode cX8_init 59 = .ok (.new 9, 3) := by decide +kernel
theorem dX8_init_62 : decode cX8_init 62 = .ok (.dup, 1) := by decide +kernel
theorem dX8_init_63 : decode cX8_init 63 = .ok (.invokespecial 11, 3) := by decide +kernel
theorem dX8_init_66 : decode cX8_init 66 = .ok (.aastore, 1) := by decide +kernel
theorem dX8_init_67 : decode cX8_init 67 = .ok (.dup, 1) := by decide +kernel
theorem dX8_init_68 : decode cX8_init 68 = .ok (.iconst 2, 1) := by decide +kernel
theorem dX8_init_69 : decode cX8_init 69 = .ok (.new 9, 3) := by decide +kernel
theorem dX8_init_72 : decode cX8_init 72 = .ok (.dup, 1) := by decide +kernel
theorem dX8_init_73 : decode cX8_init 73 = .ok (.invokespecial 11, 3) := by decide +kernel
theorem dX8_init_76 : decode cX8_init 76 = .ok (.aastore, 1) := by decide +kernel
theorem dX8_init_77 : decode cX8_init 77 = .ok (.dup, 1) := by decide +kernel
theorem dX8_init_78 : decode cX8_init 78 = .ok (.iconst 3, 1) := by decide +kernel
theorem dX8_init_79 : decode cX8_init 79 = .ok (.new 9, 3) := by decide +kernel
theorem dX8_init_82 : decode cX8_init 82 = .ok (.dup, 1) := by decide +kernel
theorem dX8_init_83 : decode cX8_init 83 = .ok (.invokespecial 11, 3) := by decide +kernel
theorem dX8_init_86 : decode cX8_init 86 = .ok (.aastore, 1) := by decide +kernel
theorem dX8_init_87 : decode cX8_init 87 = .ok (.putfield 18, 3) := by decide +kernel
theorem dX8_init_90 : decode cX8_init 90 = .ok (.aload_n 0, 1) := by decide +kernel
theorem dX8_init_91 : decode cX8_init 91 = .ok (.iconst 2, 1) := by decide +kernel
theorem dX8_init_92 : decode cX8_init 92 = .ok (.anewarray 21, 3) := by decide +kernel
theorem dX8_init_95 : decode cX8_init 95 = .ok (.dup, 1) := by decide +kernel
theorem dX8_init_96 : decode cX8_init 96 = .ok (.iconst 0, 1) := by decide +kernel
theorem dX8_init_97 : decode cX8_init 97 = .ok (.new 21, 3) := by decide +kernel
theorem dX8_init_100 : decode cX8_init 100 = .ok (.dup, 1) := by decide +kernel
theorem dX8_init_101 : decode cX8_init 101 = .ok (.invokespecial 23, 3) := by decide +kernel
theorem dX8_init_104 : decode cX8_init 104 = .ok (.aastore, 1) := by decide +kernel
theorem dX8_init_105 : decode cX8_init 105 = .ok (.dup, 1) := by decide +kernel
theorem dX8_init_106 : decode cX8_init 106 = .ok (.iconst 1, 1) := by decide +kernel
theorem dX8_init_107 : decode cX8_init 107 = .ok (.new 21, 3) := by decide +kernel
theorem dX8_init_110 : decode cX8_init 110 = .ok (.dup, 1) := by decide +kernel
theorem dX8_init_111 : decode cX8_init 111 = .ok (.invokespecial 23, 3) := by decide +kernel
theorem dX8_init_114 : decode cX8_init 114 = .ok (.aastore, 1) := by decide +kernel
theorem dX8_init_115 : decode cX8_init 115 = .ok (.putfield 24, 3) := by decide +kernel
theorem dX8_init_118 : decode cX8_init 118 = .ok (.return_, 1) := by decide +kernel
set_option maxHeartbeats 4000000 in
set_option maxRecDepth 100000 in
theorem dm_X8_init (l : Launch) (z : GZ) (pre : List va_E) (p : Nat) (hp : pre.length = p) : dMet l z yX8_init cX8_init 1 3 [.ref (gad z (p + 0))] (pre ++ [.inr (8, [.null, .null, .null, .int 0])]) (pre ++ [.inr (8, [.ref (gad z (p + 1)), .ref (gad z (p + 5)), .ref (gad z (p + 10)), .int 0]), .inl (gcy z 26, 3, .inr (.inr (.inr (.inr (va_up (va_up (va_up (fun _ => none) 0 (some (gad z (p + 2)))) 1 (some (gad z (p + 3)))) 2 (some (gad z (p + 4)))))))), .inr (9, [.int 0, .int 0, .int 0, .int 0, .int 0, .int 0, .int 0, .int 0, .int 0, .int 0, .int 0, .int 0]), .inr (9, [.int 0, .int 0, .int 0, .int 0, .int 0, .int 0, .int 0, .int 0, .int 0, .int 0, .int 0, .int 0]), .inr (9, [.int 0, .int 0, .int 0, .int 0, .int 0, .int 0, .int 0, .int 0, .int 0, .int 0, .int 0, .int 0]), .inl (gcy z 26, 4, .inr (.inr (.inr (.inr (va_up (va_up (va_up (va_up (fun _ => none) 0 (some (gad z (p + 6)))) 1 (some (gad z (p + 7)))) 2 (some (gad z (p + 8)))) 3 (some (gad z (p + 9)))))))), .inr (9, [.int 0, .int 0, .int 0, .int 0, .int 0, .int 0, .int 0, .int 0, .int 0, .int 0, .int 0, .int 0]), .inr (9, [.int 0, .int 0, .int 0, .int 0, .int 0, .int 0, .int 0, .int 0, .int 0, .int 0, .int 0, .int 0]), .inr (9, [.int 0, .int 0, .int 0, .int 0, .int 0, .int 0, .int 0, .int 0, .int 0, .int 0, .int 0, .int 0]), .inr (9, [.int 0, .int 0, .int 0, .int 0, .int 0, .int 0, .int 0, .int 0, .int 0, .int 0, .int 0, .int 0]), .inl (gcy z 27, 2, .inr (.inr (.inr (.inr (va_up (va_up (fun _ => none) 0 (some (gad z (p + 11)))) 1 (some (gad z (p + 16)))))))), .inr (6, [.ref (gad z (p + 12)), .ref (gad z (p + 13)), .ref (gad z (p + 14)), .ref (gad z (p + 15)), .long 0, .int 0, .long 0, .long 0, .long 0]), .inr (0, [.int 0, .int 0, .int 39, .int 23]), .inr (9, [.int 0, .int 0, .int 0, .int 0, .int 0, .int 0, .int 0, .int 0, .int 0, .int 0, .int 0, .int 0]), .inr (9, [.int 0, .int 0, .int 0, .int 0, .int 0, .int 0, .int 0, .int 0, .int 0, .int 0, .int 0, .int 0]), .inr (9, [.int 0, .int 0, .int 0, .int 0, .int 0, .int 0, .int 0, .int 0, .int 0, .int 0, .int 0, .int 0]), .inr (6, [.ref (gad z (p + 17)), .ref (gad z (p + 18)), .ref (gad z (p + 19)), .ref (gad z (p + 20)), .long 0, .int 0, .long 0, .long 0, .long 0]), .inr (0, [.int 0, .int 0, .int 39, .int 23]), .inr (9, [.int 0, .int 0, .int 0, .int 0, .int 0, .int 0, .int 0, .int 0, .int 0, .int 0, .int 0, .int 0]), .inr (9, [.int 0, .int 0, .int 0, .int 0, .int 0, .int 0, .int 0, .int 0, .int 0, .int 0, .int 0, .int 0]), .inr (9, [.int 0, .int 0, .int 0, .int 0, .int 0, .int 0, .int 0, .int 0, .int 0, .int 0, .int 0, .int 0])]) 20 191 := by
  refine dMet_of (by decide +kernel) (Nat.le_of_ble_eq_true rfl) (fun x X ez el hnm hR => ?_)
  subst ez; subst el
  have hin : (xmeth x).name = "<init>" := hnm
  show WD x 0 0 (pre ++ [.inr (8, [.null, .null, .null, .int 0])]) [(0, .ref (gad (xz x) (p + 0)))] 0 []
  refine d_aload_n X (j := 0) dX8_init_0 rfl rfl ?_
  refine d_objInit X (by decide) (Nat.le_of_ble_eq_true rfl) q_509 q_75 q_obj dX8_init_1 ?_
  refine d_aload_n X (j := 0) dX8_init_4 rfl rfl ?_
  refine d_iconst X (v := 3) dX8_init_5 (by decide) ?_
  refine d_anew X (tag := 26) (N := 3) (es2 := (pre ++ [.inr (8, [.null, .null, .null, .int 0]), .inl (gcy (xz x) 26, 3, .inr (.inr (.inr (.inr (fun _ => none)))))])) (a := p + 1) rfl q_510 X.2.2.2.2.2.2.1.2.2.1.2.2.2.1 (by decide) (by decide +kernel) (Nat.le_of_ble_eq_true rfl) (by decide) (by decide) (by simp only [List.append_assoc, List.cons_append, List.nil_append]) (by simp [hp]) dX8_init_6 ?_
  refine d_cs (c2 := 1) (s2 := 3) rfl rfl ?_
  refine d_dup X dX8_init_9 rfl ?_
  refine d_iconst X (v := 0) dX8_init_10 (by decide) ?_
  refine d_new X (t := 9) (fs := [.int 0, .int 0, .int 0, .int 0, .int 0, .int 0, .int 0, .int 0, .int 0, .int 0, .int 0, .int 0]) (es2 := (pre ++ [.inr (8, [.null, .null, .null, .int 0]), .inl (gcy (xz x) 26, 3, .inr (.inr (.inr (.inr (fun _ => none))))), .inr (9, [.int 0, .int 0, .int 0, .int 0, .int 0, .int 0, .int 0, .int 0, .int 0, .int 0, .int 0, .int 0])])) (a := p + 2) rfl inX9 tyX9_ok q_510 q_512 q_20 fr_X9 (by decide) (by decide) (by simp only [List.append_assoc, List.cons_append, List.nil_append]) (by simp [hp]) dX8_init_11 ?_
  refine d_cs (c2 := 2) (s2 := 15) rfl rfl ?_
  refine d_dup X dX8_init_14 rfl ?_
  refine d_call X (As := []) (n := 0) (host := RX10) (es1 := (pre ++ [.inr (8, [.null, .null, .null, .int 0]), .inl (gcy (xz x) 26, 3, .inr (.inr (.inr (.inr (fun _ => none)))))]) ++ [.inr (9, [.int 0, .int 0, .int 0, .int 0, .int 0, .int 0, .int 0, .int 0, .int 0, .int 0, .int 0, .int 0])]) (by simp only [List.append_assoc, List.cons_append, List.nil_append]) (dm_X9_init (xl x) (xz x) (pre ++ [.inr (8, [.null, .null, .null, .int 0]), .inl (gcy (xz x) 26, 3, .inr (.inr (.inr (.inr (fun _ => none)))))]) (p + 2) (by simp [hp])) (Or.inr (fun h => h.2.2.1)) rfl q_514 q_20 q_515 (by decide +kernel) rfl (by decide) (by decide) (by decide) (by decide) (Nat.le_of_ble_eq_true rfl) dX8_init_15 ?_
  refine d_es (es2 := (pre ++ [.inr (8, [.null, .null, .null, .int 0]), .inl (gcy (xz x) 26, 3, .inr (.inr (.inr (.inr (fun _ => none))))), .inr (9, [.int 0, .int 0, .int 0, .int 0, .int 0, .int 0, .int 0, .int 0, .int 0, .int 0, .int 0, .int 0])])) (by simp only [List.append_assoc, List.cons_append, List.nil_append, Nat.add_assoc, Nat.reduceAdd]) ?_
  refine d_cs (c2 := 2) (s2 := 15) rfl rfl ?_
  refine d_aast X (tag := 26) (f2 := va_up (fun _ => none) 0 (some (gad (xz x) (p + 2)))) (es2 := (pre ++ [.inr (8, [.null, .null, .null, .int 0]), .inl (gcy (xz x) 26, 3, .inr (.inr (.inr (.inr (va_up (fun _ => none) 0 (some (gad (xz x) (p + 2)))))))), .inr (9, [.int 0, .int 0, .int 0, .int 0, .int 0, .int 0, .int 0, .int 0, .int 0, .int 0, .int 0, .int 0])])) rfl (dg hp 1 rfl) (dg hp 2 rfl) rfl (by decide +kernel) (by rw [show Int32.toNatClampNeg 0 = 0 by decide +kernel]) (ds hp 1 rfl) dX8_init_18 ?_
  refine d_dup X dX8_init_19 rfl ?_
  refine d_iconst X (v := 1) dX8_init_20 (by decide) ?_
  refine d_new X (t := 9) (fs := [.int 0, .int 0, .int 0, .int 0, .int 0, .int 0, .int 0, .int 0, .int 0, .int 0, .int 0, .int 0]) (es2 := (pre ++ [.inr (8, [.null, .null, .null, .int 0]), .inl (gcy (xz x) 26, 3, .inr (.inr (.inr (.inr (va_up (fun _ => none) 0 (some (gad (xz x) (p + 2)))))))), .inr (9, [.int 0, .int 0, .int 0, .int 0, .int 0, .int 0, .int 0, .int 0, .int 0, .int 0, .int 0, .int 0]), .inr (9, [.int 0, .int 0, .int 0, .int 0, .int 0, .int 0, .int 0, .int 0, .int 0, .int 0, .int 0, .int 0])])) (a := p + 3) rfl inX9 tyX9_ok q_510 q_512 q_20 fr_X9 (by decide) (by decide) (by simp only [List.append_assoc, List.cons_append, List.nil_append]) (by simp [hp]) dX8_init_21 ?_
  refine d_cs (c2 := 3) (s2 := 27) rfl rfl ?_
  refine d_dup X dX8_init_24 rfl ?_
  refine d_call X (As := []) (n := 0) (host := RX10) (es1 := (pre ++ [.inr (8, [.null, .null, .null, .int 0]), .inl (gcy (xz x) 26, 3, .inr (.inr (.inr (.inr (va_up (fun _ => none) 0 (some (gad (xz x) (p + 2)))))))), .inr (9, [.int 0, .int 0, .int 0, .int 0, .int 0, .int 0, .int 0, .int 0, .int 0, .int 0, .int 0, .int 0])]) ++ [.inr (9, [.int 0, .int 0, .int 0, .int 0, .int 0, .int 0, .int 0, .int 0, .int 0, .int 0, .int 0, .int 0])]) (by simp only [List.append_assoc, List.cons_append, List.nil_append]) (dm_X9_init (xl x) (xz x) (pre ++ [.inr (8, [.null, .null, .null, .int 0]), .inl (gcy (xz x) 26, 3, .inr (.inr (.inr (.inr (va_up (fun _ => none) 0 (some (gad (xz x) (p + 2)))))))), .inr (9, [.int 0, .int 0, .int 0, .int 0, .int 0, .int 0, .int 0, .int 0, .int 0, .int 0, .int 0, .int 0])]) (p + 3) (by simp [hp])) (Or.inr (fun h => h.2.2.1)) rfl q_514 q_20 q_515 (by decide +kernel) rfl (by decide) (by decide) (by decide) (by decide) (Nat.le_of_ble_eq_true rfl) dX8_init_25 ?_
  refine d_es (es2 := (pre ++ [.inr (8, [.null, .null, .null, .int 0]), .inl (gcy (xz x) 26, 3, .inr (.inr (.inr (.inr (va_up (fun _ => none) 0 (some (gad (xz x) (p + 2)))))))), .inr (9, [.int 0, .int 0, .int 0, .int 0, .int 0, .int 0, .int 0, .int 0, .int 0, .int 0, .int 0, .int 0]), .inr (9, [.int 0, .int 0, .int 0, .int 0, .int 0, .int 0, .int 0, .int 0, .int 0, .int 0, .int 0, .int 0])])) (by simp only [List.append_assoc, List.cons_append, List.nil_append, Nat.add_assoc, Nat.reduceAdd]) ?_
  refine d_cs (c2 := 3) (s2 := 27) rfl rfl ?_
  refine d_aast X (tag := 26) (f2 := va_up (va_up (fun _ => none) 0 (some (gad (xz x) (p + 2)))) 1 (some (gad (xz x) (p + 3)))) (es2 := (pre ++ [.inr (8, [.null, .null, .null, .int 0]), .inl (gcy (xz x) 26, 3, .inr (.inr (.inr (.inr (va_up (va_up (fun _ => none) 0 (some (gad (xz x) (p + 2)))) 1 (some (gad (xz x) (p + 3)))))))), .inr (9, [.int 0, .int 0, .int 0, .int 0, .int 0, .int 0, .int 0, .int 0, .int 0, .int 0, .int 0, .int 0]), .inr (9, [.int 0, .int 0, .int 0, .int 0, .int 0, .int 0, .int 0, .int 0, .int 0, .int 0, .int 0, .int 0])])) rfl (dg hp 1 rfl) (dg hp 3 rfl) rfl (by decide +kernel) (by rw [show Int32.toNatClampNeg 1 = 1 by decide +kernel]) (ds hp 1 rfl) dX8_init_28 ?_
  refine d_dup X dX8_init_29 rfl ?_
  refine d_iconst X (v := 2) dX8_init_30 (by decide) ?_
  refine d_new X (t := 9) (fs := [.int 0, .int 0, .int 0, .int 0, .int 0, .int 0, .int 0, .int 0, .int 0, .int 0, .int 0, .int 0]) (es2 := (pre ++ [.inr (8, [.null, .null, .null, .int 0]), .inl (gcy (xz x) 26, 3, .inr (.inr (.inr (.inr (va_up (va_up (fun _ => none) 0 (some (gad (xz x) (p + 2)))) 1 (some (gad (xz x) (p + 3)))))))), .inr (9, [.int 0, .int 0, .int 0, .int 0, .int 0, .int 0, .int 0, .int 0, .int 0, .int 0, .int 0, .int 0]), .inr (9, [.int 0, .int 0, .int 0, .int 0, .int 0, .int 0, .int 0, .int 0, .int 0, .int 0, .int 0, .int 0]), .inr (9, [.int 0, .int 0, .int 0, .int 0, .int 0, .int 0, .int 0, .int 0, .int 0, .int 0, .int 0, .int 0])])) (a := p + 4) rfl inX9 tyX9_ok q_510 q_512 q_20 fr_X9 (by decide) (by decide) (by simp only [List.append_assoc, List.cons_append, List.nil_append]) (by simp [hp]) dX8_init_31 ?_
  refine d_cs (c2 := 4) (s2 := 39) rfl rfl ?_
  refine d_dup X dX8_init_34 rfl ?_
  refine d_call X (As := []) (n := 0) (host := RX10) (es1 := (pre ++ [.inr (8, [.null, .null, .null, .int 0]), .inl (gcy (xz x) 26, 3, .inr (.inr (.inr (.inr (va_up (va_up (fun _ => none) 0 (some (gad (xz x) (p + 2)))) 1 (some (gad (xz x) (p + 3)))))))), .inr (9, [.int 0, .int 0, .int 0, .int 0, .int 0, .int 0, .int 0, .int 0, .int 0, .int 0, .int 0, .int 0]), .inr (9, [.int 0, .int 0, .int 0, .int 0, .int 0, .int 0, .int 0, .int 0, .int 0, .int 0, .int 0, .int 0])]) ++ [.inr (9, [.int 0, .int 0, .int 0, .int 0, .int 0, .int 0, .int 0, .int 0, .int 0, .int 0, .int 0, .int 0])]) (by simp only [List.append_assoc, List.cons_append, List.nil_append]) (dm_X9_init (xl x) (xz x) (pre ++ [.inr (8, [.null, .null, .null, .int 0]), .inl (gcy (xz x) 26, 3, .inr (.inr (.inr (.inr (va_up (va_up (fun _ => none) 0 (some (gad (xz x) (p + 2)))) 1 (some (gad (xz x) (p + 3)))))))), .inr (9, [.int 0, .int 0, .int 0, .int 0, .int 0, .int 0, .int 0, .int 0, .int 0, .int 0, .int 0, .int 0]), .inr (9, [.int 0, .int 0, .int 0, .int 0, .int 0, .int 0, .int 0, .int 0, .int 0, .int 0, .int 0, .int 0])]) (p + 4) (by simp [hp])) (Or.inr (fun h => h.2.2.1)) rfl q_514 q_20 q_515 (by decide +kernel) rfl (by decide) (by decide) (by decide) (by decide) (Nat.le_of_ble_eq_true rfl) dX8_init_35 ?_
  refine d_es (es2 := (pre ++ [.inr (8, [.null, .null, .null, .int 0]), .inl (gcy (xz x) 26, 3, .inr (.inr (.inr (.inr (va_up (va_up (fun _ => none) 0 (some (gad (xz x) (p + 2)))) 1 (some (gad (xz x) (p + 3)))))))), .inr (9, [.int 0, .int 0, .int 0, .int 0, .int 0, .int 0, .int 0, .int 0, .int 0, .int 0, .int 0, .int 0]), .inr (9, [.int 0, .int 0, .int 0, .int 0, .int 0, .int 0, .int 0, .int 0, .int 0, .int 0, .int 0, .int 0]), .inr (9, [.int 0, .int 0, .int 0, .int 0, .int 0, .int 0, .int 0, .int 0, .int 0, .int 0, .int 0, .int 0])])) (by simp only [List.append_assoc, List.cons_append, List.nil_append, Nat.add_assoc, Nat.reduceAdd]) ?_
  refine d_cs (c2 := 4) (s2 := 39) rfl rfl ?_
  refine d_aast X (tag := 26) (f2 := va_up (va_up (va_up (fun _ => none) 0 (some (gad (xz x) (p + 2)))) 1 (some (gad (xz x) (p + 3)))) 2 (some (gad (xz x) (p + 4)))) (es2 := (pre ++ [.inr (8, [.null, .null, .null, .int 0]), .inl (gcy (xz x) 26, 3, .inr (.inr (.inr (.inr (va_up (va_up (va_up (fun _ => none) 0 (some (gad (xz x) (p + 2)))) 1 (some (gad (xz x) (p + 3)))) 2 (some (gad (xz x) (p + 4)))))))), .inr (9, [.int 0, .int 0, .int 0, .int 0, .int 0, .int 0, .int 0, .int 0, .int 0, .int 0, .int 0, .int 0]), .inr (9, [.int 0, .int 0, .int 0, .int 0, .int 0, .int 0, .int 0, .int 0, .int 0, .int 0, .int 0, .int 0]), .inr (9, [.int 0, .int 0, .int 0, .int 0, .int 0, .int 0, .int 0, .int 0, .int 0, .int 0, .int 0, .int 0])])) rfl (dg hp 1 rfl) (dg hp 4 rfl) rfl (by decide +kernel) (by rw [show Int32.toNatClampNeg 2 = 2 by decide +kernel]) (ds hp 1 rfl) dX8_init_38 ?_
  refine d_put X (k := 0) (es2 := (pre ++ [.inr (8, [.ref (gad (xz x) (p + 1)), .null, .null, .int 0]), .inl (gcy (xz x) 26, 3, .inr (.inr (.inr (.inr (va_up (va_up (va_up (fun _ => none) 0 (some (gad (xz x) (p + 2)))) 1 (some (gad (xz x) (p + 3)))) 2 (some (gad (xz x) (p + 4)))))))), .inr (9, [.int 0, .int 0, .int 0, .int 0, .int 0, .int 0, .int 0, .int 0, .int 0, .int 0, .int 0, .int 0]), .inr (9, [.int 0, .int 0, .int 0, .int 0, .int 0, .int 0, .int 0, .int 0, .int 0, .int 0, .int 0, .int 0]), .inr (9, [.int 0, .int 0, .int 0, .int 0, .int 0, .int 0, .int 0, .int 0, .int 0, .int 0, .int 0, .int 0])])) (dg hp 0 rfl) (ds hp 0 rfl) rfl inX8 tyX8_ok nmX8 (by decide) q_649 rfl (Or.inr ⟨rfl, hin, rfl⟩) (tyX8_ok 0 (by decide)) rfl rfl (Nat.le_of_ble_eq_true rfl) dX8_init_39 ?_
  refine d_aload_n X (j := 0) dX8_init_42 rfl rfl ?_
  refine d_iconst X (v := 4) dX8_init_43 (by decide) ?_
  refine d_anew X (tag := 26) (N := 4) (es2 := (pre ++ [.inr (8, [.ref (gad (xz x) (p + 1)), .null, .null, .int 0]), .inl (gcy (xz x) 26, 3, .inr (.inr (.inr (.inr (va_up (va_up (va_up (fun _ => none) 0 (some (gad (xz x) (p + 2)))) 1 (some (gad (xz x) (p + 3)))) 2 (some (gad (xz x) (p + 4)))))))), .inr (9, [.int 0, .int 0, .int 0, .int 0, .int 0, .int 0, .int 0, .int 0, .int 0, .int 0, .int 0, .int 0]), .inr (9, [.int 0, .int 0, .int 0, .int 0, .int 0, .int 0, .int 0, .int 0, .int 0, .int 0, .int 0, .int 0]), .inr (9, [.int 0, .int 0, .int 0, .int 0, .int 0, .int 0, .int 0, .int 0, .int 0, .int 0, .int 0, .int 0]), .inl (gcy (xz x) 26, 4, .inr (.inr (.inr (.inr (fun _ => none)))))])) (a := p + 5) rfl q_510 X.2.2.2.2.2.2.1.2.2.1.2.2.2.1 (by decide) (by decide +kernel) (Nat.le_of_ble_eq_true rfl) (by decide) (by decide) (by simp only [List.append_assoc, List.cons_append, List.nil_append]) (by simp [hp]) dX8_init_44 ?_
  refine d_cs (c2 := 5) (s2 := 43) rfl rfl ?_
  refine d_dup X dX8_init_47 rfl ?_
  refine d_iconst X (v := 0) dX8_init_48 (by decide) ?_
  refine d_new X (t := 9) (fs := [.int 0, .int 0, .int 0, .int 0, .int 0, .int 0, .int 0, .int 0, .int 0, .int 0, .int 0, .int 0]) (es2 := (pre ++ [.inr (8, [.ref (gad (xz x) (p + 1)), .null, .null, .int 0]), .inl (gcy (xz x) 26, 3, .inr (.inr (.inr (.inr (va_up (va_up (va_up (fun _ => none) 0 (some (gad (xz x) (p + 2)))) 1 (some (gad (xz x) (p + 3)))) 2 (some (gad (xz x) (p + 4)))))))), .inr (9, [.int 0, .int 0, .int 0, .int 0, .int 0, .int 0, .int 0, .int 0, .int 0, .int 0, .int 0, .int 0]), .inr (9, [.int 0, .int 0, .int 0, .int 0, .int 0, .int 0, .int 0, .int 0, .int 0, .int 0, .int 0, .int 0]), .inr (9, [.int 0, .int 0, .int 0, .int 0, .int 0, .int 0, .int 0, .int 0, .int 0, .int 0, .int 0, .int 0]), .inl (gcy (xz x) 26, 4, .inr (.inr (.inr (.inr (fun _ => none))))), .inr (9, [.int 0, .int 0, .int 0, .int 0, .int 0, .int 0, .int 0, .int 0, .int 0, .int 0, .int 0, .int 0])])) (a := p + 6) rfl inX9 tyX9_ok q_510 q_512 q_20 fr_X9 (by decide) (by decide) (by simp only [List.append_assoc, List.cons_append, List.nil_append]) (by simp [hp]) dX8_init_49 ?_
  refine d_cs (c2 := 6) (s2 := 55) rfl rfl ?_
  refine d_dup X dX8_init_52 rfl ?_
  refine d_call X (As := []) (n := 0) (host := RX10) (es1 := (pre ++ [.inr (8, [.ref (gad (xz x) (p + 1)), .null, .null, .int 0]), .inl (gcy (xz x) 26, 3, .inr (.inr (.inr (.inr (va_up (va_up (va_up (fun _ => none) 0 (some (gad (xz x) (p + 2)))) 1 (some (gad (xz x) (p + 3)))) 2 (some (gad (xz x) (p + 4)))))))), .inr (9, [.int 0, .int 0, .int 0, .int 0, .int 0, .int 0, .int 0, .int 0, .int 0, .int 0, .int 0, .int 0]), .inr (9, [.int 0, .int 0, .int 0, .int 0, .int 0, .int 0, .int 0, .int 0, .int 0, .int 0, .int 0, .int 0]), .inr (9, [.int 0, .int 0, .int 0, .int 0, .int 0, .int 0, .int 0, .int 0, .int 0, .int 0, .int 0, .int 0]), .inl (gcy (xz x) 26, 4, .inr (.inr (.inr (.inr (fun _ => none)))))]) ++ [.inr (9, [.int 0, .int 0, .int 0, .int 0, .int 0, .int 0, .int 0, .int 0, .int 0, .int 0, .int 0, .int 0])]) (by simp only [List.append_assoc, List.cons_append, List.nil_append]) (dm_X9_init (xl x) (xz x) (pre ++ [.inr (8, [.ref (gad (xz x) (p + 1)), .null, .null, .int 0]), .inl (gcy (xz x) 26, 3, .inr (.inr (.inr (.inr (va_up (va_up (va_up (fun _ => none) 0 (some (gad (xz x) (p + 2)))) 1 (some (gad (xz x) (p + 3)))) 2 (some (gad (xz x) (p + 4)))))))), .inr (9, [.int 0, .int 0, .int 0, .int 0, .int 0, .int 0, .int 0, .int 0, .int 0, .int 0, .int 0, .int 0]), .inr (9, [.int 0, .int 0, .int 0, .int 0, .int 0, .int 0, .int 0, .int 0, .int 0, .int 0, .int 0, .int 0]), .inr (9, [.int 0, .int 0, .int 0, .int 0, .int 0, .int 0, .int 0, .int 0, .int 0, .int 0, .int 0, .int 0]), .inl (gcy (xz x) 26, 4, .inr (.inr (.inr (.inr (fun _ => none)))))]) (p + 6) (by simp [hp])) (Or.inr (fun h => h.2.2.1)) rfl q_514 q_20 q_515 (by decide +kernel) rfl (by decide) (by decide) (by decide) (by decide) (Nat.le_of_ble_eq_true rfl) dX8_init_53 ?_
  refine d_es (es2 := (pre ++ [.inr (8, [.ref (gad (xz x) (p + 1)), .null, .null, .int 0]), .inl (gcy (xz x) 26, 3, .inr (.inr (.inr (.inr (va_up (va_up (va_up (fun _ => none) 0 (some (gad (xz x) (p + 2)))) 1 (some (gad (xz x) (p + 3)))) 2 (some (gad (xz x) (p + 4)))))))), .inr (9, [.int 0, .int 0, .int 0, .int 0, .int 0, .int 0, .int 0, .int 0, .int 0, .int 0, .int 0, .int 0]), .inr (9, [.int 0, .int 0, .int 0, .int 0, .int 0, .int 0, .int 0, .int 0, .int 0, .int 0, .int 0, .int 0]), .inr (9, [.int 0, .int 0, .int 0, .int 0, .int 0, .int 0, .int 0, .int 0, .int 0, .int 0, .int 0, .int 0]), .inl (gcy (xz x) 26, 4, .inr (.inr (.inr (.inr (fun _ => none))))), .inr (9, [.int 0, .int 0, .int 0, .int 0, .int 0, .int 0, .int 0, .int 0, .int 0, .int 0, .int 0, .int 0])])) (by simp only [List.append_assoc, List.cons_append, List.nil_append, Nat.add_assoc, Nat.reduceAdd]) ?_
  refine d_cs (c2 := 6) (s2 := 55) rfl rfl ?_
  refine d_aast X (tag := 26) (f2 := va_up (fun _ => none) 0 (some (gad (xz x) (p + 6)))) (es2 := (pre ++ [.inr (8, [.ref (gad (xz x) (p + 1)), .null, .null, .int 0]), .inl (gcy (xz x) 26, 3, .inr (.inr (.inr (.inr (va_up (va_up (va_up (fun _ => none) 0 (some (gad (xz x) (p + 2)))) 1 (some (gad (xz x) (p + 3)))) 2 (some (gad (xz x) (p + 4)))))))), .inr (9, [.int 0, .int 0, .int 0, .int 0, .int 0, .int 0, .int 0, .int 0, .int 0, .int 0, .int 0, .int 0]), .inr (9, [.int 0, .int 0, .int 0, .int 0, .int 0, .int 0, .int 0, .int 0, .int 0, .int 0, .int 0, .int 0]), .inr (9, [.int 0, .int 0, .int 0, .int 0, .int 0, .int 0, .int 0, .int 0, .int 0, .int 0, .int 0, .int 0]), .inl (gcy (xz x) 26, 4, .inr (.inr (.inr (.inr (va_up (fun _ => none) 0 (some (gad (xz x) (p + 6)))))))), .inr (9, [.int 0, .int 0, .int 0, .int 0, .int 0, .int 0, .int 0, .int 0, .int 0, .int 0, .int 0, .int 0])])) rfl (dg hp 5 rfl) (dg hp 6 rfl) rfl (by decide +kernel) (by rw [show Int32.toNatClampNeg 0 = 0 by decide +kernel]) (ds hp 5 rfl) dX8_init_56 ?_
  refine d_dup X dX8_init_57 rfl ?_
  refine d_iconst X (v := 1) dX8_init_58 (by decide) ?_
  refine d_new X (t := 9) (fs := [.int 0, .int 0, .int 0, .int 0, .int 0, .int 0, .int 0, .int 0, .int 0, .int 0, .int 0, .int 0]) (es2 := (pre ++ [.inr (8, [.ref (gad (xz x) (p + 1)), .null, .null, .int 0]), .inl (gcy (xz x) 26, 3, .inr (.inr (.inr (.inr (va_up (va_up (va_up (fun _ => none) 0 (some (gad (xz x) (p + 2)))) 1 (some (gad (xz x) (p + 3)))) 2 (some (gad (xz x) (p + 4)))))))), .inr (9, [.int 0, .int 0, .int 0, .int 0, .int 0, .int 0, .int 0, .int 0, .int 0, .int 0, .int 0, .int 0]), .inr (9, [.int 0, .int 0, .int 0, .int 0, .int 0, .int 0, .int 0, .int 0, .int 0, .int 0, .int 0, .int 0]), .inr (9, [.int 0, .int 0, .int 0, .int 0, .int 0, .int 0, .int 0, .int 0, .int 0, .int 0, .int 0, .int 0]), .inl (gcy (xz x) 26, 4, .inr (.inr (.inr (.inr (va_up (fun _ => none) 0 (some (gad (xz x) (p + 6)))))))), .inr (9, [.int 0, .int 0, .int 0, .int 0, .int 0, .int 0, .int 0, .int 0, .int 0, .int 0, .int 0, .int 0]), .inr (9, [.int 0, .int 0, .int 0, .int 0, .int 0, .int 0, .int 0, .int 0, .int 0, .int 0, .int 0, .int 0])])) (a := p + 7) rfl inX9 tyX9_ok q_510 q_512 q_20 fr_X9 (by decide) (by decide) (by simp only [List.append_assoc, List.cons_append, List.nil_append]) (by simp [hp]) dX8_init_59 ?_
  refine d_cs (c2 := 7) (s2 := 67) rfl rfl ?_
  refine d_dup X dX8_init_62 rfl ?_
  refine d_call X (As := []) (n := 0) (host := RX10) (es1 := (pre ++ [.inr (8, [.ref (gad (xz x) (p + 1)), .null, .null, .int 0]), .inl (gcy (xz x) 26, 3, .inr (.inr (.inr (.inr (va_up (va_up (va_up (fun _ => none) 0 (some (gad (xz x) (p + 2)))) 1 (some (gad (xz x) (p + 3)))) 2 (some (gad (xz x) (p + 4)))))))), .inr (9, [.int 0, .int 0, .int 0, .int 0, .int 0, .int 0, .int 0, .int 0, .int 0, .int 0, .int 0, .int 0]), .inr (9, [.int 0, .int 0, .int 0, .int 0, .int 0, .int 0, .int 0, .int 0, .int 0, .int 0, .int 0, .int 0]), .inr (9, [.int 0, .int 0, .int 0, .int 0, .int 0, .int 0, .int 0, .int 0, .int 0, .int 0, .int 0, .int 0]), .inl (gcy (xz x) 26, 4, .inr (.inr (.inr (.inr (va_up (fun _ => none) 0 (some (gad (xz x) (p + 6)))))))), .inr (9, [.int 0, .int 0, .int 0, .int 0, .int 0, .int 0, .int 0, .int 0, .int 0, .int 0, .int 0, .int 0])]) ++ [.inr (9, [.int 0, .int 0, .int 0, .int 0, .int 0, .int 0, .int 0, .int 0, .int 0, .int 0, .int 0, .int 0])]) (by simp only [List.append_assoc, List.cons_append, List.nil_append]) (dm_X9_init (xl x) (xz x) (pre ++ [.inr (8, [.ref (gad (xz x) (p + 1)), .null, .null, .int 0]), .inl (gcy (xz x) 26, 3, .inr (.inr (.inr (.inr (va_up (va_up (va_up (fun _ => none) 0 (some (gad (xz x) (p + 2)))) 1 (some (gad (xz x) (p + 3)))) 2 (some (gad (xz x) (p + 4)))))))), .inr (9, [.int 0, .int 0, .int 0, .int 0, .int 0, .int 0, .int 0, .int 0, .int 0, .int 0, .int 0, .int 0]), .inr (9, [.int 0, .int 0, .int 0, .int 0, .int 0, .int 0, .int 0, .int 0, .int 0, .int 0, .int 0, .int 0]), .inr (9, [.int 0, .int 0, .int 0, .int 0, .int 0, .int 0, .int 0, .int 0, .int 0, .int 0, .int 0, .int 0]), .inl (gcy (xz x) 26, 4, .inr (.inr (.inr (.inr (va_up (fun _ => none) 0 (some (gad (xz x) (p + 6)))))))), .inr (9, [.int 0, .int 0, .int 0, .int 0, .int 0, .int 0, .int 0, .int 0, .int 0, .int 0, .int 0, .int 0])]) (p + 7) (by simp [hp])) (Or.inr (fun h => h.2.2.1)) rfl q_514 q_20 q_515 (by decide +kernel) rfl (by decide) (by decide) (by decide) (by decide) (Nat.le_of_ble_eq_true rfl) dX8_init_63 ?_
  refine d_es (es2 := (pre ++ [.inr (8, [.ref (gad (xz x) (p + 1)), .null, .null, .int 0]), .inl (gcy (xz x) 26, 3, .inr (.inr (.inr (.inr (va_up (va_up (va_up (fun _ => none) 0 (some (gad (xz x) (p + 2)))) 1 (some (gad (xz x) (p + 3)))) 2 (some (gad (xz x) (p + 4)))))))), .inr (9, [.int 0, .int 0, .int 0, .int 0, .int 0, .int 0, .int 0, .int 0, .int 0, .int 0, .int 0, .int 0]), .inr (9, [.int 0, .int 0, .int 0, .int 0, .int 0, .int 0, .int 0, .int 0, .int 0, .int 0, .int 0, .int 0]), .inr (9, [.int 0, .int 0, .int 0, .int 0, .int 0, .int 0, .int 0, .int 0, .int 0, .int 0, .int 0, .int 0]), .inl (gcy (xz x) 26, 4, .inr (.inr (.inr (.inr (va_up (fun _ => none) 0 (some (gad (xz x) (p + 6)))))))), .inr (9, [.int 0, .int 0, .int 0, .int 0, .int 0, .int 0, .int 0, .int 0, .int 0, .int 0, .int 0, .int 0]), .inr (9, [.int 0, .int 0, .int 0, .int 0, .int 0, .int 0, .int 0, .int 0, .int 0, .int 0, .int 0, .int 0])])) (by simp only [List.append_assoc, List.cons_append, List.nil_append, Nat.add_assoc, Nat.reduceAdd]) ?_
  refine d_cs (c2 := 7) (s2 := 67) rfl rfl ?_
  refine d_aast X (tag := 26) (f2 := va_up (va_up (fun _ => none) 0 (some (gad (xz x) (p + 6)))) 1 (some (gad (xz x) (p + 7)))) (es2 := (pre ++ [.inr (8, [.ref (gad (xz x) (p + 1)), .null, .null, .int 0]), .inl (gcy (xz x) 26, 3, .inr (.inr (.inr (.inr (va_up (va_up (va_up (fun _ => none) 0 (some (gad (xz x) (p + 2)))) 1 (some (gad (xz x) (p + 3)))) 2 (some (gad (xz x) (p + 4)))))))), .inr (9, [.int 0, .int 0, .int 0, .int 0, .int 0, .int 0, .int 0, .int 0, .int 0, .int 0, .int 0, .int 0]), .inr (9, [.int 0, .int 0, .int 0, .int 0, .int 0, .int 0, .int 0, .int 0, .int 0, .int 0, .int 0, .int 0]), .inr (9, [.int 0, .int 0, .int 0, .int 0, .int 0, .int 0, .int 0, .int 0, .int 0, .int 0, .int 0, .int 0]), .inl (gcy (xz x) 26, 4, .inr (.inr (.inr (.inr (va_up (va_up (fun _ => none) 0 (some (gad (xz x) (p + 6)))) 1 (some (gad (xz x) (p + 7)))))))), .inr (9, [.int 0, .int 0, .int 0, .int 0, .int 0, .int 0, .int 0, .int 0, .int 0, .int 0, .int 0, .int 0]), .inr (9, [.int 0, .int 0, .int 0, .int 0, .int 0, .int 0, .int 0, .int 0, .int 0, .int 0, .int 0, .int 0])])) rfl (dg hp 5 rfl) (dg hp 7 rfl) rfl (by decide +kernel) (by rw [show Int32.toNatClampNeg 1 = 1 by decide +kernel]) (ds hp 5 rfl) dX8_init_66 ?_
  refine d_dup X dX8_init_67 rfl ?_
  refine d_iconst X (v := 2) dX8_init_68 (by decide) ?_
  refine d_new X (t := 9) (fs := [.int 0, .int 0, .int 0, .int 0, .int 0, .int 0, .int 0, .int 0, .int 0, .int 0, .int 0, .int 0]) (es2 := (pre ++ [.inr (8, [.ref (gad (xz x) (p + 1)), .null, .null, .int 0]), .inl (gcy (xz x) 26, 3, .inr (.inr (.inr (.inr (va_up (va_up (va_up (fun _ => none) 0 (some (gad (xz x) (p + 2)))) 1 (some (gad (xz x) (p + 3)))) 2 (some (gad (xz x) (p + 4)))))))), .inr (9, [.int 0, .int 0, .int 0, .int 0, .int 0, .int 0, .int 0, .int 0, .int 0, .int 0, .int 0, .int 0]), .inr (9, [.int 0, .int 0, .int 0, .int 0, .int 0, .int 0, .int 0, .int 0, .int 0, .int 0, .int 0, .int 0]), .inr (9, [.int 0, .int 0, .int 0, .int 0, .int 0, .int 0, .int 0, .int 0, .int 0, .int 0, .int 0, .int 0]), .inl (gcy (xz x) 26, 4, .inr (.inr (.inr (.inr (va_up (va_up (fun _ => none) 0 (some (gad (xz x) (p + 6)))) 1 (some (gad (xz x) (p + 7)))))))), .inr (9, [.int 0, .int 0, .int 0, .int 0, .int 0, .int 0, .int 0, .int 0, .int 0, .int 0, .int 0, .int 0]), .inr (9, [.int 0, .int 0, .int 0, .int 0, .int 0, .int 0, .int 0, .int 0, .int 0, .int 0, .int 0, .int 0]), .inr (9, [.int 0, .int 0, .int 0, .int 0, .int 0, .int 0, .int 0, .int 0, .int 0, .int 0, .int 0, .int 0])])) (a := p + 8) rfl inX9 tyX9_ok q_510 q_512 q_20 fr_X9 (by decide) (by decide) (by simp only [List.append_assoc, List.cons_append, List.nil_append]) (by simp [hp]) dX8_init_69 ?_
  refine d_cs (c2 := 8) (s2 := 79) rfl rfl ?_
  refine d_dup X dX8_init_72 rfl ?_
  refine d_call X (As := []) (n := 0) (host := RX10) (es1 := (pre ++ [.inr (8, [.ref (gad (xz x) (p + 1)), .null, .null, .int 0]), .inl (gcy (xz x) 26, 3, .inr (.inr (.inr (.inr (va_up (va_up (va_up (fun _ => none) 0 (some (gad (xz x) (p + 2)))) 1 (some (gad (xz x) (p + 3)))) 2 (some (gad (xz x) (p + 4)))))))), .inr (9, [.int 0, .int 0, .int 0, .int 0, .int 0, .int 0, .int 0, .int 0, .int 0, .int 0, .int 0, .int 0]), .inr (9, [.int 0, .int 0, .int 0, .int 0, .int 0, .int 0, .int 0, .int 0, .int 0, .int 0, .int 0, .int 0]), .inr (9, [.int 0, .int 0, .int 0, .int 0, .int 0, .int 0, .int 0, .int 0, .int 0, .int 0, .int 0, .int 0]), .inl (gcy (xz x) 26, 4, .inr (.inr (.inr (.inr (va_up (va_up (fun _ => none) 0 (some (gad (xz x) (p + 6)))) 1 (some (gad (xz x) (p + 7)))))))), .inr (9, [.int 0, .int 0, .int 0, .int 0, .int 0, .int 0, .int 0, .int 0, .int 0, .int 0, .int 0, .int 0]), .inr (9, [.int 0, .int 0, .int 0, .int 0, .int 0, .int 0, .int 0, .int 0, .int 0, .int 0, .int 0, .int 0])]) ++ [.inr (9, [.int 0, .int 0, .int 0, .int 0, .int 0, .int 0, .int 0, .int 0, .int 0, .int 0, .int 0, .int 0])]) (by simp only [List.append_assoc, List.cons_append, List.nil_append]) (dm_X9_init (xl x) (xz x) (pre ++ [.inr (8, [.ref (gad (xz x) (p + 1)), .null, .null, .int 0]), .inl (gcy (xz x) 26, 3, .inr (.inr (.inr (.inr (va_up (va_up (va_up (fun _ => none) 0 (some (gad (xz x) (p + 2)))) 1 (some (gad (xz x) (p + 3)))) 2 (some (gad (xz x) (p + 4)))))))), .inr (9, [.int 0, .int 0, .int 0, .int 0, .int 0, .int 0, .int 0, .int 0, .int 0, .int 0, .int 0, .int 0]), .inr (9, [.int 0, .int 0, .int 0, .int 0, .int 0, .int 0, .int 0, .int 0, .int 0, .int 0, .int 0, .int 0]), .inr (9, [.int 0, .int 0, .int 0, .int 0, .int 0, .int 0, .int 0, .int 0, .int 0, .int 0, .int 0, .int 0]), .inl (gcy (xz x) 26, 4, .inr (.inr (.inr (.inr (va_up (va_up (fun _ => none) 0 (some (gad (xz x) (p + 6)))) 1 (some (gad (xz x) (p + 7)))))))), .inr (9, [.int 0, .int 0, .int 0, .int 0, .int 0, .int 0, .int 0, .int 0, .int 0, .int 0, .int 0, .int 0]), .inr (9, [.int 0, .int 0, .int 0, .int 0, .int 0, .int 0, .int 0, .int 0, .int 0, .int 0, .int 0, .int 0])]) (p + 8) (by simp [hp])) (Or.inr (fun h => h.2.2.1)) rfl q_514 q_20 q_515 (by decide +kernel) rfl (by decide) (by decide) (by decide) (by decide) (Nat.le_of_ble_eq_true rfl) dX8_init_73 ?_
  refine d_es (es2 := (pre ++ [.inr (8, [.ref (gad (xz x) (p + 1)), .null, .null, .int 0]), .inl (gcy (xz x) 26, 3, .inr (.inr (.inr (.inr (va_up (va_up (va_up (fun _ => none) 0 (some (gad (xz x) (p + 2)))) 1 (some (gad (xz x) (p + 3)))) 2 (some (gad (xz x) (p + 4)))))))), .inr (9, [.int 0, .int 0, .int 0, .int 0, .int 0, .int 0, .int 0, .int 0, .int 0, .int 0, .int 0, .int 0]), .inr (9, [.int 0, .int 0, .int 0, .int 0, .int 0, .int 0, .int 0, .int 0, .int 0, .int 0, .int 0, .int 0]), .inr (9, [.int 0, .int 0, .int 0, .int 0, .int 0, .int 0, .int 0, .int 0, .int 0, .int 0, .int 0, .int 0]), .inl (gcy (xz x) 26, 4, .inr (.inr (.inr (.inr (va_up (va_up (fun _ => none) 0 (some (gad (xz x) (p + 6)))) 1 (some (gad (xz x) (p + 7)))))))), .inr (9, [.int 0, .int 0, .int 0, .int 0, .int 0, .int 0, .int 0, .int 0, .int 0, .int 0, .int 0, .int 0]), .inr (9, [.int 0, .int 0, .int 0, .int 0, .int 0, .int 0, .int 0, .int 0, .int 0, .int 0, .int 0, .int 0]), .inr (9, [.int 0, .int 0, .int 0, .int 0, .int 0, .int 0, .int 0, .int 0, .int 0, .int 0, .int 0, .int 0])])) (by simp only [List.append_assoc, List.cons_append, List.nil_append, Nat.add_assoc, Nat.reduceAdd]) ?_
  refine d_cs (c2 := 8) (s2 := 79) rfl rfl ?_
  refine d_aast X (tag := 26) (f2 := va_up (va_up (va_up (fun _ => none) 0 (some (gad (xz x) (p + 6)))) 1 (some (gad (xz x) (p + 7)))) 2 (some (gad (xz x) (p + 8)))) (es2 := (pre ++ [.inr (8, [.ref (gad (xz x) (p + 1)), .null, .null, .int 0]), .inl (gcy (xz x) 26, 3, .inr (.inr (.inr (.inr (va_up (va_up (va_up (fun _ => none) 0 (some (gad (xz x) (p + 2)))) 1 (some (gad (xz x) (p + 3)))) 2 (some (gad (xz x) (p + 4)))))))), .inr (9, [.int 0, .int 0, .int 0, .int 0, .int 0, .int 0, .int 0, .int 0, .int 0, .int 0, .int 0, .int 0]), .inr (9, [.int 0, .int 0, .int 0, .int 0, .int 0, .int 0, .int 0, .int 0, .int 0, .int 0, .int 0, .int 0]), .inr (9, [.int 0, .int 0, .int 0, .int 0, .int 0, .int 0, .int 0, .int 0, .int 0, .int 0, .int 0, .int 0]), .inl (gcy (xz x) 26, 4, .inr (.inr (.inr (.inr (va_up (va_up (va_up (fun _ => none) 0 (some (gad (xz x) (p + 6)))) 1 (some (gad (xz x) (p + 7)))) 2 (some (gad (xz x) (p + 8)))))))), .inr (9, [.int 0, .int 0, .int 0, .int 0, .int 0, .int 0, .int 0, .int 0, .int 0, .int 0, .int 0, .int 0]), .inr (9, [.int 0, .int 0, .int 0, .int 0, .int 0, .int 0, .int 0, .int 0, .int 0, .int 0, .int 0, .int 0]), .inr (9, [.int 0, .int 0, .int 0, .int 0, .int 0, .int 0, .int 0, .int 0, .int 0, .int 0, .int 0, .int 0])])) rfl (dg hp 5 rfl) (dg hp 8 rfl) rfl (by decide +kernel) (by rw [show Int32.toNatClampNeg 2 = 2 by decide +kernel]) (ds hp 5 rfl) dX8_init_76 ?_
  refine d_dup X dX8_init_77 rfl ?_
  refine d_iconst X (v := 3) dX8_init_78 (by decide) ?_
  refine d_new X (t := 9) (fs := [.int 0, .int 0, .int 0, .int 0, .int 0, .int 0, .int 0, .int 0, .int 0, .int 0, .int 0, .int 0]) (es2 := (pre ++ [.inr (8, [.ref (gad (xz x) (p + 1)), .null, .null, .int 0]), .inl (gcy (xz x) 26, 3, .inr (.inr (.inr (.inr (va_up (va_up (va_up (fun _ => none) 0 (some (gad (xz x) (p + 2)))) 1 (some (gad (xz x) (p + 3)))) 2 (some (gad (xz x) (p + 4)))))))), .inr (9, [.int 0, .int 0, .int 0, .int 0, .int 0, .int 0, .int 0, .int 0, .int 0, .int 0, .int 0, .int 0]), .inr (9, [.int 0, .int 0, .int 0, .int 0, .int 0, .int 0, .int 0, .int 0, .int 0, .int 0, .int 0, .int 0]), .inr (9, [.int 0, .int 0, .int 0, .int 0, .int 0, .int 0, .int 0, .int 0, .int 0, .int 0, .int 0, .int 0]), .inl (gcy (xz x) 26, 4, .inr (.inr (.inr (.inr (va_up (va_up (va_up (fun _ => none) 0 (some (gad (xz x) (p + 6)))) 1 (some (gad (xz x) (p + 7)))) 2 (some (gad (xz x) (p + 8)))))))), .inr (9, [.int 0, .int 0, .int 0, .int 0, .int 0, .int 0, .int 0, .int 0, .int 0, .int 0, .int 0, .int 0]), .inr (9, [.int 0, .int 0, .int 0, .int 0, .int 0, .int 0, .int 0, .int 0, .int 0, .int 0, .int 0, .int 0]), .inr (9, [.int 0, .int 0, .int 0, .int 0, .int 0, .int 0, .int 0, .int 0, .int 0, .int 0, .int 0, .int 0]), .inr (9, [.int 0, .int 0, .int 0, .int 0, .int 0, .int 0, .int 0, .int 0, .int 0, .int 0, .int 0, .int 0])])) (a := p + 9) rfl inX9 tyX9_ok q_510 q_512 q_20 fr_X9 (by decide) (by decide) (by simp only [List.append_assoc, List.cons_append, List.nil_append]) (by simp [hp]) dX8_init_79 ?_
  refine d_cs (c2 := 9) (s2 := 91) rfl rfl ?_
  refine d_dup X dX8_init_82 rfl ?_
  refine d_call X (As := []) (n := 0) (host := RX10) (es1 := (pre ++ [.inr (8, [.ref (gad (xz x) (p + 1)), .null, .null, .int 0]), .inl (gcy (xz x) 26, 3, .inr (.inr (.inr (.inr (va_up (va_up (va_up (fun _ => none) 0 (some (gad (xz x) (p + 2)))) 1 (some (gad (xz x) (p + 3)))) 2 (some (gad (xz x) (p + 4)))))))), .inr (9, [.int 0, .int 0, .int 0, .int 0, .int 0, .int 0, .int 0, .int 0, .int 0, .int 0, .int 0, .int 0]), .inr (9, [.int 0, .int 0, .int 0, .int 0, .int 0, .int 0, .int 0, .int 0, .int 0, .int 0, .int 0, .int 0]), .inr (9, [.int 0, .int 0, .int 0, .int 0, .int 0, .int 0, .int 0, .int 0, .int 0, .int 0, .int 0, .int 0]), .inl (gcy (xz x) 26, 4, .inr (.inr (.inr (.inr (va_up (va_up (va_up (fun _ => none) 0 (some (gad (xz x) (p + 6)))) 1 (some (gad (xz x) (p + 7)))) 2 (some (gad (xz x) (p + 8)))))))), .inr (9, [.int 0, .int 0, .int 0, .int 0, .int 0, .int 0, .int 0, .int 0, .int 0, .int 0, .int 0, .int 0]), .inr (9, [.int 0, .int 0, .int 0, .int 0, .int 0, .int 0, .int 0, .int 0, .int 0, .int 0, .int 0, .int 0]), .inr (9, [.int 0, .int 0, .int 0, .int 0, .int 0, .int 0, .int 0, .int 0, .int 0, .int 0, .int 0, .int 0])]) ++ [.inr (9, [.int 0, .int 0, .int 0, .int 0, .int 0, .int 0, .int 0, .int 0, .int 0, .int 0, .int 0, .int 0])]) (by simp only [List.append_assoc, List.cons_append, List.nil_append]) (dm_X9_init (xl x) (xz x) (pre ++ [.inr (8, [.ref (gad (xz x) (p + 1)), .null, .null, .int 0]), .inl (gcy (xz x) 26, 3, .inr (.inr (.inr (.inr (va_up (va_up (va_up (fun _ => none) 0 (some (gad (xz x) (p + 2)))) 1 (some (gad (xz x) (p + 3)))) 2 (some (gad (xz x) (p + 4)))))))), .inr (9, [.int 0, .int 0, .int 0, .int 0, .int 0, .int 0, .int 0, .int 0, .int 0, .int 0, .int 0, .int 0]), .inr (9, [.int 0, .int 0, .int 0, .int 0, .int 0, .int 0, .int 0, .int 0, .int 0, .int 0, .int 0, .int 0]), .inr (9, [.int 0, .int 0, .int 0, .int 0, .int 0, .int 0, .int 0, .int 0, .int 0, .int 0, .int 0, .int 0]), .inl (gcy (xz x) 26, 4, .inr (.inr (.inr (.inr (va_up (va_up (va_up (fun _ => none) 0 (some (gad (xz x) (p + 6)))) 1 (some (gad (xz x) (p + 7)))) 2 (some (gad (xz x) (p + 8)))))))), .inr (9, [.int 0, .int 0, .int 0, .int 0, .int 0, .int 0, .int 0, .int 0, .int 0, .int 0, .int 0, .int 0]), .inr (9, [.int 0, .int 0, .int 0, .int 0, .int 0, .int 0, .int 0, .int 0, .int 0, .int 0, .int 0, .int 0]), .inr (9, [.int 0, .int 0, .int 0, .int 0, .int 0, .int 0, .int 0, .int 0, .int 0, .int 0, .int 0, .int 0])]) (p + 9) (by simp [hp])) (Or.inr (fun h => h.2.2.1)) rfl q_514 q_20 q_515 (by decide +kernel) rfl (by decide) (by decide) (by decide) (by decide) (Nat.le_of_ble_eq_true rfl) dX8_init_83 ?_
  refine d_es (es2 := (pre ++ [.inr (8, [.ref (gad (xz x) (p + 1)), .null, .null, .int 0]), .inl (gcy (xz x) 26, 3, .inr (.inr (.inr (.inr (va_up (va_up (va_up (fun _ => none) 0 (some (gad (xz x) (p + 2)))) 1 (some (gad (xz x) (p + 3)))) 2 (some (gad (xz x) (p + 4)))))))), .inr (9, [.int 0, .int 0, .int 0, .int 0, .int 0, .int 0, .int 0, .int 0, .int 0, .int 0, .int 0, .int 0]), .inr (9, [.int 0, .int 0, .int 0, .int 0, .int 0, .int 0, .int 0, .int 0, .int 0, .int 0, .int 0, .int 0]), .inr (9, [.int 0, .int 0, .int 0, .int 0, .int 0, .int 0, .int 0, .int 0, .int 0, .int 0, .int 0, .int 0]), .inl (gcy (xz x) 26, 4, .inr (.inr (.inr (.inr (va_up (va_up (va_up (fun _ => none) 0 (some (gad (xz x) (p + 6)))) 1 (some (gad (xz x) (p + 7)))) 2 (some (gad (xz x) (p + 8)))))))), .inr (9, [.int 0, .int 0, .int 0, .int 0, .int 0, .int 0, .int 0, .int 0, .int 0, .int 0, .int 0, .int 0]), .inr (9, [.int 0, .int 0, .int 0, .int 0, .int 0, .int 0, .int 0, .int 0, .int 0, .int 0, .int 0, .int 0]), .inr (9, [.int 0, .int 0, .int 0, .int 0, .int 0, .int 0, .int 0, .int 0, .int 0, .int 0, .int 0, .int 0]), .inr (9, [.int 0, .int 0, .int 0, .int 0, .int 0, .int 0, .int 0, .int 0, .int 0, .int 0, .int 0, .int 0])])) (by simp only [List.append_assoc, List.cons_append, List.nil_append, Nat.add_assoc, Nat.reduceAdd]) ?_
  refine d_cs (c2 := 9) (s2 := 91) rfl rfl ?_
  refine d_aast X (tag := 26) (f2 := va_up (va_up (va_up (va_up (fun _ => none) 0 (some (gad (xz x) (p + 6)))) 1 (some (gad (xz x) (p + 7)))) 2 (some (gad (xz x) (p + 8)))) 3 (some (gad (xz x) (p + 9)))) (es2 := (pre ++ [.inr (8, [.ref (gad (xz x) (p + 1)), .null, .null, .int 0]), .inl (gcy (xz x) 26, 3, .inr (.inr (.inr (.inr (va_up (va_up (va_up (fun _ => none) 0 (some (gad (xz x) (p + 2)))) 1 (some (gad (xz x) (p + 3)))) 2 (some (gad (xz x) (p + 4)))))))), .inr (9, [.int 0, .int 0, .int 0, .int 0, .int 0, .int 0, .int 0, .int 0, .int 0, .int 0, .int 0, .int 0]), .inr (9, [.int 0, .int 0, .int 0, .int 0, .int 0, .int 0, .int 0, .int 0, .int 0, .int 0, .int 0, .int 0]), .inr (9, [.int 0, .int 0, .int 0, .int 0, .int 0, .int 0, .int 0, .int 0, .int 0, .int 0, .int 0, .int 0]), .inl (gcy (xz x) 26, 4, .inr (.inr (.inr (.inr (va_up (va_up (va_up (va_up (fun _ => none) 0 (some (gad (xz x) (p + 6)))) 1 (some (gad (xz x) (p + 7)))) 2 (some (gad (xz x) (p + 8)))) 3 (some (gad (xz x) (p + 9)))))))), .inr (9, [.int 0, .int 0, .int 0, .int 0, .int 0, .int 0, .int 0, .int 0, .int 0, .int 0, .int 0, .int 0]), .inr (9, [.int 0, .int 0, .int 0, .int 0, .int 0, .int 0, .int 0, .int 0, .int 0, .int 0, .int 0, .int 0]), .inr (9, [.int 0, .int 0, .int 0, .int 0, .int 0, .int 0, .int 0, .int 0, .int 0, .int 0, .int 0, .int 0]), .inr (9, [.int 0, .int 0, .int 0, .int 0, .int 0, .int 0, .int 0, .int 0, .int 0, .int 0, .int 0, .int 0])])) rfl (dg hp 5 rfl) (dg hp 9 rfl) rfl (by decide +kernel) (by rw [show Int32.toNatClampNeg 3 = 3 by decide +kernel]) (ds hp 5 rfl) dX8_init_86 ?_
  refine d_put X (k := 1) (es2 := (pre ++ [.inr (8, [.ref (gad (xz x) (p + 1)), .ref (gad (xz x) (p + 5)), .null, .int 0]), .inl (gcy (xz x) 26, 3, .inr (.inr (.inr (.inr (va_up (va_up (va_up (fun _ => none) 0 (some (gad (xz x) (p + 2)))) 1 (some (gad (xz x) (p + 3)))) 2 (some (gad (xz x) (p + 4)))))))), .inr (9, [.int 0, .int 0, .int 0, .int 0, .int 0, .int 0, .int 0, .int 0, .int 0, .int 0, .int 0, .int 0]), .inr (9, [.int 0, .int 0, .int 0, .int 0, .int 0, .int 0, .int 0, .int 0, .int 0, .int 0, .int 0, .int 0]), .inr (9, [.int 0, .int 0, .int 0, .int 0, .int 0, .int 0, .int 0, .int 0, .int 0, .int 0, .int 0, .int 0]), .inl (gcy (xz x) 26, 4, .inr (.inr (.inr (.inr (va_up (va_up (va_up (va_up (fun _ => none) 0 (some (gad (xz x) (p + 6)))) 1 (some (gad (xz x) (p + 7)))) 2 (some (gad (xz x) (p + 8)))) 3 (some (gad (xz x) (p + 9)))))))), .inr (9, [.int 0, .int 0, .int 0, .int 0, .int 0, .int 0, .int 0, .int 0, .int 0, .int 0, .int 0, .int 0]), .inr (9, [.int 0, .int 0, .int 0, .int 0, .int 0, .int 0, .int 0, .int 0, .int 0, .int 0, .int 0, .int 0]), .inr (9, [.int 0, .int 0, .int 0, .int 0, .int 0, .int 0, .int 0, .int 0, .int 0, .int 0, .int 0, .int 0]), .inr (9, [.int 0, .int 0, .int 0, .int 0, .int 0, .int 0, .int 0, .int 0, .int 0, .int 0, .int 0, .int 0])])) (dg hp 0 rfl) (ds hp 0 rfl) rfl inX8 tyX8_ok nmX8 (by decide) q_651 rfl (Or.inr ⟨rfl, hin, rfl⟩) (tyX8_ok 1 (by decide)) rfl rfl (Nat.le_of_ble_eq_true rfl) dX8_init_87 ?_
  refine d_aload_n X (j := 0) dX8_init_90 rfl rfl ?_
  refine d_iconst X (v := 2) dX8_init_91 (by decide) ?_
  refine d_anew X (tag := 27) (N := 2) (es2 := (pre ++ [.inr (8, [.ref (gad (xz x) (p + 1)), .ref (gad (xz x) (p + 5)), .null, .int 0]), .inl (gcy (xz x) 26, 3, .inr (.inr (.inr (.inr (va_up (va_up (va_up (fun _ => none) 0 (some (gad (xz x) (p + 2)))) 1 (some (gad (xz x) (p + 3)))) 2 (some (gad (xz x) (p + 4)))))))), .inr (9, [.int 0, .int 0, .int 0, .int 0, .int 0, .int 0, .int 0, .int 0, .int 0, .int 0, .int 0, .int 0]), .inr (9, [.int 0, .int 0, .int 0, .int 0, .int 0, .int 0, .int 0, .int 0, .int 0, .int 0, .int 0, .int 0]), .inr (9, [.int 0, .int 0, .int 0, .int 0, .int 0, .int 0, .int 0, .int 0, .int 0, .int 0, .int 0, .int 0]), .inl (gcy (xz x) 26, 4, .inr (.inr (.inr (.inr (va_up (va_up (va_up (va_up (fun _ => none) 0 (some (gad (xz x) (p + 6)))) 1 (some (gad (xz x) (p + 7)))) 2 (some (gad (xz x) (p + 8)))) 3 (some (gad (xz x) (p + 9)))))))), .inr (9, [.int 0, .int 0, .int 0, .int 0, .int 0, .int 0, .int 0, .int 0, .int 0, .int 0, .int 0, .int 0]), .inr (9, [.int 0, .int 0, .int 0, .int 0, .int 0, .int 0, .int 0, .int 0, .int 0, .int 0, .int 0, .int 0]), .inr (9, [.int 0, .int 0, .int 0, .int 0, .int 0, .int 0, .int 0, .int 0, .int 0, .int 0, .int 0, .int 0]), .inr (9, [.int 0, .int 0, .int 0, .int 0, .int 0, .int 0, .int 0, .int 0, .int 0, .int 0, .int 0, .int 0]), .inl (gcy (xz x) 27, 2, .inr (.inr (.inr (.inr (fun _ => none)))))])) (a := p + 10) rfl q_578 X.2.2.2.2.2.2.1.2.2.1.2.2.2.2.1 (by decide) (by decide +kernel) (Nat.le_of_ble_eq_true rfl) (by decide) (by decide) (by simp only [List.append_assoc, List.cons_append, List.nil_append]) (by simp [hp]) dX8_init_92 ?_
  refine d_cs (c2 := 10) (s2 := 93) rfl rfl ?_
  refine d_dup X dX8_init_95 rfl ?_
  refine d_iconst X (v := 0) dX8_init_96 (by decide) ?_
  refine d_new X (t := 6) (fs := [.null, .null, .null, .null, .long 0, .int 0, .long 0, .long 0, .long 0]) (es2 := (pre ++ [.inr (8, [.ref (gad (xz x) (p + 1)), .ref (gad (xz x) (p + 5)), .null, .int 0]), .inl (gcy (xz x) 26, 3, .inr (.inr (.inr (.inr (va_up (va_up (va_up (fun _ => none) 0 (some (gad (xz x) (p + 2)))) 1 (some (gad (xz x) (p + 3)))) 2 (some (gad (xz x) (p + 4)))))))), .inr (9, [.int 0, .int 0, .int 0, .int 0, .int 0, .int 0, .int 0, .int 0, .int 0, .int 0, .int 0, .int 0]), .inr (9, [.int 0, .int 0, .int 0, .int 0, .int 0, .int 0, .int 0, .int 0, .int 0, .int 0, .int 0, .int 0]), .inr (9, [.int 0, .int 0, .int 0, .int 0, .int 0, .int 0, .int 0, .int 0, .int 0, .int 0, .int 0, .int 0]), .inl (gcy (xz x) 26, 4, .inr (.inr (.inr (.inr (va_up (va_up (va_up (va_up (fun _ => none) 0 (some (gad (xz x) (p + 6)))) 1 (some (gad (xz x) (p + 7)))) 2 (some (gad (xz x) (p + 8)))) 3 (some (gad (xz x) (p + 9)))))))), .inr (9, [.int 0, .int 0, .int 0, .int 0, .int 0, .int 0, .int 0, .int 0, .int 0, .int 0, .int 0, .int 0]), .inr (9, [.int 0, .int 0, .int 0, .int 0, .int 0, .int 0, .int 0, .int 0, .int 0, .int 0, .int 0, .int 0]), .inr (9, [.int 0, .int 0, .int 0, .int 0, .int 0, .int 0, .int 0, .int 0, .int 0, .int 0, .int 0, .int 0]), .inr (9, [.int 0, .int 0, .int 0, .int 0, .int 0, .int 0, .int 0, .int 0, .int 0, .int 0, .int 0, .int 0]), .inl (gcy (xz x) 27, 2, .inr (.inr (.inr (.inr (fun _ => none))))), .inr (6, [.null, .null, .null, .null, .long 0, .int 0, .long 0, .long 0, .long 0])])) (a := p + 11) rfl inX6 tyX6_ok q_578 q_580 q_21 fr_X6 (by decide) (by decide) (by simp only [List.append_assoc, List.cons_append, List.nil_append]) (by simp [hp]) dX8_init_97 ?_
  refine d_cs (c2 := 11) (s2 := 102) rfl rfl ?_
  refine d_dup X dX8_init_100 rfl ?_
  refine d_call X (As := []) (n := 0) (host := RX10) (es1 := (pre ++ [.inr (8, [.ref (gad (xz x) (p + 1)), .ref (gad (xz x) (p + 5)), .null, .int 0]), .inl (gcy (xz x) 26, 3, .inr (.inr (.inr (.inr (va_up (va_up (va_up (fun _ => none) 0 (some (gad (xz x) (p + 2)))) 1 (some (gad (xz x) (p + 3)))) 2 (some (gad (xz x) (p + 4)))))))), .inr (9, [.int 0, .int 0, .int 0, .int 0, .int 0, .int 0, .int 0, .int 0, .int 0, .int 0, .int 0, .int 0]), .inr (9, [.int 0, .int 0, .int 0, .int 0, .int 0, .int 0, .int 0, .int 0, .int 0, .int 0, .int 0, .int 0]), .inr (9, [.int 0, .int 0, .int 0, .int 0, .int 0, .int 0, .int 0, .int 0, .int 0, .int 0, .int 0, .int 0]), .inl (gcy (xz x) 26, 4, .inr (.inr (.inr (.inr (va_up (va_up (va_up (va_up (fun _ => none) 0 (some (gad (xz x) (p + 6)))) 1 (some (gad (xz x) (p + 7)))) 2 (some (gad (xz x) (p + 8)))) 3 (some (gad (xz x) (p + 9)))))))), .inr (9, [.int 0, .int 0, .int 0, .int 0, .int 0, .int 0, .int 0, .int 0, .int 0, .int 0, .int 0, .int 0]), .inr (9, [.int 0, .int 0, .int 0, .int 0, .int 0, .int 0, .int 0, .int 0, .int 0, .int 0, .int 0, .int 0]), .inr (9, [.int 0, .int 0, .int 0, .int 0, .int 0, .int 0, .int 0, .int 0, .int 0, .int 0, .int 0, .int 0]), .inr (9, [.int 0, .int 0, .int 0, .int 0, .int 0, .int 0, .int 0, .int 0, .int 0, .int 0, .int 0, .int 0]), .inl (gcy (xz x) 27, 2, .inr (.inr (.inr (.inr (fun _ => none)))))]) ++ [.inr (6, [.null, .null, .null, .null, .long 0, .int 0, .long 0, .long 0, .long 0])]) (by simp only [List.append_assoc, List.cons_append, List.nil_append]) (dm_X6_init (xl x) (xz x) (pre ++ [.inr (8, [.ref (gad (xz x) (p + 1)), .ref (gad (xz x) (p + 5)), .null, .int 0]), .inl (gcy (xz x) 26, 3, .inr (.inr (.inr (.inr (va_up (va_up (va_up (fun _ => none) 0 (some (gad (xz x) (p + 2)))) 1 (some (gad (xz x) (p + 3)))) 2 (some (gad (xz x) (p + 4)))))))), .inr (9, [.int 0, .int 0, .int 0, .int 0, .int 0, .int 0, .int 0, .int 0, .int 0, .int 0, .int 0, .int 0]), .inr (9, [.int 0, .int 0, .int 0, .int 0, .int 0, .int 0, .int 0, .int 0, .int 0, .int 0, .int 0, .int 0]), .inr (9, [.int 0, .int 0, .int 0, .int 0, .int 0, .int 0, .int 0, .int 0, .int 0, .int 0, .int 0, .int 0]), .inl (gcy (xz x) 26, 4, .inr (.inr (.inr (.inr (va_up (va_up (va_up (va_up (fun _ => none) 0 (some (gad (xz x) (p + 6)))) 1 (some (gad (xz x) (p + 7)))) 2 (some (gad (xz x) (p + 8)))) 3 (some (gad (xz x) (p + 9)))))))), .inr (9, [.int 0, .int 0, .int 0, .int 0, .int 0, .int 0, .int 0, .int 0, .int 0, .int 0, .int 0, .int 0]), .inr (9, [.int 0, .int 0, .int 0, .int 0, .int 0, .int 0, .int 0, .int 0, .int 0, .int 0, .int 0, .int 0]), .inr (9, [.int 0, .int 0, .int 0, .int 0, .int 0, .int 0, .int 0, .int 0, .int 0, .int 0, .int 0, .int 0]), .inr (9, [.int 0, .int 0, .int 0, .int 0, .int 0, .int 0, .int 0, .int 0, .int 0, .int 0, .int 0, .int 0]), .inl (gcy (xz x) 27, 2, .inr (.inr (.inr (.inr (fun _ => none)))))]) (p + 11) (by simp [hp])) (Or.inr (fun h => h.2.2.2.1)) rfl q_582 q_21 q_583 (by decide +kernel) rfl (by decide) (by decide) (by decide) (by decide) (Nat.le_of_ble_eq_true rfl) dX8_init_101 ?_
  refine d_es (es2 := (pre ++ [.inr (8, [.ref (gad (xz x) (p + 1)), .ref (gad (xz x) (p + 5)), .null, .int 0]), .inl (gcy (xz x) 26, 3, .inr (.inr (.inr (.inr (va_up (va_up (va_up (fun _ => none) 0 (some (gad (xz x) (p + 2)))) 1 (some (gad (xz x) (p + 3)))) 2 (some (gad (xz x) (p + 4)))))))), .inr (9, [.int 0, .int 0, .int 0, .int 0, .int 0, .int 0, .int 0, .int 0, .int 0, .int 0, .int 0, .int 0]), .inr (9, [.int 0, .int 0, .int 0, .int 0, .int 0, .int 0, .int 0, .int 0, .int 0, .int 0, .int 0, .int 0]), .inr (9, [.int 0, .int 0, .int 0, .int 0, .int 0, .int 0, .int 0, .int 0, .int 0, .int 0, .int 0, .int 0]), .inl (gcy (xz x) 26, 4, .inr (.inr (.inr (.inr (va_up (va_up (va_up (va_up (fun _ => none) 0 (some (gad (xz x) (p + 6)))) 1 (some (gad (xz x) (p + 7)))) 2 (some (gad (xz x) (p + 8)))) 3 (some (gad (xz x) (p + 9)))))))), .inr (9, [.int 0, .int 0, .int 0, .int 0, .int 0, .int 0, .int 0, .int 0, .int 0, .int 0, .int 0, .int 0]), .inr (9, [.int 0, .int 0, .int 0, .int 0, .int 0, .int 0, .int 0, .int 0, .int 0, .int 0, .int 0, .int 0]), .inr (9, [.int 0, .int 0, .int 0, .int 0, .int 0, .int 0, .int 0, .int 0, .int 0, .int 0, .int 0, .int 0]), .inr (9, [.int 0, .int 0, .int 0, .int 0, .int 0, .int 0, .int 0, .int 0, .int 0, .int 0, .int 0, .int 0]), .inl (gcy (xz x) 27, 2, .inr (.inr (.inr (.inr (fun _ => none))))), .inr (6, [.ref (gad (xz x) (p + 12)), .ref (gad (xz x) (p + 13)), .ref (gad (xz x) (p + 14)), .ref (gad (xz x) (p + 15)), .long 0, .int 0, .long 0, .long 0, .long 0]), .inr (0, [.int 0, .int 0, .int 39, .int 23]), .inr (9, [.int 0, .int 0, .int 0, .int 0, .int 0, .int 0, .int 0, .int 0, .int 0, .int 0, .int 0, .int 0]), .inr (9, [.int 0, .int 0, .int 0, .int 0, .int 0, .int 0, .int 0, .int 0, .int 0, .int 0, .int 0, .int 0]), .inr (9, [.int 0, .int 0, .int 0, .int 0, .int 0, .int 0, .int 0, .int 0, .int 0, .int 0, .int 0, .int 0])])) (by simp only [List.append_assoc, List.cons_append, List.nil_append, Nat.add_assoc, Nat.reduceAdd]) ?_
  refine d_cs (c2 := 15) (s2 := 142) rfl rfl ?_
  refine d_aast X (tag := 27) (f2 := va_up (fun _ => none) 0 (some (gad (xz x) (p + 11)))) (es2 := (pre ++ [.inr (8, [.ref (gad (xz x) (p + 1)), .ref (gad (xz x) (p + 5)), .null, .int 0]), .inl (gcy (xz x) 26, 3, .inr (.inr (.inr (.inr (va_up (va_up (va_up (fun _ => none) 0 (some (gad (xz x) (p + 2)))) 1 (some (gad (xz x) (p + 3)))) 2 (some (gad (xz x) (p + 4)))))))), .inr (9, [.int 0, .int 0, .int 0, .int 0, .int 0, .int 0, .int 0, .int 0, .int 0, .int 0, .int 0, .int 0]), .inr (9, [.int 0, .int 0, .int 0, .int 0, .int 0, .int 0, .int 0, .int 0, .int 0, .int 0, .int 0, .int 0]), .inr (9, [.int 0, .int 0, .int 0, .int 0, .int 0, .int 0, .int 0, .int 0, .int 0, .int 0, .int 0, .int 0]), .inl (gcy (xz x) 26, 4, .inr (.inr (.inr (.inr (va_up (va_up (va_up (va_up (fun _ => none) 0 (some (gad (xz x) (p + 6)))) 1 (some (gad (xz x) (p + 7)))) 2 (some (gad (xz x) (p + 8)))) 3 (some (gad (xz x) (p + 9)))))))), .inr (9, [.int 0, .int 0, .int 0, .int 0, .int 0, .int 0, .int 0, .int 0, .int 0, .int 0, .int 0, .int 0]), .inr (9, [.int 0, .int 0, .int 0, .int 0, .int 0, .int 0, .int 0, .int 0, .int 0, .int 0, .int 0, .int 0]), .inr (9, [.int 0, .int 0, .int 0, .int 0, .int 0, .int 0, .int 0, .int 0, .int 0, .int 0, .int 0, .int 0]), .inr (9, [.int 0, .int 0, .int 0, .int 0, .int 0, .int 0, .int 0, .int 0, .int 0, .int 0, .int 0, .int 0]), .inl (gcy (xz x) 27, 2, .inr (.inr (.inr (.inr (va_up (fun _ => none) 0 (some (gad (xz x) (p + 11)))))))), .inr (6, [.ref (gad (xz x) (p + 12)), .ref (gad (xz x) (p + 13)), .ref (gad (xz x) (p + 14)), .ref (gad (xz x) (p + 15)), .long 0, .int 0, .long 0, .long 0, .long 0]), .inr (0, [.int 0, .int 0, .int 39, .int 23]), .inr (9, [.int 0, .int 0, .int 0, .int 0, .int 0, .int 0, .int 0, .int 0, .int 0, .int 0, .int 0, .int 0]), .inr (9, [.int 0, .int 0, .int 0, .int 0, .int 0, .int 0, .int 0, .int 0, .int 0, .int 0, .int 0, .int 0]), .inr (9, [.int 0, .int 0, .int 0, .int 0, .int 0, .int 0, .int 0, .int 0, .int 0, .int 0, .int 0, .int 0])])) rfl (dg hp 10 rfl) (dg hp 11 rfl) rfl (by decide +kernel) (by rw [show Int32.toNatClampNeg 0 = 0 by decide +kernel]) (ds hp 10 rfl) dX8_init_104 ?_
  refine d_dup X dX8_init_105 rfl ?_
  refine d_iconst X (v := 1) dX8_init_106 (by decide) ?_
  refine d_new X (t := 6) (fs := [.null, .null, .null, .null, .long 0, .int 0, .long 0, .long 0, .long 0]) (es2 := (pre ++ [.inr (8, [.ref (gad (xz x) (p + 1)), .ref (gad (xz x) (p + 5)), .null, .int 0]), .inl (gcy (xz x) 26, 3, .inr (.inr (.inr (.inr (va_up (va_up (va_up (fun _ => none) 0 (some (gad (xz x) (p + 2)))) 1 (some (gad (xz x) (p + 3)))) 2 (some (gad (xz x) (p + 4)))))))), .inr (9, [.int 0, .int 0, .int 0, .int 0, .int 0, .int 0, .int 0, .int 0, .int 0, .int 0, .int 0, .int 0]), .inr (9, [.int 0, .int 0, .int 0, .int 0, .int 0, .int 0, .int 0, .int 0, .int 0, .int 0, .int 0, .int 0]), .inr (9, [.int 0, .int 0, .int 0, .int 0, .int 0, .int 0, .int 0, .int 0, .int 0, .int 0, .int 0, .int 0]), .inl (gcy (xz x) 26, 4, .inr (.inr (.inr (.inr (va_up (va_up (va_up (va_up (fun _ => none) 0 (some (gad (xz x) (p + 6)))) 1 (some (gad (xz x) (p + 7)))) 2 (some (gad (xz x) (p + 8)))) 3 (some (gad (xz x) (p + 9)))))))), .inr (9, [.int 0, .int 0, .int 0, .int 0, .int 0, .int 0, .int 0, .int 0, .int 0, .int 0, .int 0, .int 0]), .inr (9, [.int 0, .int 0, .int 0, .int 0, .int 0, .int 0, .int 0, .int 0, .int 0, .int 0, .int 0, .int 0]), .inr (9, [.int 0, .int 0, .int 0, .int 0, .int 0, .int 0, .int 0, .int 0, .int 0, .int 0, .int 0, .int 0]), .inr (9, [.int 0, .int 0, .int 0, .int 0, .int 0, .int 0, .int 0, .int 0, .int 0, .int 0, .int 0, .int 0]), .inl (gcy (xz x) 27, 2, .inr (.inr (.inr (.inr (va_up (fun _ => none) 0 (some (gad (xz x) (p + 11)))))))), .inr (6, [.ref (gad (xz x) (p + 12)), .ref (gad (xz x) (p + 13)), .ref (gad (xz x) (p + 14)), .ref (gad (xz x) (p + 15)), .long 0, .int 0, .long 0, .long 0, .long 0]), .inr (0, [.int 0, .int 0, .int 39, .int 23]), .inr (9, [.int 0, .int 0, .int 0, .int 0, .int 0, .int 0, .int 0, .int 0, .int 0, .int 0, .int 0, .int 0]), .inr (9, [.int 0, .int 0, .int 0, .int 0, .int 0, .int 0, .int 0, .int 0, .int 0, .int 0, .int 0, .int 0]), .inr (9, [.int 0, .int 0, .int 0, .int 0, .int 0, .int 0, .int 0, .int 0, .int 0, .int 0, .int 0, .int 0]), .inr (6, [.null, .null, .null, .null, .long 0, .int 0, .long 0, .long 0, .long 0])])) (a := p + 16) rfl inX6 tyX6_ok q_578 q_580 q_21 fr_X6 (by decide) (by decide) (by simp only [List.append_assoc, List.cons_append, List.nil_append]) (by simp [hp]) dX8_init_107 ?_
  refine d_cs (c2 := 16) (s2 := 151) rfl rfl ?_
  refine d_dup X dX8_init_110 rfl ?_
  refine d_call X (As := []) (n := 0) (host := RX10) (es1 := (pre ++ [.inr (8, [.ref (gad (xz x) (p + 1)), .ref (gad (xz x) (p + 5)), .null, .int 0]), .inl (gcy (xz x) 26, 3, .inr (.inr (.inr (.inr (va_up (va_up (va_up (fun _ => none) 0 (some (gad (xz x) (p + 2)))) 1 (some (gad (xz x) (p + 3)))) 2 (some (gad (xz x) (p + 4)))))))), .inr (9, [.int 0, .int 0, .int 0, .int 0, .int 0, .int 0, .int 0, .int 0, .int 0, .int 0, .int 0, .int 0]), .inr (9, [.int 0, .int 0, .int 0, .int 0, .int 0, .int 0, .int 0, .int 0, .int 0, .int 0, .int 0, .int 0]), .inr (9, [.int 0, .int 0, .int 0, .int 0, .int 0, .int 0, .int 0, .int 0, .int 0, .int 0, .int 0, .int 0]), .inl (gcy (xz x) 26, 4, .inr (.inr (.inr (.inr (va_up (va_up (va_up (va_up (fun _ => none) 0 (some (gad (xz x) (p + 6)))) 1 (some (gad (xz x) (p + 7)))) 2 (some (gad (xz x) (p + 8)))) 3 (some (gad (xz x) (p + 9)))))))), .inr (9, [.int 0, .int 0, .int 0, .int 0, .int 0, .int 0, .int 0, .int 0, .int 0, .int 0, .int 0, .int 0]), .inr (9, [.int 0, .int 0, .int 0, .int 0, .int 0, .int 0, .int 0, .int 0, .int 0, .int 0, .int 0, .int 0]), .inr (9, [.int 0, .int 0, .int 0, .int 0, .int 0, .int 0, .int 0, .int 0, .int 0, .int 0, .int 0, .int 0]), .inr (9, [.int 0, .int 0, .int 0, .int 0, .int 0, .int 0, .int 0, .int 0, .int 0, .int 0, .int 0, .int 0]), .inl (gcy (xz x) 27, 2, .inr (.inr (.inr (.inr (va_up (fun _ => none) 0 (some (gad (xz x) (p + 11)))))))), .inr (6, [.ref (gad (xz x) (p + 12)), .ref (gad (xz x) (p + 13)), .ref (gad (xz x) (p + 14)), .ref (gad (xz x) (p + 15)), .long 0, .int 0, .long 0, .long 0, .long 0]), .inr (0, [.int 0, .int 0, .int 39, .int 23]), .inr (9, [.int 0, .int 0, .int 0, .int 0, .int 0, .int 0, .int 0, .int 0, .int 0, .int 0, .int 0, .int 0]), .inr (9, [.int 0, .int 0, .int 0, .int 0, .int 0, .int 0, .int 0, .int 0, .int 0, .int 0, .int 0, .int 0]), .inr (9, [.int 0, .int 0, .int 0, .int 0, .int 0, .int 0, .int 0, .int 0, .int 0, .int 0, .int 0, .int 0])]) ++ [.inr (6, [.null, .null, .null, .null, .long 0, .int 0, .long 0, .long 0, .long 0])]) (by simp only [List.append_assoc, List.cons_append, List.nil_append]) (dm_X6_init (xl x) (xz x) (pre ++ [.inr (8, [.ref (gad (xz x) (p + 1)), .ref (gad (xz x) (p + 5)), .null, .int 0]), .inl (gcy (xz x) 26, 3, .inr (.inr (.inr (.inr (va_up (va_up (va_up (fun _ => none) 0 (some (gad (xz x) (p + 2)))) 1 (some (gad (xz x) (p + 3)))) 2 (some (gad (xz x) (p + 4)))))))), .inr (9, [.int 0, .int 0, .int 0, .int 0, .int 0, .int 0, .int 0, .int 0, .int 0, .int 0, .int 0, .int 0]), .inr (9, [.int 0, .int 0, .int 0, .int 0, .int 0, .int 0, .int 0, .int 0, .int 0, .int 0, .int 0, .int 0]), .inr (9, [.int 0, .int 0, .int 0, .int 0, .int 0, .int 0, .int 0, .int 0, .int 0, .int 0, .int 0, .int 0]), .inl (gcy (xz x) 26, 4, .inr (.inr (.inr (.inr (va_up (va_up (va_up (va_up (fun _ => none) 0 (some (gad (xz x) (p + 6)))) 1 (some (gad (xz x) (p + 7)))) 2 (some (gad (xz x) (p + 8)))) 3 (some (gad (xz x) (p + 9)))))))), .inr (9, [.int 0, .int 0, .int 0, .int 0, .int 0, .int 0, .int 0, .int 0, .int 0, .int 0, .int 0, .int 0]), .inr (9, [.int 0, .int 0, .int 0, .int 0, .int 0, .int 0, .int 0, .int 0, .int 0, .int 0, .int 0, .int 0]), .inr (9, [.int 0, .int 0, .int 0, .int 0, .int 0, .int 0, .int 0, .int 0, .int 0, .int 0, .int 0, .int 0]), .inr (9, [.int 0, .int 0, .int 0, .int 0, .int 0, .int 0, .int 0, .int 0, .int 0, .int 0, .int 0, .int 0]), .inl (gcy (xz x) 27, 2, .inr (.inr (.inr (.inr (va_up (fun _ => none) 0 (some (gad (xz x) (p + 11)))))))), .inr (6, [.ref (gad (xz x) (p + 12)), .ref (gad (xz x) (p + 13)), .ref (gad (xz x) (p + 14)), .ref (gad (xz x) (p + 15)), .long 0, .int 0, .long 0, .long 0, .long 0]), .inr (0, [.int 0, .int 0, .int 39, .int 23]), .inr (9, [.int 0, .int 0, .int 0, .int 0, .int 0, .int 0, .int 0, .int 0, .int 0, .int 0, .int 0, .int 0]), .inr (9, [.int 0, .int 0, .int 0, .int 0, .int 0, .int 0, .int 0, .int 0, .int 0, .int 0, .int 0, .int 0]), .inr (9, [.int 0, .int 0, .int 0, .int 0, .int 0, .int 0, .int 0, .int 0, .int 0, .int 0, .int 0, .int 0])]) (p + 16) (by simp [hp])) (Or.inr (fun h => h.2.2.2.1)) rfl q_582 q_21 q_583 (by decide +kernel) rfl (by decide) (by decide) (by decide) (by decide) (Nat.le_of_ble_eq_true rfl) dX8_init_111 ?_
  refine d_es (es2 := (pre ++ [.inr (8, [.ref (gad (xz x) (p + 1)), .ref (gad (xz x) (p + 5)), .null, .int 0]), .inl (gcy (xz x) 26, 3, .inr (.inr (.inr (.inr (va_up (va_up (va_up (fun _ => none) 0 (some (gad (xz x) (p + 2)))) 1 (some (gad (xz x) (p + 3)))) 2 (some (gad (xz x) (p + 4)))))))), .inr (9, [.int 0, .int 0, .int 0, .int 0, .int 0, .int 0, .int 0, .int 0, .int 0, .int 0, .int 0, .int 0]), .inr (9, [.int 0, .int 0, .int 0, .int 0, .int 0, .int 0, .int 0, .int 0, .int 0, .int 0, .int 0, .int 0]), .inr (9, [.int 0, .int 0, .int 0, .int 0, .int 0, .int 0, .int 0, .int 0, .int 0, .int 0, .int 0, .int 0]), .inl (gcy (xz x) 26, 4, .inr (.inr (.inr (.inr (va_up (va_up (va_up (va_up (fun _ => none) 0 (some (gad (xz x) (p + 6)))) 1 (some (gad (xz x) (p + 7)))) 2 (some (gad (xz x) (p + 8)))) 3 (some (gad (xz x) (p + 9)))))))), .inr (9, [.int 0, .int 0, .int 0, .int 0, .int 0, .int 0, .int 0, .int 0, .int 0, .int 0, .int 0, .int 0]), .inr (9, [.int 0, .int 0, .int 0, .int 0, .int 0, .int 0, .int 0, .int 0, .int 0, .int 0, .int 0, .int 0]), .inr (9, [.int 0, .int 0, .int 0, .int 0, .int 0, .int 0, .int 0, .int 0, .int 0, .int 0, .int 0, .int 0]), .inr (9, [.int 0, .int 0, .int 0, .int 0, .int 0, .int 0, .int 0, .int 0, .int 0, .int 0, .int 0, .int 0]), .inl (gcy (xz x) 27, 2, .inr (.inr (.inr (.inr (va_up (fun _ => none) 0 (some (gad (xz x) (p + 11)))))))), .inr (6, [.ref (gad (xz x) (p + 12)), .ref (gad (xz x) (p + 13)), .ref (gad (xz x) (p + 14)), .ref (gad (xz x) (p + 15)), .long 0, .int 0, .long 0, .long 0, .long 0]), .inr (0, [.int 0, .int 0, .int 39, .int 23]), .inr (9, [.int 0, .int 0, .int 0, .int 0, .int 0, .int 0, .int 0, .int 0, .int 0, .int 0, .int 0, .int 0]), .inr (9, [.int 0, .int 0, .int 0, .int 0, .int 0, .int 0, .int 0, .int 0, .int 0, .int 0, .int 0, .int 0]), .inr (9, [.int 0, .int 0, .int 0, .int 0, .int 0, .int 0, .int 0, .int 0, .int 0, .int 0, .int 0, .int 0]), .inr (6, [.ref (gad (xz x) (p + 17)), .ref (gad (xz x) (p + 18)), .ref (gad (xz x) (p + 19)), .ref (gad (xz x) (p + 20)), .long 0, .int 0, .long 0, .long 0, .long 0]), .inr (0, [.int 0, .int 0, .int 39, .int 23]), .inr (9, [.int 0, .int 0, .int 0, .int 0, .int 0, .int 0, .int 0, .int 0, .int 0, .int 0, .int 0, .int 0]), .inr (9, [.int 0, .int 0, .int 0, .int 0, .int 0, .int 0, .int 0, .int 0, .int 0, .int 0, .int 0, .int 0]), .inr (9, [.int 0, .int 0, .int 0, .int 0, .int 0, .int 0, .int 0, .int 0, .int 0, .int 0, .int 0, .int 0])])) (by simp only [List.append_assoc, List.cons_append, List.nil_append, Nat.add_assoc, Nat.reduceAdd]) ?_
  refine d_cs (c2 := 20) (s2 := 191) rfl rfl ?_
  refine d_aast X (tag := 27) (f2 := va_up (va_up (fun _ => none) 0 (some (gad (xz x) (p + 11)))) 1 (some (gad (xz x) (p + 16)))) (es2 := (pre ++ [.inr (8, [.ref (gad (xz x) (p + 1)), .ref (gad (xz x) (p + 5)), .null, .int 0]), .inl (gcy (xz x) 26, 3, .inr (.inr (.inr (.inr (va_up (va_up (va_up (fun _ => none) 0 (some (gad (xz x) (p + 2)))) 1 (some (gad (xz x) (p + 3)))) 2 (some (gad (xz x) (p + 4)))))))), .inr (9, [.int 0, .int 0, .int 0, .int 0, .int 0, .int 0, .int 0, .int 0, .int 0, .int 0, .int 0, .int 0]), .inr (9, [.int 0, .int 0, .int 0, .int 0, .int 0, .int 0, .int 0, .int 0, .int 0, .int 0, .int 0, .int 0]), .inr (9, [.int 0, .int 0, .int 0, .int 0, .int 0, .int 0, .int 0, .int 0, .int 0, .int 0, .int 0, .int 0]), .inl (gcy (xz x) 26, 4, .inr (.inr (.inr (.inr (va_up (va_up (va_up (va_up (fun _ => none) 0 (some (gad (xz x) (p + 6)))) 1 (some (gad (xz x) (p + 7)))) 2 (some (gad (xz x) (p + 8)))) 3 (some (gad (xz x) (p + 9)))))))), .inr (9, [.int 0, .int 0, .int 0, .int 0, .int 0, .int 0, .int 0, .int 0, .int 0, .int 0, .int 0, .int 0]), .inr (9, [.int 0, .int 0, .int 0, .int 0, .int 0, .int 0, .int 0, .int 0, .int 0, .int 0, .int 0, .int 0]), .inr (9, [.int 0, .int 0, .int 0, .int 0, .int 0, .int 0, .int 0, .int 0, .int 0, .int 0, .int 0, .int 0]), .inr (9, [.int 0, .int 0, .int 0, .int 0, .int 0, .int 0, .int 0, .int 0, .int 0, .int 0, .int 0, .int 0]), .inl (gcy (xz x) 27, 2, .inr (.inr (.inr (.inr (va_up (va_up (fun _ => none) 0 (some (gad (xz x) (p + 11)))) 1 (some (gad (xz x) (p + 16)))))))), .inr (6, [.ref (gad (xz x) (p + 12)), .ref (gad (xz x) (p + 13)), .ref (gad (xz x) (p + 14)), .ref (gad (xz x) (p + 15)), .long 0, .int 0, .long 0, .long 0, .long 0]), .inr (0, [.int 0, .int 0, .int 39, .int 23]), .inr (9, [.int 0, .int 0, .int 0, .int 0, .int 0, .int 0, .int 0, .int 0, .int 0, .int 0, .int 0, .int 0]), .inr (9, [.int 0, .int 0, .int 0, .int 0, .int 0, .int 0, .int 0, .int 0, .int 0, .int 0, .int 0, .int 0]), .inr (9, [.int 0, .int 0, .int 0, .int 0, .int 0, .int 0, .int 0, .int 0, .int 0, .int 0, .int 0, .int 0]), .inr (6, [.ref (gad (xz x) (p + 17)), .ref (gad (xz x) (p + 18)), .ref (gad (xz x) (p + 19)), .ref (gad (xz x) (p + 20)), .long 0, .int 0, .long 0, .long 0, .long 0]), .inr (0, [.int 0, .int 0, .int 39, .int 23]), .inr (9, [.int 0, .int 0, .int 0, .int 0, .int 0, .int 0, .int 0, .int 0, .int 0, .int 0, .int 0, .int 0]), .inr (9, [.int 0, .int 0, .int 0, .int 0, .int 0, .int 0, .int 0, .int 0, .int 0, .int 0, .int 0, .int 0]), .inr (9, [.int 0, .int 0, .int 0, .int 0, .int 0, .int 0, .int 0, .int 0, .int 0, .int 0, .int 0, .int 0])])) rfl (dg hp 10 rfl) (dg hp 16 rfl) rfl (by decide +kernel) (by rw [show Int32.toNatClampNeg 1 = 1 by decide +kernel]) (ds hp 10 rfl) dX8_init_114 ?_
  refine d_put X (k := 2) (es2 := (pre ++ [.inr (8, [.ref (gad (xz x) (p + 1)), .ref (gad (xz x) (p + 5)), .ref (gad (xz x) (p + 10)), .int 0]), .inl (gcy (xz x) 26, 3, .inr (.inr (.inr (.inr (va_up (va_up (va_up (fun _ => none) 0 (some (gad (xz x) (p + 2)))) 1 (some (gad (xz x) (p + 3)))) 2 (some (gad (xz x) (p + 4)))))))), .inr (9, [.int 0, .int 0, .int 0, .int 0, .int 0, .int 0, .int 0, .int 0, .int 0, .int 0, .int 0, .int 0]), .inr (9, [.int 0, .int 0, .int 0, .int 0, .int 0, .int 0, .int 0, .int 0, .int 0, .int 0, .int 0, .int 0]), .inr (9, [.int 0, .int 0, .int 0, .int 0, .int 0, .int 0, .int 0, .int 0, .int 0, .int 0, .int 0, .int 0]), .inl (gcy (xz x) 26, 4, .inr (.inr (.inr (.inr (va_up (va_up (va_up (va_up (fun _ => none) 0 (some (gad (xz x) (p + 6)))) 1 (some (gad (xz x) (p + 7)))) 2 (some (gad (xz x) (p + 8)))) 3 (some (gad (xz x) (p + 9)))))))), .inr (9, [.int 0, .int 0, .int 0, .int 0, .int 0, .int 0, .int 0, .int 0, .int 0, .int 0, .int 0, .int 0]), .inr (9, [.int 0, .int 0, .int 0, .int 0, .int 0, .int 0, .int 0, .int 0, .int 0, .int 0, .int 0, .int 0]), .inr (9, [.int 0, .int 0, .int 0, .int 0, .int 0, .int 0, .int 0, .int 0, .int 0, .int 0, .int 0, .int 0]), .inr (9, [.int 0, .int 0, .int 0, .int 0, .int 0, .int 0, .int 0, .int 0, .int 0, .int 0, .int 0, .int 0]), .inl (gcy (xz x) 27, 2, .inr (.inr (.inr (.inr (va_up (va_up (fun _ => none) 0 (some (gad (xz x) (p + 11)))) 1 (some (gad (xz x) (p + 16)))))))), .inr (6, [.ref (gad (xz x) (p + 12)), .ref (gad (xz x) (p + 13)), .ref (gad (xz x) (p + 14)), .ref (gad (xz x) (p + 15)), .long 0, .int 0, .long 0, .long 0, .long 0]), .inr (0, [.int 0, .int 0, .int 39, .int 23]), .inr (9, [.int 0, .int 0, .int 0, .int 0, .int 0, .int 0, .int 0, .int 0, .int 0, .int 0, .int 0, .int 0]), .inr (9, [.int 0, .int 0, .int 0, .int 0, .int 0, .int 0, .int 0, .int 0, .int 0, .int 0, .int 0, .int 0]), .inr (9, [.int 0, .int 0, .int 0, .int 0, .int 0, .int 0, .int 0, .int 0, .int 0, .int 0, .int 0, .int 0]), .inr (6, [.ref (gad (xz x) (p + 17)), .ref (gad (xz x) (p + 18)), .ref (gad (xz x) (p + 19)), .ref (gad (xz x) (p + 20)), .long 0, .int 0, .long 0, .long 0, .long 0]), .inr (0, [.int 0, .int 0, .int 39, .int 23]), .inr (9, [.int 0, .int 0, .int 0, .int 0, .int 0, .int 0, .int 0, .int 0, .int 0, .int 0, .int 0, .int 0]), .inr (9, [.int 0, .int 0, .int 0, .int 0, .int 0, .int 0, .int 0, .int 0, .int 0, .int 0, .int 0, .int 0]), .inr (9, [.int 0, .int 0, .int 0, .int 0, .int 0, .int 0, .int 0, .int 0, .int 0, .int 0, .int 0, .int 0])])) (dg hp 0 rfl) (ds hp 0 rfl) rfl inX8 tyX8_ok nmX8 (by decide) q_653 rfl (Or.inr ⟨rfl, hin, rfl⟩) (tyX8_ok 2 (by decide)) rfl rfl (Nat.le_of_ble_eq_true rfl) dX8_init_115 ?_
  exact hR _ _ dX8_init_118
theorem dX7_init_0 : decode cX7_init 0 = .ok (.aload_n 0, 1) := by decide +kernel
theorem dX7_init_1 : decode cX7_init 1 = .ok (.invokespecial 3, 3) := by decide +kernel
theorem dX7_init_4 : decode cX7_init 4 = .ok (.aload_n 0, 1) := by decide +kernel
theorem dX7_init_5 : decode cX7_init 5 = .ok (.sipush 960, 3) := by decide +kernel
theorem dX7_init_8 : decode cX7_init 8 = .ok (.newarray .int, 2) := by decide +kernel
theorem dX7_init_10 : decode cX7_init 10 = .ok (.putfield 9, 3) := by decide +kernel
theorem dX7_init_13 : decode cX7_init 13 = .ok (.aload_n 0, 1) := by decide +kernel
theorem dX7_init_14 : decode cX7_init 14 = .ok (.sipush 960, 3) := by decide +kernel
theorem dX7_init_17 : decode cX7_init 17 = .ok (.newarray .int, 2) := by decide +kernel
theorem dX7_init_19 : decode cX7_init 19 = .ok (.putfield 15, 3) := by decide +kernel
theorem dX7_init_22 : decode cX7_init 22 = .ok (.aload_n 0, 1) := by decide +kernel
theorem dX7_init_23 : decode cX7_init 23 = .ok (.sipush 960, 3) := by decide +kernel
theorem dX7_init_26 : decode cX7_init 26 = .ok (.newarray .int, 2) := by decide +kernel
theorem dX7_init_28 : decode cX7_init 28 = .ok (.putfield 18, 3) := by decide +kernel
theorem dX7_init_31 : decode cX7_init 31 = .ok (.iconst 0, 1) := by decide +kernel
theorem dX7_init_32 : decode cX7_init 32 = .ok (.istore_n 1, 1) := by decide +kernel
theorem dX7_init_33 : decode cX7_init 33 = .ok (.iload_n 1, 1) := by decide +kernel
theorem dX7_init_34 : decode cX7_init 34 = .ok (.sipush 960, 3) := by decide +kernel
theorem dX7_init_37 : decode cX7_init 37 = .ok (.if_icmp .ge 24, 3) := by decide +kernel
theorem dX7_init_40 : decode cX7_init 40 = .ok (.aload_n 0, 1) := by decide +kernel
theorem dX7_init_41 : decode cX7_init 41 = .ok (.getfield 15, 3) := by decide +kernel
theorem dX7_init_44 : decode cX7_init 44 = .ok (.iload_n 1, 1) := by decide +kernel
theorem dX7_init_45 : decode cX7_init 45 = .ok (.ldc 21, 2) := by decide +kernel
theorem dX7_init_47 : decode cX7_init 47 = .ok (.iastore, 1) := by decide +kernel
theorem dX7_init_48 : decode cX7_init 48 = .ok (.aload_n 0, 1) := by decide +kernel
theorem dX7_init_49 : decode cX7_init 49 = .ok (.getfield 18, 3) := by decide +kernel
theorem dX7_init_52 : decode cX7_init 52 = .ok (.iload_n 1, 1) := by decide +kernel
theorem dX7_init_53 : decode cX7_init 53 = .ok (.iconst (-1), 1) := by decide +kernel
theorem dX7_init_54 : decode cX7_init 54 = .ok (.iastore, 1) := by decide +kernel
theorem dX7_init_55 : decode cX7_init 55 = .ok (.iinc 1 1, 3) := by decide +kernel
theorem dX7_init_58 : decode cX7_init 58 = .ok (.goto (-25), 3) := by decide +kernel
theorem dX7_init_61 : decode cX7_init 61 = .ok (.return_, 1) := by decide +kernel
theorem upd_lt (i : Nat) (v : Int32) (hi : i < 2 ^ 31) : upd (fun j => if j < i then v else 0) (nI i).toNatClampNeg v = fun j => if j < i + 1 then v else 0 := by
  funext j
  rw [nI_clamp hi]
  unfold upd
  by_cases h : j = i
  · subst h; simp
  · by_cases h2 : j < i
    · simp [h, h2, Nat.lt_succ_of_lt h2]
    · simp [h, h2, show ¬ j < i + 1 by omega]
set_option maxHeartbeats 4000000 in
set_option maxRecDepth 100000 in
theorem lp_screen {x : GX} (X : DC x cX7_init 2 RX7 1 3 2880) {pre : List va_E} {p : Nat} (hp : pre.length = p) (hE : WD x 3 2880 (pre ++ [.inr (7, [.ref (gad (xz x) (p + 1)), .ref (gad (xz x) (p + 2)), .ref (gad (xz x) (p + 3))]), .inl (gcy (xz x) 20, 960, .inl (fun _ => 0)), .inl (gcy (xz x) 20, 960, .inl (fun j => if j < 960 then 65535 else 0)), .inl (gcy (xz x) 20, 960, .inl (fun j => if j < 960 then (-1) else 0))]) [] 61 []) : ∀ (k i : Nat), i + k = 960 → WD x 3 2880 (pre ++ [.inr (7, [.ref (gad (xz x) (p + 1)), .ref (gad (xz x) (p + 2)), .ref (gad (xz x) (p + 3))]), .inl (gcy (xz x) 20, 960, .inl (fun _ => 0)), .inl (gcy (xz x) 20, 960, .inl (fun j => if j < i then 65535 else 0)), .inl (gcy (xz x) 20, 960, .inl (fun j => if j < i then (-1) else 0))]) [(1, .int (nI i)), (0, .ref (gad (xz x) (p + 0)))] 33 [] := by
  intro k
  induction k with
  | zero =>
    intro i hi
    have hi : i = 960 := by omega
    subst hi
    refine d_iload_n X (j := 0) dX7_init_33 rfl rfl ?_
    refine d_sipush X (v := 960) dX7_init_34 (by decide) ?_
    refine d_icmp_ge X (tgt := 61) dX7_init_37 (by decide) (fun _ => ?_) (fun h => absurd (by decide +kernel) h)
    exact d_lv [] rfl hE
  | succ k ih =>
    intro i hi
    have hlt : i < 960 := by omega
    have h31 : i < 2 ^ 31 := by omega
    refine d_iload_n X (j := 0) dX7_init_33 rfl rfl ?_
    refine d_sipush X (v := 960) dX7_init_34 (by decide) ?_
    refine d_icmp_ge X (tgt := 61) dX7_init_37 (by decide) (fun h => absurd h (nI_ge (b := 960) hlt (by omega))) (fun _ => ?_)
    refine d_aload_n X (j := 1) dX7_init_40 rfl rfl ?_
    refine d_get X (k := 1) (dg hp 0 rfl) rfl inX7 (by decide) q_674 rfl rfl dX7_init_41 ?_
    refine d_iload_n X (j := 0) dX7_init_44 rfl rfl ?_
    refine d_ldc X q_336 dX7_init_45 ?_
    refine d_iast X (es2 := (pre ++ [.inr (7, [.ref (gad (xz x) (p + 1)), .ref (gad (xz x) (p + 2)), .ref (gad (xz x) (p + 3))]), .inl (gcy (xz x) 20, 960, .inl (fun _ => 0)), .inl (gcy (xz x) 20, 960, .inl (fun j => if j < i + 1 then 65535 else 0)), .inl (gcy (xz x) 20, 960, .inl (fun j => if j < i then (-1) else 0))])) (dg hp 2 rfl) (by unfold gIn; rw [nI_clamp h31]; simp [nI_pos h31]; omega) (upd_lt i 65535 h31) (ds hp 2 rfl) dX7_init_47 ?_
    refine d_aload_n X (j := 1) dX7_init_48 rfl rfl ?_
    refine d_get X (k := 2) (dg hp 0 rfl) rfl inX7 (by decide) q_676 rfl rfl dX7_init_49 ?_
    refine d_iload_n X (j := 0) dX7_init_52 rfl rfl ?_
    refine d_iconst X (v := (-1)) dX7_init_53 (by decide) ?_
    refine d_iast X (es2 := (pre ++ [.inr (7, [.ref (gad (xz x) (p + 1)), .ref (gad (xz x) (p + 2)), .ref (gad (xz x) (p + 3))]), .inl (gcy (xz x) 20, 960, .inl (fun _ => 0)), .inl (gcy (xz x) 20, 960, .inl (fun j => if j < i + 1 then 65535 else 0)), .inl (gcy (xz x) 20, 960, .inl (fun j => if j < i + 1 then (-1) else 0))])) (dg hp 3 rfl) (by unfold gIn; rw [nI_clamp h31]; simp [nI_pos h31]; omega) (upd_lt i (-1) h31) (ds hp 3 rfl) dX7_init_54 ?_
    refine d_iinc X (j := 0) (w := nI (i + 1)) (lv' := [(1, .int (nI (i + 1))), (0, .ref (gad (xz x) (p + 0)))]) dX7_init_55 rfl (by rw [show Int32.ofInt 1 = 1 by decide +kernel]; exact nI_1 i) (by decide) rfl ?_
    refine d_goto X (tgt := 33) dX7_init_58 (by decide) ?_
    exact ih (i + 1) (by omega)
set_option maxHeartbeats 4000000 in
set_option maxRecDepth 100000 in
theorem dm_X7_init (l : Launch) (z : GZ) (pre : List va_E) (p : Nat) (hp : pre.length = p) : dMet l z yX7_init cX7_init 2 1 [.ref (gad z (p + 0))] (pre ++ [.inr (7, [.null, .null, .null])]) (pre ++ [.inr (7, [.ref (gad z (p + 1)), .ref (gad z (p + 2)), .ref (gad z (p + 3))]), .inl (gcy z 20, 960, .inl (fun _ => 0)), .inl (gcy z 20, 960, .inl (fun j => if j < 960 then 65535 else 0)), .inl (gcy z 20, 960, .inl (fun j => if j < 960 then (-1) else 0))]) 3 2880 := by
  refine dMet_of (by decide +kernel) (Nat.le_of_ble_eq_true rfl) (fun x X ez el hnm hR => ?_)
  subst ez; subst el
  have hin : (xmeth x).name = "<init>" := hnm
  show WD x 0 0 (pre ++ [.inr (7, [.null, .null, .null])]) [(0, .ref (gad (xz x) (p + 0)))] 0 []
  refine d_aload_n X (j := 0) dX7_init_0 rfl rfl ?_
  refine d_objInit X (by decide) (Nat.le_of_ble_eq_true rfl) q_671 q_75 q_obj dX7_init_1 ?_
  refine d_aload_n X (j := 0) dX7_init_4 rfl rfl ?_
  refine d_sipush X (v := 960) dX7_init_5 (by decide) ?_
  refine d_newarr X (tag := 20) (atype := .int) (ty := .int) (a0 := (960, .inl (fun _ => 0))) (N := 960) (es2 := (pre ++ [.inr (7, [.null, .null, .null]), .inl (gcy (xz x) 20, 960, .inl (fun _ => 0))])) (a := p + 1) rfl rfl (fun h => h) q_ac20 (by rfl) (by decide) (by decide +kernel) (Nat.le_of_ble_eq_true rfl) (by decide) (by decide) (by simp only [List.append_assoc, List.cons_append, List.nil_append]) (by simp [hp]) dX7_init_8 ?_
  refine d_cs (c2 := 1) (s2 := 960) rfl rfl ?_
  refine d_put X (k := 0) (es2 := (pre ++ [.inr (7, [.ref (gad (xz x) (p + 1)), .null, .null]), .inl (gcy (xz x) 20, 960, .inl (fun _ => 0))])) (dg hp 0 rfl) (ds hp 0 rfl) rfl inX7 tyX7_ok nmX7 (by decide) q_672 rfl (Or.inr ⟨rfl, hin, rfl⟩) (tyX7_ok 0 (by decide)) rfl rfl (Nat.le_of_ble_eq_true rfl) dX7_init_10 ?_
  refine d_aload_n X (j := 0) dX7_init_13 rfl rfl ?_
  refine d_sipush X (v := 960) dX7_init_14 (by decide) ?_
  refine d_newarr X (tag := 20) (atype := .int) (ty := .int) (a0 := (960, .inl (fun _ => 0))) (N := 960) (es2 := (pre ++ [.inr (7, [.ref (gad (xz x) (p + 1)), .null, .null]), .inl (gcy (xz x) 20, 960, .inl (fun _ => 0)), .inl (gcy (xz x) 20, 960, .inl (fun _ => 0))])) (a := p + 2) rfl rfl (fun h => h) q_ac20 (by rfl) (by decide) (by decide +kernel) (Nat.le_of_ble_eq_true rfl) (by decide) (by decide) (by simp only [List.append_assoc, List.cons_append, List.nil_append]) (by simp [hp]) dX7_init_17 ?_
  refine d_cs (c2 := 2) (s2 := 1920) rfl rfl ?_
  refine d_put X (k := 1) (es2 := (pre ++ [.inr (7, [.ref (gad (xz x) (p + 1)), .ref (gad (xz x) (p + 2)), .null]), .inl (gcy (xz x) 20, 960, .inl (fun _ => 0)), .inl (gcy (xz x) 20, 960, .inl (fun _ => 0))])) (dg hp 0 rfl) (ds hp 0 rfl) rfl inX7 tyX7_ok nmX7 (by decide) q_674 rfl (Or.inr ⟨rfl, hin, rfl⟩) (tyX7_ok 1 (by decide)) rfl rfl (Nat.le_of_ble_eq_true rfl) dX7_init_19 ?_
  refine d_aload_n X (j := 0) dX7_init_22 rfl rfl ?_
  refine d_sipush X (v := 960) dX7_init_23 (by decide) ?_
  refine d_newarr X (tag := 20) (atype := .int) (ty := .int) (a0 := (960, .inl (fun _ => 0))) (N := 960) (es2 := (pre ++ [.inr (7, [.ref (gad (xz x) (p + 1)), .ref (gad (xz x) (p + 2)), .null]), .inl (gcy (xz x) 20, 960, .inl (fun _ => 0)), .inl (gcy (xz x) 20, 960, .inl (fun _ => 0)), .inl (gcy (xz x) 20, 960, .inl (fun _ => 0))])) (a := p + 3) rfl rfl (fun h => h) q_ac20 (by rfl) (by decide) (by decide +kernel) (Nat.le_of_ble_eq_true rfl) (by decide) (by decide) (by simp only [List.append_assoc, List.cons_append, List.nil_append]) (by simp [hp]) dX7_init_26 ?_
  refine d_cs (c2 := 3) (s2 := 2880) rfl rfl ?_
  refine d_put X (k := 2) (es2 := (pre ++ [.inr (7, [.ref (gad (xz x) (p + 1)), .ref (gad (xz x) (p + 2)), .ref (gad (xz x) (p + 3))]), .inl (gcy (xz x) 20, 960, .inl (fun _ => 0)), .inl (gcy (xz x) 20, 960, .inl (fun _ => 0)), .inl (gcy (xz x) 20, 960, .inl (fun _ => 0))])) (dg hp 0 rfl) (ds hp 0 rfl) rfl inX7 tyX7_ok nmX7 (by decide) q_676 rfl (Or.inr ⟨rfl, hin, rfl⟩) (tyX7_ok 2 (by decide)) rfl rfl (Nat.le_of_ble_eq_true rfl) dX7_init_28 ?_
  refine d_iconst X (v := 0) dX7_init_31 (by decide) ?_
  refine d_istore_n X (lv' := [(1, .int 0), (0, .ref (gad (xz x) (p + 0)))]) dX7_init_32 rfl (by decide) rfl ?_
  refine d_es (es2 := (pre ++ [.inr (7, [.ref (gad (xz x) (p + 1)), .ref (gad (xz x) (p + 2)), .ref (gad (xz x) (p + 3))]), .inl (gcy (xz x) 20, 960, .inl (fun _ => 0)), .inl (gcy (xz x) 20, 960, .inl (fun j => if j < 0 then 65535 else 0)), .inl (gcy (xz x) 20, 960, .inl (fun j => if j < 0 then (-1) else 0))])) ?_ ?_
  · simp
  exact lp_screen X hp (hR _ _ dX7_init_61) 960 0 rfl
