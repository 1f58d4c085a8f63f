/-! PURE PART: the reference lays a piece -/
def tOK (P : PM) (t : V × V × V) : Prop := gv (sNear P) t.1 ∧ gv (sNear P) t.2.1 ∧ gv (sNear P) t.2.2 ∧ ¬ sFar (sFoc P) t.1 ∧ ¬ sFar (sFoc P) t.2.1 ∧ ¬ sFar (sFoc P) t.2.2 ∧ 0 < sArea (sFoc P) t
theorem sTu_flip (f : Int) (a b c : V) : sTu f a c (sX f b) (sY f b) = - sTu f a b (sX f c) (sY f c) := by
  unfold sTu sTurn
  generalize sX f a = x0; generalize sY f a = y0; generalize sX f b = x1; generalize sY f b = y1; generalize sX f c = x2; generalize sY f c = y2
  grind
theorem sPiece_ok {P : PM} {two : Int32} {a b c : V} {t : V × V × V} (ha : gv (sNear P) a) (hb : gv (sNear P) b) (hc : gv (sNear P) c) (h : sPiece (sFoc P) two a b c = some t) : tOK P t := by
  unfold sPiece at h
  split at h
  · cases h
  · rename_i hf
    split at h
    · cases h
    · split at h
      · rename_i h0 h1
        cases h
        exact ⟨ha, hb, hc, fun q => hf (Or.inl q), fun q => hf (Or.inr (Or.inl q)), fun q => hf (Or.inr (Or.inr q)), h1⟩
      · split at h
        · cases h
        · rename_i h0 h1 h2
          cases h
          refine ⟨ha, hc, hb, fun q => hf (Or.inl q), fun q => hf (Or.inr (Or.inr q)), fun q => hf (Or.inr (Or.inl q)), ?_⟩
          unfold sArea
          show 0 < sTu _ a c (sX _ b) (sY _ b)
          rw [sTu_flip]; omega
theorem sPcs_ok {P : PM} (hO : OK P) {p q : Nat} {t : V × V × V} (h : sPcs P p q = some t) : tOK P t := by
  unfold sPcs at h
  split at h
  · rename_i a b c e1 e2 e3
    exact sPiece_ok (sPane_at hO e1) (sPane_at hO e2) (sPane_at hO e3) h
  · cases h
theorem r_screenX {P : PM} {M : GM} {F o : Nat} {v : V} (hO : OK P) (hR : RV P M) (go : gN o = 8) (hv : ∀ k, k < 8 → (gI M o k).toInt = v k) (gvv : gv (sNear P) v) : ∃ w, f_X11_screenX F o M = some w ∧ w.toInt = sX (sFoc P) v := by
  have hf : 1 ≤ sFoc P ∧ sFoc P ≤ 500 := hO.2.2.1
  have hn : 1 ≤ sNear P ∧ sNear P ≤ 1000 := hO.2.1
  have rg := sX_rg hf hn.1 gvv
  have v2 := gvv.2
  have ef : gI M 122 4 = P 122 4 := hR.1 4 (by omega) (by omega)
  have fo : (gI M 122 4).toInt = sFoc P := by rw [ef]; rfl
  have s1 := a_mul64 (a_mul64 (show (16 : Int64).toInt = 16 from rfl) (a_64 fo) (by omega) (by omega)) (a_64 (hv 0 (by omega))) (by omega) (by omega)
  obtain ⟨w, w1, w2⟩ := a_down F M s1 (a_64 (hv 2 (by omega))) (by omega) (by omega) (by omega)
  refine ⟨320 + w, ?_, a_add64 (show (320 : Int64).toInt = 320 from rfl) w2 (by omega) (by omega)⟩
  simp (disch := omega) only [f_X11_screenX, go, w1, ↓bnd_d, grdT, bndOs, bndTr, bndTl, ↓reduceIte, n_in, n_cl, n_le, n_lt, n_eq, n_m, n_a, i_0, i_1, i_2, i_3, i_4, i_5, i_6, i_7, i_8, i_15, i_23, i_24, i_29, i_30, i_39, i_40, i_128, i_255, i_960, i_2048, gn_1, gn_2, gn_3, gn_5, gn_7, gn_11, gn_16, gn_40, gn_41, gn_115, gn_117, gn_119, gn_121, gn_123, gn_130, gn_135, gn_136, gn_137, gn_144, gn_149, gn_159, gn_160, gn_161, gn_28, gn_29, gn_30, gn_32, gn_33, gn_34, gn_36, gn_37, gn_38, gn_138, gn_139, gn_140, gn_141, gn_142, gn_143, gn_124, gn_125, gn_126, gn_127, gn_128, gn_129, gn_131, gn_132, gn_133, gn_134, gn_145, gn_146, gn_147, gn_148, gn_150, gn_151, gn_152, gn_157, gn_158, gn_153, gn_154, gn_155, gn_156, gr_1, gr_2, gr_3, gr_7, gr_11, gr_16, gr_123, gr_144, gr_149, Nat.reduceAdd, Nat.reduceMul, Nat.reduceDiv, Nat.reduceSub, Nat.reduceMod, Nat.reduceLeDiff, Nat.reduceEqDiff, Nat.add_zero, Nat.zero_add, Nat.mul_one, Nat.one_mul, Nat.mul_zero, Nat.reduceLT]
theorem r_screenY {P : PM} {M : GM} {F o : Nat} {v : V} (hO : OK P) (hR : RV P M) (go : gN o = 8) (hv : ∀ k, k < 8 → (gI M o k).toInt = v k) (gvv : gv (sNear P) v) : ∃ w, f_X11_screenY F o M = some w ∧ w.toInt = sY (sFoc P) v := by
  have hf : 1 ≤ sFoc P ∧ sFoc P ≤ 500 := hO.2.2.1
  have hn : 1 ≤ sNear P ∧ sNear P ≤ 1000 := hO.2.1
  have rg := sY_rg hf hn.1 gvv
  have v2 := gvv.2
  have ef : gI M 122 4 = P 122 4 := hR.1 4 (by omega) (by omega)
  have fo : (gI M 122 4).toInt = sFoc P := by rw [ef]; rfl
  have s1 := a_mul64 (a_mul64 (show (16 : Int64).toInt = 16 from rfl) (a_64 fo) (by omega) (by omega)) (a_64 (hv 1 (by omega))) (by omega) (by omega)
  obtain ⟨w, w1, w2⟩ := a_down F M s1 (a_64 (hv 2 (by omega))) (by omega) (by omega) (by omega)
  refine ⟨192 + w, ?_, a_add64 (show (192 : Int64).toInt = 192 from rfl) w2 (by omega) (by omega)⟩
  simp (disch := omega) only [f_X11_screenY, go, w1, ↓bnd_d, grdT, bndOs, bndTr, bndTl, ↓reduceIte, n_in, n_cl, n_le, n_lt, n_eq, n_m, n_a, i_0, i_1, i_2, i_3, i_4, i_5, i_6, i_7, i_8, i_15, i_23, i_24, i_29, i_30, i_39, i_40, i_128, i_255, i_960, i_2048, gn_1, gn_2, gn_3, gn_5, gn_7, gn_11, gn_16, gn_40, gn_41, gn_115, gn_117, gn_119, gn_121, gn_123, gn_130, gn_135, gn_136, gn_137, gn_144, gn_149, gn_159, gn_160, gn_161, gn_28, gn_29, gn_30, gn_32, gn_33, gn_34, gn_36, gn_37, gn_38, gn_138, gn_139, gn_140, gn_141, gn_142, gn_143, gn_124, gn_125, gn_126, gn_127, gn_128, gn_129, gn_131, gn_132, gn_133, gn_134, gn_145, gn_146, gn_147, gn_148, gn_150, gn_151, gn_152, gn_157, gn_158, gn_153, gn_154, gn_155, gn_156, gr_1, gr_2, gr_3, gr_7, gr_11, gr_16, gr_123, gr_144, gr_149, Nat.reduceAdd, Nat.reduceMul, Nat.reduceDiv, Nat.reduceSub, Nat.reduceMod, Nat.reduceLeDiff, Nat.reduceEqDiff, Nat.add_zero, Nat.zero_add, Nat.mul_one, Nat.one_mul, Nat.mul_zero, Nat.reduceLT]
theorem r_depthAt {P : PM} {M : GM} {F o : Nat} {v : V} (hO : OK P) (hR : RV P M) (go : gN o = 8) (hv : ∀ k, k < 8 → (gI M o k).toInt = v k) (gvv : gv (sNear P) v) : ∃ w, f_X11_depthAt F o M = some w ∧ w.toInt = sDp (sNear P) v := by
  have hn : 1 ≤ sNear P ∧ sNear P ≤ 1000 := hO.2.1
  have rg := sDp_rg hn.1 gvv
  have v2 := gvv.2
  have ef : gI M 122 3 = P 122 3 := hR.1 3 (by omega) (by omega)
  have fo : (gI M 122 3).toInt = sNear P := by rw [ef]; rfl
  have s0 := a_64 (hv 2 (by omega))
  have s1 := a_mul64 (show (65535 : Int64).toInt = 65535 from rfl) (a_64 fo) (by omega) (by omega)
  have s2 := a_div64 s1 s0 (by omega) (by omega)
  have nz : decide (¬ (gI M o 2).toInt64 = 0) = true := by
    rw [decide_eq_true_eq, a_eq64 s0 (show (0 : Int64).toInt = 0 from rfl)]; omega
  refine ⟨_, ?_, a_sub64 (show (65535 : Int64).toInt = 65535 from rfl) s2 (by omega) (by omega)⟩
  simp (disch := omega) only [f_X11_depthAt, go, nz, ↓bnd_d, grdT, bndOs, bndTr, bndTl, ↓reduceIte, n_in, n_cl, n_le, n_lt, n_eq, n_m, n_a, i_0, i_1, i_2, i_3, i_4, i_5, i_6, i_7, i_8, i_15, i_23, i_24, i_29, i_30, i_39, i_40, i_128, i_255, i_960, i_2048, gn_1, gn_2, gn_3, gn_5, gn_7, gn_11, gn_16, gn_40, gn_41, gn_115, gn_117, gn_119, gn_121, gn_123, gn_130, gn_135, gn_136, gn_137, gn_144, gn_149, gn_159, gn_160, gn_161, gn_28, gn_29, gn_30, gn_32, gn_33, gn_34, gn_36, gn_37, gn_38, gn_138, gn_139, gn_140, gn_141, gn_142, gn_143, gn_124, gn_125, gn_126, gn_127, gn_128, gn_129, gn_131, gn_132, gn_133, gn_134, gn_145, gn_146, gn_147, gn_148, gn_150, gn_151, gn_152, gn_157, gn_158, gn_153, gn_154, gn_155, gn_156, gr_1, gr_2, gr_3, gr_7, gr_11, gr_16, gr_123, gr_144, gr_149, Nat.reduceAdd, Nat.reduceMul, Nat.reduceDiv, Nat.reduceSub, Nat.reduceMod, Nat.reduceLeDiff, Nat.reduceEqDiff, Nat.add_zero, Nat.zero_add, Nat.mul_one, Nat.one_mul, Nat.mul_zero, Nat.reduceLT]
theorem r_weightOf {P : PM} {M : GM} {F o : Nat} {v : V} (hO : OK P) (go : gN o = 8) (hv : ∀ k, k < 8 → (gI M o k).toInt = v k) (gvv : gv (sNear P) v) : ∃ w, f_X11_weightOf F o M = some w ∧ w.toInt = sWt v := by
  have hn : 1 ≤ sNear P ∧ sNear P ≤ 1000 := hO.2.1
  have rg := sWt_rg hn.1 gvv
  have v2 := gvv.2
  have s0 := hv 2 (by omega)
  have s2 := a_div (show (65536 : Int32).toInt = 65536 from rfl) s0 (by omega) (by omega)
  have nz : decide (¬ (gI M o 2) = 0) = true := by
    rw [decide_eq_true_eq, a_eq s0 (show (0 : Int32).toInt = 0 from rfl)]; omega
  refine ⟨_, ?_, a_64 (a_add s2 (show (1 : Int32).toInt = 1 from rfl) (by omega) (by omega))⟩
  unfold f_X11_weightOf
  rw [go, grd_t (by decide), grd_t nz]
def rLay (P : PM) (M : GM) (k : Nat) (v : V) : Prop := (∀ j, j < 8 → (gI M (150 + k) j).toInt = v j) ∧ (gL M 153 k).toInt = sX (sFoc P) v ∧ (gL M 154 k).toInt = sY (sFoc P) v ∧ (gL M 155 k).toInt = sDp (sNear P) v ∧ (gL M 156 k).toInt = sWt v
theorem rLay.to {P : PM} {M M' : GM} {k : Nat} {v : V} (h : rLay P M k v) (hi : ∀ j, gI M' (150 + k) j = gI M (150 + k) j) (hl : ∀ g, 153 ≤ g → g ≤ 156 → gL M' g k = gL M g k) : rLay P M' k v :=
  ⟨fun j hj => by rw [hi]; exact h.1 j hj, by rw [hl 153 (by omega) (by omega)]; exact h.2.1, by rw [hl 154 (by omega) (by omega)]; exact h.2.2.1, by rw [hl 155 (by omega) (by omega)]; exact h.2.2.2.1, by rw [hl 156 (by omega) (by omega)]; exact h.2.2.2.2⟩
theorem r_lay {P : PM} {M : GM} {F k o : Nat} {v : V} (hO : OK P) (hR : RV P M) (hk : k < 3) (ho : 145 ≤ o ∧ o ≤ 148) (hv : ∀ j, j < 8 → (gI M o j).toInt = v j) (gvv : gv (sNear P) v) :
    ∃ M', f_X11_lay F (nI k) o M = some M' ∧ rLay P M' k v ∧ (∀ g j, g ≠ 150 + k → gI M' g j = gI M g j) ∧ (∀ g j, ¬ (153 ≤ g ∧ g ≤ 156 ∧ j = k) → gL M' g j = gL M g j) ∧ M'.2.2 = M.2.2 := by
  have go : gN o = 8 := by rcases (show o = 145 ∨ o = 146 ∨ o = 147 ∨ o = 148 by omega) with rfl | rfl | rfl | rfl <;> decide +kernel
  have ga : gN (150 + k) = 8 := by rcases (show k = 0 ∨ k = 1 ∨ k = 2 by omega) with rfl | rfl | rfl <;> decide +kernel
  generalize hM1 : sC M (150 + k) 0 8 (fun j => gI M o j) = M1
  have i1 : ∀ g j, g ≠ 150 + k → gI M1 g j = gI M g j := fun g j q => by rw [← hM1, gI_sC, if_neg (by omega)]
  have a1 : ∀ j, j < 8 → (gI M1 (150 + k) j).toInt = v j := fun j hj => by rw [← hM1, gI_sC, if_pos ⟨rfl, by omega, by omega⟩]; exact hv j hj
  have l1 : M1.2 = M.2 := by rw [← hM1]; rfl
  have hv1 : ∀ j, j < 8 → (gI M1 o j).toInt = v j := fun j hj => by rw [i1 o j (by omega)]; exact hv j hj
  have hR1 : RV P M1 := hR.to fun g j q => i1 g j (by omega)
  obtain ⟨x, x1, x2⟩ := r_screenX (F := F) hO hR1 go hv1 gvv
  obtain ⟨y, y1, y2⟩ := r_screenY (F := F) (M := sL M1 153 k x) hO (hR1.to fun g j q => rfl) go hv1 gvv
  obtain ⟨d, d1, d2⟩ := r_depthAt (F := F) (M := sL (sL M1 153 k x) 154 k y) hO (hR1.to fun g j q => rfl) go hv1 gvv
  obtain ⟨w, w1, w2⟩ := r_weightOf (F := F) (M := sL (sL (sL M1 153 k x) 154 k y) 155 k d) hO go hv1 gvv
  refine ⟨sL (sL (sL (sL M1 153 k x) 154 k y) 155 k d) 156 k w, ?_, ⟨a1, ?_, ?_, ?_, ?_⟩, fun g j q => i1 g j q, fun g j q => ?_, ?_⟩
  · simp (disch := omega) only [f_X11_lay, go, ga, Nat.le_refl, decide_true, hM1, x1, y1, d1, w1, ↓bnd_d, grdT, bndOs, bndTr, bndTl, ↓reduceIte, n_in, n_cl, n_le, n_lt, n_eq, n_m, n_a, i_0, i_1, i_2, i_3, i_4, i_5, i_6, i_7, i_8, i_15, i_23, i_24, i_29, i_30, i_39, i_40, i_128, i_255, i_960, i_2048, gn_1, gn_2, gn_3, gn_5, gn_7, gn_11, gn_16, gn_40, gn_41, gn_115, gn_117, gn_119, gn_121, gn_123, gn_130, gn_135, gn_136, gn_137, gn_144, gn_149, gn_159, gn_160, gn_161, gn_28, gn_29, gn_30, gn_32, gn_33, gn_34, gn_36, gn_37, gn_38, gn_138, gn_139, gn_140, gn_141, gn_142, gn_143, gn_124, gn_125, gn_126, gn_127, gn_128, gn_129, gn_131, gn_132, gn_133, gn_134, gn_145, gn_146, gn_147, gn_148, gn_150, gn_151, gn_152, gn_157, gn_158, gn_153, gn_154, gn_155, gn_156, gr_1, gr_2, gr_3, gr_7, gr_11, gr_16, gr_123, gr_144, gr_149, Nat.reduceAdd, Nat.reduceMul, Nat.reduceDiv, Nat.reduceSub, Nat.reduceMod, Nat.reduceLeDiff, Nat.reduceEqDiff, Nat.add_zero, Nat.zero_add, Nat.mul_one, Nat.one_mul, Nat.mul_zero, Nat.reduceLT]
  · simp only [gL_sL]; simp; exact x2
  · simp only [gL_sL]; simp; exact y2
  · simp only [gL_sL]; simp; exact d2
  · simp only [gL_sL]; simp; exact w2
  · rw [gL_sL, if_neg (by omega), gL_sL, if_neg (by omega), gL_sL, if_neg (by omega), gL_sL, if_neg (by omega)]
    show M1.2.1 g j = M.2.1 g j
    rw [l1]
  · show M1.2.2 = M.2.2
    rw [l1]
theorem r_isOff {w : Int64} {x : Int} (h : w.toInt = x) : f_X11_isOff w = if x < -30000 ∨ 30000 < x then 1 else 0 := by
  unfold f_X11_isOff
  have e1 : lg_cmp w (-30000) < 0 ↔ x < -30000 := by rw [lg_cmp_lt]; exact a_lt64 h (by decide)
  have e2 : lg_cmp w 30000 ≤ 0 ↔ x ≤ 30000 := by rw [lg_cmp_le]; exact a_le64 h (by decide)
  by_cases h1 : x < -30000
  · rw [if_pos (e1.mpr h1), if_pos (Or.inl h1)]
  · rw [if_neg (fun q => h1 (e1.mp q))]
    by_cases h2 : x ≤ 30000
    · rw [if_pos (e2.mpr h2), if_neg (by omega)]
    · rw [if_neg (fun q => h2 (e2.mp q)), if_pos (by omega)]
theorem a_turn64 {X0 Y0 X1 Y1 X Y : Int64} {x0 y0 x1 y1 x y : Int} (hx0 : X0.toInt = x0) (hy0 : Y0.toInt = y0) (hx1 : X1.toInt = x1) (hy1 : Y1.toInt = y1) (hx : X.toInt = x) (hy : Y.toInt = y)
    (b0 : -30000 ≤ x0 ∧ x0 ≤ 30000) (b1 : -30000 ≤ y0 ∧ y0 ≤ 30000) (b2 : -30000 ≤ x1 ∧ x1 ≤ 30000) (b3 : -30000 ≤ y1 ∧ y1 ≤ 30000) (b4 : -30000 ≤ x ∧ x ≤ 30000) (b5 : -30000 ≤ y ∧ y ≤ 30000) :
    ((X1 - X0) * (Y - Y0) - (Y1 - Y0) * (X - X0)).toInt = sTurn x0 y0 x1 y1 x y := by
  have m1 := a_mb (a := x1 - x0) (b := y - y0) (A := 60000) (B := 60000) (by omega) (by omega) (by omega) (by omega)
  have m2 := a_mb (a := y1 - y0) (b := x - x0) (A := 60000) (B := 60000) (by omega) (by omega) (by omega) (by omega)
  exact a_sub64 (a_mul64 (a_sub64 hx1 hx0 (by omega) (by omega)) (a_sub64 hy hy0 (by omega) (by omega)) (by omega) (by omega)) (a_mul64 (a_sub64 hy1 hy0 (by omega) (by omega)) (a_sub64 hx hx0 (by omega) (by omega)) (by omega) (by omega)) (by omega) (by omega)
theorem sTu_bd {f : Int} {a b : V} {x y : Int} (ha : ¬ sFar f a) (hb : ¬ sFar f b) (hx : -30000 ≤ x ∧ x ≤ 30000) (hy : -30000 ≤ y ∧ y ≤ 30000) : -7200000000 ≤ sTu f a b x y ∧ sTu f a b x y ≤ 7200000000 := by
  unfold sFar at ha hb
  have m1 := a_mb (a := sX f b - sX f a) (b := y - sY f a) (A := 60000) (B := 60000) (by omega) (by omega) (by omega) (by omega)
  have m2 := a_mb (a := sY f b - sY f a) (b := x - sX f a) (A := 60000) (B := 60000) (by omega) (by omega) (by omega) (by omega)
  unfold sTu sTurn
  omega
theorem r_turn {P : PM} {M : GM} {F i j : Nat} {a b : V} {X Y : Int64} {x y : Int} (hi : i < 3) (hj : j < 3) (ha : rLay P M i a) (hb : rLay P M j b) (na : ¬ sFar (sFoc P) a) (nb : ¬ sFar (sFoc P) b) (hX : X.toInt = x) (hY : Y.toInt = y)
    (bx : -30000 ≤ x ∧ x ≤ 30000) (byy : -30000 ≤ y ∧ y ≤ 30000) : ∃ w, f_X11_turn F (nI i) (nI j) X Y M = some w ∧ w.toInt = sTu (sFoc P) a b x y := by
  have na' := na
  have nb' := nb
  unfold sFar at na' nb'
  refine ⟨_, ?_, a_turn64 ha.2.1 ha.2.2.1 hb.2.1 hb.2.2.1 hX hY (by omega) (by omega) (by omega) (by omega) bx byy⟩
  simp (disch := omega) only [f_X11_turn, ↓bnd_d, grdT, bndOs, bndTr, bndTl, ↓reduceIte, n_in, n_cl, n_le, n_lt, n_eq, n_m, n_a, i_0, i_1, i_2, i_3, i_4, i_5, i_6, i_7, i_8, i_15, i_23, i_24, i_29, i_30, i_39, i_40, i_128, i_255, i_960, i_2048, gn_1, gn_2, gn_3, gn_5, gn_7, gn_11, gn_16, gn_40, gn_41, gn_115, gn_117, gn_119, gn_121, gn_123, gn_130, gn_135, gn_136, gn_137, gn_144, gn_149, gn_159, gn_160, gn_161, gn_28, gn_29, gn_30, gn_32, gn_33, gn_34, gn_36, gn_37, gn_38, gn_138, gn_139, gn_140, gn_141, gn_142, gn_143, gn_124, gn_125, gn_126, gn_127, gn_128, gn_129, gn_131, gn_132, gn_133, gn_134, gn_145, gn_146, gn_147, gn_148, gn_150, gn_151, gn_152, gn_157, gn_158, gn_153, gn_154, gn_155, gn_156, gr_1, gr_2, gr_3, gr_7, gr_11, gr_16, gr_123, gr_144, gr_149, Nat.reduceAdd, Nat.reduceMul, Nat.reduceDiv, Nat.reduceSub, Nat.reduceMod, Nat.reduceLeDiff, Nat.reduceEqDiff, Nat.add_zero, Nat.zero_add, Nat.mul_one, Nat.one_mul, Nat.mul_zero, Nat.reduceLT]
def rTri (P : PM) (M : GM) (t : V × V × V) : Prop := rLay P M 0 t.1 ∧ rLay P M 1 t.2.1 ∧ rLay P M 2 t.2.2 ∧ (gL M 122 33).toInt = sArea (sFoc P) t
/-- what layPiece may change -/
def lpS (g : Nat) : Prop := 150 ≤ g ∧ g ≤ 152
def lpL (g : Nat) : Prop := g = 122 ∨ (153 ≤ g ∧ g ≤ 156)
