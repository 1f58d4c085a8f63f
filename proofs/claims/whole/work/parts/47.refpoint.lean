/-! PURE PART: weights, means and colours; the reference at a point -/
theorem sW_sum (f : Int) (t : V × V × V) (x y : Int) : sWa f t x y + sWb f t x y + sWc f t x y = sArea f t := by
  unfold sWa sWb sWc sArea sTu sTurn
  generalize sX f t.1 = x0; generalize sY f t.1 = y0; generalize sX f t.2.1 = x1; generalize sY f t.2.1 = y1; generalize sX f t.2.2 = x2; generalize sY f t.2.2 = y2
  grind
theorem sArea_hi {P : PM} {t : V × V × V} (h : tOK P t) : sArea (sFoc P) t ≤ 7200000000 := by
  have h3 := h.2.2.2.2.2.1
  unfold sFar at h3
  exact (sTu_bd h.2.2.2.1 h.2.2.2.2.1 (by omega) (by omega)).2
theorem sIn_w {f : Int} {t : V × V × V} {x y : Int} (h : sIn f t x y) : 0 ≤ sWa f t x y ∧ 0 ≤ sWb f t x y ∧ 0 ≤ sWc f t x y := by
  obtain ⟨h1, h2, h3⟩ := h
  refine ⟨?_, ?_, ?_⟩
  · rcases h1 with h | h <;> omega
  · rcases h2 with h | h <;> omega
  · rcases h3 with h | h <;> omega
theorem mean_bd {a b c A B C L U s : Int} (ha : 0 ≤ a) (hb : 0 ≤ b) (hc : 0 ≤ c) (hs : a + b + c = s) (h0 : 0 < s) (hA : L ≤ A ∧ A ≤ U) (hB : L ≤ B ∧ B ≤ U) (hC : L ≤ C ∧ C ≤ U) :
    L * s ≤ a * A + b * B + c * C ∧ a * A + b * B + c * C ≤ U * s ∧ L ≤ (a * A + b * B + c * C) / s ∧ (a * A + b * B + c * C) / s ≤ U := by
  have a1 := Int.mul_le_mul_of_nonneg_left hA.1 ha
  have a2 := Int.mul_le_mul_of_nonneg_left hA.2 ha
  have b1 := Int.mul_le_mul_of_nonneg_left hB.1 hb
  have b2 := Int.mul_le_mul_of_nonneg_left hB.2 hb
  have c1 := Int.mul_le_mul_of_nonneg_left hC.1 hc
  have c2 := Int.mul_le_mul_of_nonneg_left hC.2 hc
  have e1 : a * L + b * L + c * L = L * s := by rw [← hs]; grind
  have e2 : a * U + b * U + c * U = U * s := by rw [← hs]; grind
  have k1 : L * s ≤ a * A + b * B + c * C := by omega
  have k2 : a * A + b * B + c * C ≤ U * s := by omega
  exact ⟨k1, k2, Int.le_ediv_of_mul_le h0 k1, Int.ediv_le_of_le_mul h0 k2⟩
theorem sMean_rg {P : PM} {t : V × V × V} {x y A B C L U : Int} (ht : tOK P t) (hi : sIn (sFoc P) t x y) (hA : L ≤ A ∧ A ≤ U) (hB : L ≤ B ∧ B ≤ U) (hC : L ≤ C ∧ C ≤ U) : L ≤ sMean (sFoc P) t x y A B C ∧ sMean (sFoc P) t x y A B C ≤ U := by
  obtain ⟨w1, w2, w3⟩ := sIn_w hi
  exact (mean_bd w1 w2 w3 (sW_sum _ _ _ _) ht.2.2.2.2.2.2 hA hB hC).2.2
theorem sDp_in {near : Int} {v : V} (hn : 1 ≤ near) (h : gv near v) : 0 ≤ sDp near v ∧ sDp near v ≤ 65535 := by
  have := sDp_rg hn h
  unfold sDp; omega
theorem sWt_in {near : Int} {v : V} (hn : 1 ≤ near) (h : gv near v) : 1 ≤ sWt v ∧ sWt v ≤ 65537 := by
  have := sWt_rg hn h
  unfold sWt; omega
theorem sDep_rg {P : PM} {t : V × V × V} {x y : Int} (hO : OK P) (ht : tOK P t) (hi : sIn (sFoc P) t x y) : 0 ≤ sDep P t x y ∧ sDep P t x y ≤ 65535 :=
  have hn : 1 ≤ sNear P := hO.2.1.1
  sMean_rg ht hi (sDp_in hn ht.1) (sDp_in hn ht.2.1) (sDp_in hn ht.2.2.1)
theorem sNum_rg {P : PM} {t : V × V × V} {x y : Int} {k : Nat} (ht : tOK P t) (hi : sIn (sFoc P) t x y) (h5 : 5 ≤ k) (h8 : k < 8) : 0 ≤ sNum P t x y k ∧ sNum P t x y k ≤ 255 :=
  sMean_rg ht hi (ht.1.1.2.2 k h5 h8) (ht.2.1.1.2.2 k h5 h8) (ht.2.2.1.1.2.2 k h5 h8)
/-- weights times the corners' weights -/
theorem sWw {P : PM} {t : V × V × V} {x y : Int} (hO : OK P) (ht : tOK P t) (hi : sIn (sFoc P) t x y) :
    (0 ≤ sWa (sFoc P) t x y * sWt t.1 ∧ sWa (sFoc P) t x y * sWt t.1 ≤ 471866400000000) ∧ (0 ≤ sWb (sFoc P) t x y * sWt t.2.1 ∧ sWb (sFoc P) t x y * sWt t.2.1 ≤ 471866400000000) ∧ (0 ≤ sWc (sFoc P) t x y * sWt t.2.2 ∧ sWc (sFoc P) t x y * sWt t.2.2 ≤ 471866400000000) ∧
    (0 < sWa (sFoc P) t x y * sWt t.1 + sWb (sFoc P) t x y * sWt t.2.1 + sWc (sFoc P) t x y * sWt t.2.2 ∧ sWa (sFoc P) t x y * sWt t.1 + sWb (sFoc P) t x y * sWt t.2.1 + sWc (sFoc P) t x y * sWt t.2.2 ≤ 471866400000000) := by
  have hn : 1 ≤ sNear P := hO.2.1.1
  obtain ⟨w1, w2, w3⟩ := sIn_w hi
  have hs := sW_sum (sFoc P) t x y
  have h0 := ht.2.2.2.2.2.2
  have hh := sArea_hi ht
  have A := sWt_in hn ht.1
  have B := sWt_in hn ht.2.1
  have C := sWt_in hn ht.2.2.1
  have a := a_mn (A := 7200000000) (B := 65537) w1 (by omega) (by omega) A.2
  have b := a_mn (A := 7200000000) (B := 65537) w2 (by omega) (by omega) B.2
  have c := a_mn (A := 7200000000) (B := 65537) w3 (by omega) (by omega) C.2
  have m := mean_bd w1 w2 w3 hs h0 A B C
  omega
theorem sWm_rg {P : PM} {t : V × V × V} {x y : Int} {k : Nat} (hO : OK P) (ht : tOK P t) (hi : sIn (sFoc P) t x y) (h5 : 3 ≤ k) (h8 : k < 5) : 0 ≤ sWm (sFoc P) t x y k ∧ sWm (sFoc P) t x y k ≤ 2047 := by
  obtain ⟨a, b, c, d⟩ := sWw hO ht hi
  exact (mean_bd a.1 b.1 c.1 rfl d.1 (ht.1.1.2.1 k h5 h8) (ht.2.1.1.2.1 k h5 h8) (ht.2.2.1.1.2.1 k h5 h8)).2.2
theorem sStep_rg {P : PM} {its : Nat} {a : Int} (h0 : 0 ≤ a) : 0 ≤ sStep P its a ∧ sStep P its a ≤ 7 := by
  unfold sStep
  split
  · omega
  · split <;> omega
theorem sTint_rg {P : PM} (hO : OK P) (its : Nat) (u v : Int) : 0 ≤ sTint P its u v ∧ sTint P its u v ≤ 16777215 := hO.2.2.2.2.2.2.2.2.2.2.2.2.1 _
theorem q255 {c r : Int} (h0 : 0 ≤ c) (h1 : c ≤ 255) (h2 : 0 ≤ r) (h3 : r ≤ 255) : 0 ≤ c * r ∧ c * r ≤ 65025 ∧ 0 ≤ c * r / 255 ∧ c * r / 255 ≤ 255 := by
  have := a_mn h0 h1 h2 h3
  omega
theorem sMix_rg {r g b : Int} (h0 : 0 ≤ r ∧ r ≤ 255) (h1 : 0 ≤ g ∧ g ≤ 255) (h2 : 0 ≤ b ∧ b ≤ 255) : 0 ≤ sMix r g b ∧ sMix r g b ≤ 16777215 := by
  unfold sMix; omega
theorem sCol_rg {P : PM} {t : V × V × V} {x y : Int} (hO : OK P) (ht : tOK P t) (hi : sIn (sFoc P) t x y) (i : Nat) : 0 ≤ sCol P i t x y ∧ sCol P i t x y ≤ 16777215 := by
  have r := sNum_rg ht hi (k := 5) (by omega) (by omega)
  have g := sNum_rg ht hi (k := 6) (by omega) (by omega)
  have b := sNum_rg ht hi (k := 7) (by omega) (by omega)
  unfold sCol
  simp only
  split
  · exact sMix_rg r g b
  · have c := sTint_rg hO (P 131 i).toNatClampNeg (sWm (sFoc P) t x y 3) (sWm (sFoc P) t x y 4)
    generalize sTint P (P 131 i).toNatClampNeg (sWm (sFoc P) t x y 3) (sWm (sFoc P) t x y 4) = c at *
    exact sMix_rg (q255 (by omega) (by omega) r.1 r.2).2.2 (q255 (by omega) (by omega) g.1 g.2).2.2 (q255 (by omega) (by omega) b.1 b.2).2.2
theorem sHalf_rg {c d : Int} (hc : 0 ≤ c ∧ c ≤ 16777215) (hd : 0 ≤ d ∧ d ≤ 16777215) : 0 ≤ sHalf c d ∧ sHalf c d ≤ 16777215 := by
  unfold sHalf
  exact sMix_rg (by omega) (by omega) (by omega)
def pxOK (p : Px) : Prop := 0 ≤ p.1.toInt ∧ p.1.toInt ≤ 16777215
theorem sPt_OK {P : PM} {t : V × V × V} {i k : Nat} {p : Px} (hO : OK P) (ht : tOK P t) (hp : pxOK p) : pxOK (sPt P i t k p) := by
  unfold sPt
  split
  · rename_i h
    have c := sCol_rg hO ht h.1 i
    split
    · show 0 ≤ (Int32.ofInt _).toInt ∧ (Int32.ofInt _).toInt ≤ _
      rw [a_ofI (by omega) (by omega)]; exact c
    · have d := sHalf_rg hp c
      show 0 ≤ (Int32.ofInt _).toInt ∧ (Int32.ofInt _).toInt ≤ _
      rw [a_ofI (by omega) (by omega)]; exact d
  · exact hp
theorem sPq_OK {P : PM} {i q k : Nat} {p : Px} (hO : OK P) (hp : pxOK p) : pxOK (sPq P i q k p) := by
  unfold sPq
  split
  · rename_i t h; exact sPt_OK hO (sPcs_ok hO h) hp
  · exact hp
theorem sPix_OK {P : PM} (hO : OK P) (wo : Int32) : ∀ i k, pxOK (sPix P wo i k) := by
  intro i
  induction i with
  | zero => intro k; exact hO.2.2.2.1
  | succ i ih =>
    intro k
    unfold sPix
    split
    · exact ih k
    · exact sPq_OK hO (sPq_OK hO (ih k))
/-- the reference, asked at a point -/
def rAt (P : PM) (M : GM) (t : V × V × V) (x y : Int) : Prop := rTri P M t ∧ (gL M 122 34).toInt = sWa (sFoc P) t x y ∧ (gL M 122 35).toInt = sWb (sFoc P) t x y ∧ (gL M 122 36).toInt = sWc (sFoc P) t x y
theorem r_counts {P : PM} {M : GM} {F i j : Nat} {a b : V} (hi : i < 3) (hj : j < 3) (ha : rLay P M i a) (hb : rLay P M j b) : f_X11_counts F (nI i) (nI j) M = some (if sCnt (sFoc P) a b then 1 else 0) := by
  have e1 : lg_cmp (gL M 154 j) (gL M 154 i) < nI 0 ↔ sY (sFoc P) b < sY (sFoc P) a := by rw [show nI 0 = 0 from rfl, lg_cmp_lt]; exact a_lt64 hb.2.2.1 ha.2.2.1
  have e2 : lg_cmp (gL M 154 j) (gL M 154 i) = nI 0 ↔ sY (sFoc P) b = sY (sFoc P) a := by rw [show nI 0 = 0 from rfl, lg_cmp_eq]; exact a_eq64 hb.2.2.1 ha.2.2.1
  have e3 : lg_cmp (gL M 153 j) (gL M 153 i) ≤ nI 0 ↔ sX (sFoc P) b ≤ sX (sFoc P) a := by rw [show nI 0 = 0 from rfl, lg_cmp_le]; exact a_le64 hb.2.1 ha.2.1
  by_cases h1 : sY (sFoc P) b < sY (sFoc P) a
  · simp (disch := omega) only [f_X11_counts, e1, h1, sCnt, true_or, ↓bnd_d, grdT, bndOs, bndTr, bndTl, ↓reduceIte, n_in, n_cl, n_le, n_lt, n_eq, n_m, n_a, i_0, i_1, i_2, i_3, i_4, i_5, i_6, i_7, i_8, i_15, i_23, i_24, i_29, i_30, i_39, i_40, i_128, i_255, i_960, i_2048, gn_1, gn_2, gn_3, gn_5, gn_7, gn_11, gn_16, gn_40, gn_41, gn_115, gn_117, gn_119, gn_121, gn_123, gn_130, gn_135, gn_136, gn_137, gn_144, gn_149, gn_159, gn_160, gn_161, gn_28, gn_29, gn_30, gn_32, gn_33, gn_34, gn_36, gn_37, gn_38, gn_138, gn_139, gn_140, gn_141, gn_142, gn_143, gn_124, gn_125, gn_126, gn_127, gn_128, gn_129, gn_131, gn_132, gn_133, gn_134, gn_145, gn_146, gn_147, gn_148, gn_150, gn_151, gn_152, gn_157, gn_158, gn_153, gn_154, gn_155, gn_156, gr_1, gr_2, gr_3, gr_7, gr_11, gr_16, gr_123, gr_144, gr_149, Nat.reduceAdd, Nat.reduceMul, Nat.reduceDiv, Nat.reduceSub, Nat.reduceMod, Nat.reduceLeDiff, Nat.reduceEqDiff, Nat.add_zero, Nat.zero_add, Nat.mul_one, Nat.one_mul, Nat.mul_zero, Nat.reduceLT]
  · by_cases h2 : sY (sFoc P) b = sY (sFoc P) a
    · by_cases h3 : sX (sFoc P) b ≤ sX (sFoc P) a
      · have h4 : ¬ sX (sFoc P) a < sX (sFoc P) b := by omega
        simp (disch := omega) only [f_X11_counts, e1, e2, e3, h1, h2, h3, h4, sCnt, false_or, and_false, Int.lt_irrefl, ↓bnd_d, grdT, bndOs, bndTr, bndTl, ↓reduceIte, n_in, n_cl, n_le, n_lt, n_eq, n_m, n_a, i_0, i_1, i_2, i_3, i_4, i_5, i_6, i_7, i_8, i_15, i_23, i_24, i_29, i_30, i_39, i_40, i_128, i_255, i_960, i_2048, gn_1, gn_2, gn_3, gn_5, gn_7, gn_11, gn_16, gn_40, gn_41, gn_115, gn_117, gn_119, gn_121, gn_123, gn_130, gn_135, gn_136, gn_137, gn_144, gn_149, gn_159, gn_160, gn_161, gn_28, gn_29, gn_30, gn_32, gn_33, gn_34, gn_36, gn_37, gn_38, gn_138, gn_139, gn_140, gn_141, gn_142, gn_143, gn_124, gn_125, gn_126, gn_127, gn_128, gn_129, gn_131, gn_132, gn_133, gn_134, gn_145, gn_146, gn_147, gn_148, gn_150, gn_151, gn_152, gn_157, gn_158, gn_153, gn_154, gn_155, gn_156, gr_1, gr_2, gr_3, gr_7, gr_11, gr_16, gr_123, gr_144, gr_149, Nat.reduceAdd, Nat.reduceMul, Nat.reduceDiv, Nat.reduceSub, Nat.reduceMod, Nat.reduceLeDiff, Nat.reduceEqDiff, Nat.add_zero, Nat.zero_add, Nat.mul_one, Nat.one_mul, Nat.mul_zero, Nat.reduceLT]
      · have h4 : sX (sFoc P) a < sX (sFoc P) b := by omega
        simp (disch := omega) only [f_X11_counts, e1, e2, e3, h1, h2, h3, h4, sCnt, false_or, and_true, Int.lt_irrefl, ↓bnd_d, grdT, bndOs, bndTr, bndTl, ↓reduceIte, n_in, n_cl, n_le, n_lt, n_eq, n_m, n_a, i_0, i_1, i_2, i_3, i_4, i_5, i_6, i_7, i_8, i_15, i_23, i_24, i_29, i_30, i_39, i_40, i_128, i_255, i_960, i_2048, gn_1, gn_2, gn_3, gn_5, gn_7, gn_11, gn_16, gn_40, gn_41, gn_115, gn_117, gn_119, gn_121, gn_123, gn_130, gn_135, gn_136, gn_137, gn_144, gn_149, gn_159, gn_160, gn_161, gn_28, gn_29, gn_30, gn_32, gn_33, gn_34, gn_36, gn_37, gn_38, gn_138, gn_139, gn_140, gn_141, gn_142, gn_143, gn_124, gn_125, gn_126, gn_127, gn_128, gn_129, gn_131, gn_132, gn_133, gn_134, gn_145, gn_146, gn_147, gn_148, gn_150, gn_151, gn_152, gn_157, gn_158, gn_153, gn_154, gn_155, gn_156, gr_1, gr_2, gr_3, gr_7, gr_11, gr_16, gr_123, gr_144, gr_149, Nat.reduceAdd, Nat.reduceMul, Nat.reduceDiv, Nat.reduceSub, Nat.reduceMod, Nat.reduceLeDiff, Nat.reduceEqDiff, Nat.add_zero, Nat.zero_add, Nat.mul_one, Nat.one_mul, Nat.mul_zero, Nat.reduceLT]
    · simp (disch := omega) only [f_X11_counts, e1, e2, h1, h2, sCnt, false_or, false_and, ↓bnd_d, grdT, bndOs, bndTr, bndTl, ↓reduceIte, n_in, n_cl, n_le, n_lt, n_eq, n_m, n_a, i_0, i_1, i_2, i_3, i_4, i_5, i_6, i_7, i_8, i_15, i_23, i_24, i_29, i_30, i_39, i_40, i_128, i_255, i_960, i_2048, gn_1, gn_2, gn_3, gn_5, gn_7, gn_11, gn_16, gn_40, gn_41, gn_115, gn_117, gn_119, gn_121, gn_123, gn_130, gn_135, gn_136, gn_137, gn_144, gn_149, gn_159, gn_160, gn_161, gn_28, gn_29, gn_30, gn_32, gn_33, gn_34, gn_36, gn_37, gn_38, gn_138, gn_139, gn_140, gn_141, gn_142, gn_143, gn_124, gn_125, gn_126, gn_127, gn_128, gn_129, gn_131, gn_132, gn_133, gn_134, gn_145, gn_146, gn_147, gn_148, gn_150, gn_151, gn_152, gn_157, gn_158, gn_153, gn_154, gn_155, gn_156, gr_1, gr_2, gr_3, gr_7, gr_11, gr_16, gr_123, gr_144, gr_149, Nat.reduceAdd, Nat.reduceMul, Nat.reduceDiv, Nat.reduceSub, Nat.reduceMod, Nat.reduceLeDiff, Nat.reduceEqDiff, Nat.add_zero, Nat.zero_add, Nat.mul_one, Nat.one_mul, Nat.mul_zero, Nat.reduceLT]
theorem in_chain {X : Type} (A B C : Int) (ca cb cc : Prop) [Decidable ca] [Decidable cb] [Decidable cc] (r1 r0 : X) :
    (if A < 0 then r0 else if B < 0 then r0 else if 0 ≤ C then (if 0 < A then (if 0 < B then (if 0 < C then r1 else if cc then r1 else r0) else if cb then (if 0 < C then r1 else if cc then r1 else r0) else r0) else if ca then (if 0 < B then (if 0 < C then r1 else if cc then r1 else r0) else if cb then (if 0 < C then r1 else if cc then r1 else r0) else r0) else r0) else r0)
      = if ((0 < A ∨ (A = 0 ∧ ca)) ∧ (0 < B ∨ (B = 0 ∧ cb)) ∧ (0 < C ∨ (C = 0 ∧ cc))) then r1 else r0 := by
  have tr : ∀ A : Int, (A < 0 ∧ ¬ 0 < A ∧ ¬ A = 0 ∧ ¬ 0 ≤ A) ∨ (¬ A < 0 ∧ ¬ 0 < A ∧ A = 0 ∧ 0 ≤ A) ∨ (¬ A < 0 ∧ 0 < A ∧ ¬ A = 0 ∧ 0 ≤ A) := fun A => by omega
  rcases tr A with ⟨a1, a2, a3, a4⟩ | ⟨a1, a2, a3, a4⟩ | ⟨a1, a2, a3, a4⟩ <;> rcases tr B with ⟨b1, b2, b3, b4⟩ | ⟨b1, b2, b3, b4⟩ | ⟨b1, b2, b3, b4⟩ <;> rcases tr C with ⟨c1, c2, c3, c4⟩ | ⟨c1, c2, c3, c4⟩ | ⟨c1, c2, c3, c4⟩ <;>
    simp only [a1, a2, a3, a4, b1, b2, b3, b4, c1, c2, c3, c4, if_true, if_false, true_and, and_true, false_and, and_false, true_or, or_true, false_or, or_false, Int.lt_irrefl, Int.le_refl] <;>
    by_cases ha : ca <;> by_cases hb : cb <;> by_cases hc : cc <;> simp only [ha, hb, hc, if_true, if_false, true_and, and_true, false_and, and_false]
theorem r_isInPiece {P : PM} {M : GM} {F x y : Nat} {t : V × V × V} (ht : tOK P t) (hM : rTri P M t) (hx : x < 40) (hy : y < 24) :
    ∃ v M', f_X11_isInPiece F (nI x) (nI y) M = some (v, M') ∧ v = (if sIn (sFoc P) t x y then 1 else 0) ∧ rAt P M' t x y ∧ M'.1 = M.1 ∧ (∀ g k, g ≠ 122 → gL M' g k = gL M g k) ∧ M'.2.2 = M.2.2 := by
  obtain ⟨ta, tb, tc, tr⟩ := hM
  obtain ⟨-, -, -, na, nb, nc, -⟩ := ht
  have mx := a_add64 (a_mul64 (show (16 : Int64).toInt = 16 from rfl) (a_64 (n_int (n := x) (by omega))) (by omega) (by omega)) (show (8 : Int64).toInt = 8 from rfl) (by omega) (by omega)
  have my := a_add64 (a_mul64 (show (16 : Int64).toInt = 16 from rfl) (a_64 (n_int (n := y) (by omega))) (by omega) (by omega)) (show (8 : Int64).toInt = 8 from rfl) (by omega) (by omega)
  obtain ⟨wa, a1, a2⟩ := r_turn (F := F) (M := M) (i := 1) (j := 2) (by omega) (by omega) tb tc nb nc mx my (by omega) (by omega)
  generalize hM1 : sL M 122 34 wa = M1
  have l1 : ∀ g k, ¬ (g = 122 ∧ k = 34) → gL M1 g k = gL M g k := fun g k h => by rw [← hM1, gL_sL, if_neg h]
  have i1 : ∀ g k, gI M1 g k = gI M g k := fun g k => by rw [← hM1]; rfl
  obtain ⟨wb, b1, b2⟩ := r_turn (F := F) (M := M1) (i := 2) (j := 0) (by omega) (by omega) (tc.to (fun _ => i1 _ _) (fun g _ _ => l1 g _ (by omega))) (ta.to (fun _ => i1 _ _) (fun g _ _ => l1 g _ (by omega))) nc na mx my (by omega) (by omega)
  generalize hM2 : sL M1 122 35 wb = M2
  have l2 : ∀ g k, ¬ (g = 122 ∧ k = 35) → gL M2 g k = gL M1 g k := fun g k h => by rw [← hM2, gL_sL, if_neg h]
  have i2 : ∀ g k, gI M2 g k = gI M g k := fun g k => by rw [← hM2, ← hM1]; rfl
  obtain ⟨wc, c1, c2⟩ := r_turn (F := F) (M := M2) (i := 0) (j := 1) (by omega) (by omega) (ta.to (fun _ => i2 _ _) (fun g _ _ => (l2 g _ (by omega)).trans (l1 g _ (by omega)))) (tb.to (fun _ => i2 _ _) (fun g _ _ => (l2 g _ (by omega)).trans (l1 g _ (by omega)))) na nb mx my (by omega) (by omega)
  generalize hM3 : sL M2 122 36 wc = M3
  have l3 : ∀ g k, ¬ (g = 122 ∧ k = 36) → gL M3 g k = gL M2 g k := fun g k h => by rw [← hM3, gL_sL, if_neg h]
  have i3 : ∀ g k, gI M3 g k = gI M g k := fun g k => by rw [← hM3, ← hM2, ← hM1]; rfl
  have g34 : gL M3 122 34 = wa := by rw [l3 _ _ (by omega), l2 _ _ (by omega), ← hM1, gL_sL, if_pos ⟨rfl, rfl⟩]
  have g35 : gL M3 122 35 = wb := by rw [l3 _ _ (by omega), ← hM2, gL_sL, if_pos ⟨rfl, rfl⟩]
  have g36 : gL M3 122 36 = wc := by rw [← hM3, gL_sL, if_pos ⟨rfl, rfl⟩]
  have lo : ∀ g k, ¬ (g = 122 ∧ 34 ≤ k ∧ k ≤ 36) → gL M3 g k = gL M g k := fun g k h => by rw [l3 g k (by omega), l2 g k (by omega), l1 g k (by omega)]
  have ta3 : rLay P M3 0 t.1 := ta.to (fun _ => i3 _ _) (fun g _ _ => lo g _ (by omega))
  have tb3 : rLay P M3 1 t.2.1 := tb.to (fun _ => i3 _ _) (fun g _ _ => lo g _ (by omega))
  have tc3 : rLay P M3 2 t.2.2 := tc.to (fun _ => i3 _ _) (fun g _ _ => lo g _ (by omega))
  have kbc := r_counts (F := F) (i := 1) (j := 2) (by omega) (by omega) tb3 tc3
  have kca := r_counts (F := F) (i := 2) (j := 0) (by omega) (by omega) tc3 ta3
  have kab := r_counts (F := F) (i := 0) (j := 1) (by omega) (by omega) ta3 tb3
  have hw : wa.toInt = sWa (sFoc P) t x y ∧ wb.toInt = sWb (sFoc P) t x y ∧ wc.toInt = sWc (sFoc P) t x y := ⟨a2, b2, c2⟩
  refine ⟨if sIn (sFoc P) t x y then 1 else 0, M3, ?_, rfl, ⟨⟨ta3, tb3, tc3, by rw [lo 122 33 (by omega)]; exact tr⟩, by rw [g34]; exact hw.1, by rw [g35]; exact hw.2.1, by rw [g36]; exact hw.2.2⟩, by rw [← hM3, ← hM2, ← hM1]; rfl, fun g k h => lo g k (by omega), by rw [← hM3, ← hM2, ← hM1]; rfl⟩
  have head : f_X11_isInPiece F (nI x) (nI y) M = if (lg_cmp wa (0 : Int64)) < 0 then (some ((0 : Int32), M3)) else (if (lg_cmp wb (0 : Int64)) < 0 then (some ((0 : Int32), M3)) else (if 0 ≤ (lg_cmp wc (0 : Int64)) then (if 0 < (lg_cmp wa (0 : Int64)) then (bk_X11_isInPiece_109 F M3) else (bndO (f_X11_counts F (1 : Int32) (2 : Int32) M3) (fun v22 => if v22 = 0 then (some ((0 : Int32), M3)) else (bk_X11_isInPiece_109 F M3)))) else (some ((0 : Int32), M3)))) := by
    unfold f_X11_isInPiece
    rw [bnd_d, bnd_d, bndO_s _ (show f_X11_turn F 1 2 _ _ M = some wa from a1), bnd_d, hM1, bndO_s _ (show f_X11_turn F 2 0 _ _ M1 = some wb from b1), bnd_d, hM2, bndO_s _ (show f_X11_turn F 0 1 _ _ M2 = some wc from c1), bnd_d, hM3, g34, g35, g36]
  have h127 : bk_X11_isInPiece_127 F M3 = if 0 < (lg_cmp wc (0 : Int64)) then (some ((1 : Int32), M3)) else if sCnt (sFoc P) t.1 t.2.1 then some (1, M3) else some (0, M3) := by
    unfold bk_X11_isInPiece_127
    rw [g36, bndO_s _ (show f_X11_counts F 0 1 M3 = _ from kab)]
    by_cases h : sCnt (sFoc P) t.1 t.2.1
    · rw [if_pos h, if_pos h]; rfl
    · rw [if_neg h, if_neg h]; rfl
  have h109 : bk_X11_isInPiece_109 F M3 = if 0 < (lg_cmp wb (0 : Int64)) then bk_X11_isInPiece_127 F M3 else if sCnt (sFoc P) t.2.2 t.1 then bk_X11_isInPiece_127 F M3 else some (0, M3) := by
    unfold bk_X11_isInPiece_109
    rw [g35, bndO_s _ (show f_X11_counts F 2 0 M3 = _ from kca)]
    by_cases h : sCnt (sFoc P) t.2.2 t.1
    · rw [if_pos h, if_pos h]; rfl
    · rw [if_neg h, if_neg h]; rfl
  have h12 : (bndO (f_X11_counts F (1 : Int32) (2 : Int32) M3) (fun v22 => if v22 = 0 then (some ((0 : Int32), M3)) else (bk_X11_isInPiece_109 F M3))) = if sCnt (sFoc P) t.2.1 t.2.2 then bk_X11_isInPiece_109 F M3 else some (0, M3) := by
    rw [bndO_s _ (show f_X11_counts F 1 2 M3 = _ from kbc)]
    by_cases h : sCnt (sFoc P) t.2.1 t.2.2
    · rw [if_pos h, if_pos h]; rfl
    · rw [if_neg h, if_neg h]; rfl
  rw [head, h12, h109, h127]
  have z0 : (0 : Int64).toInt = 0 := rfl
  have p1 : lg_cmp wa 0 < 0 ↔ sWa (sFoc P) t x y < 0 := by rw [lg_cmp_lt]; exact a_lt64 a2 z0
  have p2 : lg_cmp wb 0 < 0 ↔ sWb (sFoc P) t x y < 0 := by rw [lg_cmp_lt]; exact a_lt64 b2 z0
  have p3 : 0 ≤ lg_cmp wc 0 ↔ 0 ≤ sWc (sFoc P) t x y := by rw [lg_cmp_ge]; exact a_le64 z0 c2
  have q1 : 0 < lg_cmp wa 0 ↔ 0 < sWa (sFoc P) t x y := by rw [lg_cmp_gt]; exact a_lt64 z0 a2
  have q2 : 0 < lg_cmp wb 0 ↔ 0 < sWb (sFoc P) t x y := by rw [lg_cmp_gt]; exact a_lt64 z0 b2
  have q3 : 0 < lg_cmp wc 0 ↔ 0 < sWc (sFoc P) t x y := by rw [lg_cmp_gt]; exact a_lt64 z0 c2
  clear head h127 h109 h12
  simp only [p1, p2, p3, q1, q2, q3]
  rw [in_chain]
  by_cases hIn : sIn (sFoc P) t x y
  · rw [if_pos hIn, if_pos hIn]
  · rw [if_neg hIn, if_neg hIn]
