/-! PURE PART: the reference paints a point -/
theorem a_mean3 {a b c A B C s : Int64} {a' b' c' A' B' C' s' L U : Int} (ha : a.toInt = a') (hb : b.toInt = b') (hc : c.toInt = c') (hA : A.toInt = A') (hB : B.toInt = B') (hC : C.toInt = C') (hs : s.toInt = s')
    (a0 : 0 ≤ a') (b0 : 0 ≤ b') (c0 : 0 ≤ c') (e : a' + b' + c' = s') (s0 : 0 < s') (smax : s' ≤ 471866400000000) (L0 : 0 ≤ L) (U1 : U ≤ 65535) (UU : U * s' ≤ 1200000000000000000) (bA : L ≤ A' ∧ A' ≤ U) (bB : L ≤ B' ∧ B' ≤ U) (bC : L ≤ C' ∧ C' ≤ U) :
    (((a * A + b * B + c * C) / s).toInt32).toInt = (a' * A' + b' * B' + c' * C') / s' := by
  have m := mean_bd a0 b0 c0 e s0 bA bB bC
  have mA := a_mn a0 (show a' ≤ s' by omega) (show 0 ≤ A' by omega) bA.2
  have mB := a_mn b0 (show b' ≤ s' by omega) (show 0 ≤ B' by omega) bB.2
  have mC := a_mn c0 (show c' ≤ s' by omega) (show 0 ≤ C' by omega) bC.2
  have cm : s' * U = U * s' := Int.mul_comm _ _
  have x1 := a_mul64 ha hA (by omega) (by omega)
  have x2 := a_mul64 hb hB (by omega) (by omega)
  have x3 := a_mul64 hc hC (by omega) (by omega)
  have x4 := a_add64 (a_add64 x1 x2 (by omega) (by omega)) x3 (by omega) (by omega)
  exact a_32 (a_div64 x4 hs (by omega) s0) (by omega) (by omega)
theorem r_depthHere {P : PM} {M : GM} {F : Nat} {t : V × V × V} {x y : Int} (hO : OK P) (ht : tOK P t) (hM : rAt P M t x y) (hi : sIn (sFoc P) t x y) : ∃ v, f_X11_depthHere F M = some v ∧ v.toInt = sDep P t x y := by
  have hn : 1 ≤ sNear P := hO.2.1.1
  obtain ⟨⟨ta, tb, tc, tr⟩, wa, wb, wc⟩ := hM
  obtain ⟨w1, w2, w3⟩ := sIn_w hi
  have h0 := ht.2.2.2.2.2.2
  have hh := sArea_hi ht
  have nz : decide (¬ (gL M 122 33) = 0) = true := by
    rw [decide_eq_true_eq, a_eq64 tr (show (0 : Int64).toInt = 0 from rfl)]; omega
  refine ⟨_, ?_, a_mean3 wa wb wc ta.2.2.2.1 tb.2.2.2.1 tc.2.2.2.1 tr w1 w2 w3 (sW_sum _ _ _ _) h0 (by omega) (L := 0) (U := 65535) (by omega) (by omega) (by omega) (sDp_in hn ht.1) (sDp_in hn ht.2.1) (sDp_in hn ht.2.2.1)⟩
  unfold f_X11_depthHere
  rw [grd_t nz]
theorem r_number {P : PM} {M : GM} {F k : Nat} {t : V × V × V} {x y : Int} (ht : tOK P t) (hM : rAt P M t x y) (hi : sIn (sFoc P) t x y) (h5 : 5 ≤ k) (h8 : k < 8) : ∃ v, f_X11_number F (nI k) M = some v ∧ v.toInt = sNum P t x y k := by
  obtain ⟨⟨ta, tb, tc, tr⟩, wa, wb, wc⟩ := hM
  obtain ⟨w1, w2, w3⟩ := sIn_w hi
  have h0 := ht.2.2.2.2.2.2
  have hh := sArea_hi ht
  have nz : decide (¬ (gL M 122 33) = 0) = true := by
    rw [decide_eq_true_eq, a_eq64 tr (show (0 : Int64).toInt = 0 from rfl)]; omega
  refine ⟨_, ?_, a_mean3 wa wb wc (a_64 (ta.1 k h8)) (a_64 (tb.1 k h8)) (a_64 (tc.1 k h8)) tr w1 w2 w3 (sW_sum _ _ _ _) h0 (by omega) (L := 0) (U := 255) (by omega) (by omega) (by omega) (ht.1.1.2.2 k h5 h8) (ht.2.1.1.2.2 k h5 h8) (ht.2.2.1.1.2.2 k h5 h8)⟩
  simp (disch := omega) only [f_X11_number, nz, ↓bnd_d, grdT, bndOs, bndTr, bndTl, ↓reduceIte, n_in, n_cl, n_le, n_lt, n_eq, n_m, n_a, i_0, i_1, i_2, i_3, i_4, i_5, i_6, i_7, i_8, i_15, i_23, i_24, i_29, i_30, i_39, i_40, i_128, i_255, i_960, i_2048, gn_1, gn_2, gn_3, gn_5, gn_7, gn_11, gn_16, gn_40, gn_41, gn_115, gn_117, gn_119, gn_121, gn_123, gn_130, gn_135, gn_136, gn_137, gn_144, gn_149, gn_159, gn_160, gn_161, gn_28, gn_29, gn_30, gn_32, gn_33, gn_34, gn_36, gn_37, gn_38, gn_138, gn_139, gn_140, gn_141, gn_142, gn_143, gn_124, gn_125, gn_126, gn_127, gn_128, gn_129, gn_131, gn_132, gn_133, gn_134, gn_145, gn_146, gn_147, gn_148, gn_150, gn_151, gn_152, gn_157, gn_158, gn_153, gn_154, gn_155, gn_156, gr_1, gr_2, gr_3, gr_7, gr_11, gr_16, gr_123, gr_144, gr_149, Nat.reduceAdd, Nat.reduceMul, Nat.reduceDiv, Nat.reduceSub, Nat.reduceMod, Nat.reduceLeDiff, Nat.reduceEqDiff, Nat.add_zero, Nat.zero_add, Nat.mul_one, Nat.one_mul, Nat.mul_zero, Nat.reduceLT]
theorem r_along {P : PM} {M : GM} {F k : Nat} {t : V × V × V} {x y : Int} (hO : OK P) (ht : tOK P t) (hM : rAt P M t x y) (hi : sIn (sFoc P) t x y) (h5 : 3 ≤ k) (h8 : k < 5) : ∃ v, f_X11_along F (nI k) M = some v ∧ v.toInt = sWm (sFoc P) t x y k := by
  obtain ⟨⟨ta, tb, tc, tr⟩, wa, wb, wc⟩ := hM
  obtain ⟨a, b, c, d⟩ := sWw hO ht hi
  have ea := a_mul64 wa ta.2.2.2.2 (by omega) (by omega)
  have eb := a_mul64 wb tb.2.2.2.2 (by omega) (by omega)
  have ec := a_mul64 wc tc.2.2.2.2 (by omega) (by omega)
  have es := a_add64 (a_add64 ea eb (by omega) (by omega)) ec (by omega) (by omega)
  have nz : decide (¬ ((((gL M 122 34) * (gL M 156 0)) + ((gL M 122 35) * (gL M 156 1))) + ((gL M 122 36) * (gL M 156 2))) = 0) = true := by
    rw [decide_eq_true_eq, a_eq64 es (show (0 : Int64).toInt = 0 from rfl)]; omega
  refine ⟨_, ?_, a_mean3 ea eb ec (a_64 (ta.1 k (by omega))) (a_64 (tb.1 k (by omega))) (a_64 (tc.1 k (by omega))) es a.1 b.1 c.1 rfl d.1 d.2 (L := 0) (U := 2047) (by omega) (by omega) (by omega) (ht.1.1.2.1 k h5 h8) (ht.2.1.1.2.1 k h5 h8) (ht.2.2.1.1.2.1 k h5 h8)⟩
  simp (disch := omega) only [f_X11_along, nz, ↓bnd_d, grdT, bndOs, bndTr, bndTl, ↓reduceIte, n_in, n_cl, n_le, n_lt, n_eq, n_m, n_a, i_0, i_1, i_2, i_3, i_4, i_5, i_6, i_7, i_8, i_15, i_23, i_24, i_29, i_30, i_39, i_40, i_128, i_255, i_960, i_2048, gn_1, gn_2, gn_3, gn_5, gn_7, gn_11, gn_16, gn_40, gn_41, gn_115, gn_117, gn_119, gn_121, gn_123, gn_130, gn_135, gn_136, gn_137, gn_144, gn_149, gn_159, gn_160, gn_161, gn_28, gn_29, gn_30, gn_32, gn_33, gn_34, gn_36, gn_37, gn_38, gn_138, gn_139, gn_140, gn_141, gn_142, gn_143, gn_124, gn_125, gn_126, gn_127, gn_128, gn_129, gn_131, gn_132, gn_133, gn_134, gn_145, gn_146, gn_147, gn_148, gn_150, gn_151, gn_152, gn_157, gn_158, gn_153, gn_154, gn_155, gn_156, gr_1, gr_2, gr_3, gr_7, gr_11, gr_16, gr_123, gr_144, gr_149, Nat.reduceAdd, Nat.reduceMul, Nat.reduceDiv, Nat.reduceSub, Nat.reduceMod, Nat.reduceLeDiff, Nat.reduceEqDiff, Nat.add_zero, Nat.zero_add, Nat.mul_one, Nat.one_mul, Nat.mul_zero, Nat.reduceLT]
theorem r_stepAt {P : PM} {M : GM} {F its : Nat} {a : Int32} {x : Int} (hO : OK P) (hR : RV P M) (hi : its < 4) (ha : a.toInt = x) (h0 : 0 ≤ x) (h1 : x ≤ 2047) : ∃ v, f_X11_step F (nI its) a M = some v ∧ v.toInt = sStep P its x := by
  have e1 := a_div ha (show (128 : Int32).toInt = 128 from rfl) h0 (by omega)
  have e7 : (7 : Int32) < a / 128 ↔ 7 < x / 128 := a_lt rfl e1
  have er : gI M 136 its = P 136 its := hR.2 136 its (by omega) (by omega)
  unfold f_X11_step sStep
  rw [bnd_d]
  by_cases h7 : 7 < x / 128
  · rw [if_pos (e7.mpr h7), if_neg (show ¬ x / 128 ≤ 7 by omega), grd_t (by rw [gn_136]; exact n_in hi (by omega)), n_cl (by omega), er]
    by_cases hz : P 136 its = 0
    · rw [if_pos hz, if_pos hz]; exact ⟨_, rfl, rfl⟩
    · rw [if_neg hz, if_neg hz]
      exact ⟨_, rfl, a_mod e1 (show (8 : Int32).toInt = 8 from rfl) (by omega) (by omega)⟩
  · rw [if_neg (fun h => h7 (e7.mp h)), if_pos (by omega)]
    exact ⟨_, rfl, e1⟩
theorem r_colourHere {P : PM} {M : GM} {F p : Nat} {t : V × V × V} {x y : Int} (hO : OK P) (hR : RV P M) (hp : p < 30) (ht : tOK P t) (hM : rAt P M t x y) (hi : sIn (sFoc P) t x y) : ∃ v, f_X11_colourHere F (nI p) M = some v ∧ v.toInt = sCol P p t x y := by
  obtain ⟨r, r1, r2⟩ := r_number (F := F) (k := 5) ht hM hi (by omega) (by omega)
  obtain ⟨g, g1, g2⟩ := r_number (F := F) (k := 6) ht hM hi (by omega) (by omega)
  obtain ⟨b, b1, b2⟩ := r_number (F := F) (k := 7) ht hM hi (by omega) (by omega)
  have br := sNum_rg ht hi (k := 5) (by omega) (by omega)
  have bg := sNum_rg ht hi (k := 6) (by omega) (by omega)
  have bb := sNum_rg ht hi (k := 7) (by omega) (by omega)
  have ep : gI M 131 p = P 131 p := hR.2 131 p (by omega) (by omega)
  have bp := hO.2.2.2.2.2.2.2.2.2.1 p
  unfold f_X11_colourHere sCol
  simp only
  rw [bndO_s _ (show f_X11_number F 5 M = some r from r1), bnd_d, bndO_s _ (show f_X11_number F 6 M = some g from g1), bnd_d, bndO_s _ (show f_X11_number F 7 M = some b from b1), bnd_d, grd_t (by rw [gn_131]; exact n_in hp (by omega)), n_cl (by omega), bnd_d, ep]
  by_cases hm : P 131 p = -1
  · rw [if_pos hm, if_pos hm]
    exact ⟨_, rfl, a_mix r2 g2 b2 br.1 br.2 bg.1 bg.2 bb.1 bb.2⟩
  · rw [if_neg hm, if_neg hm]
    have hm2 : (P 131 p).toInt ≠ -1 := fun h => hm (a_ext h)
    have hn4 : (P 131 p).toNatClampNeg < 4 := by rw [a_nat32 rfl]; omega
    have eits : P 131 p = nI (P 131 p).toNatClampNeg := n_of (by rw [a_nat32 rfl]; omega)
    generalize (P 131 p).toNatClampNeg = its at hn4 eits ⊢
    rw [eits]
    obtain ⟨v, v1, v2⟩ := r_along (F := F) (k := 4) hO ht hM hi (by omega) (by omega)
    obtain ⟨u, u1, u2⟩ := r_along (F := F) (k := 3) hO ht hM hi (by omega) (by omega)
    have bv := sWm_rg hO ht hi (k := 4) (by omega) (by omega)
    have bu := sWm_rg hO ht hi (k := 3) (by omega) (by omega)
    obtain ⟨sv, sv1, sv2⟩ := r_stepAt (F := F) hO hR hn4 v2 bv.1 bv.2
    obtain ⟨su, su1, su2⟩ := r_stepAt (F := F) hO hR hn4 u2 bu.1 bu.2
    have rv := sStep_rg (P := P) (its := its) bv.1
    have ru := sStep_rg (P := P) (its := its) bu.1
    rw [bndO_s _ (show f_X11_along F 4 M = some v from v1), bndO_s _ sv1, bndO_s _ (show f_X11_along F 3 M = some u from u1), bndO_s _ su1]
    have e0 : (nI its).toInt = its := n_int (by omega)
    have ei := a_add (a_mul (a_add (a_mul e0 (show (8 : Int32).toInt = 8 from rfl) (by omega) (by omega)) sv2 (by omega) (by omega)) (show (8 : Int32).toInt = 8 from rfl) (by omega) (by omega)) su2 (by omega) (by omega)
    rw [grd_t (by rw [gn_135]; exact a_gIn ei (by omega) (by omega)), bnd_d, a_nat32 ei]
    have ej : (((its : Int) * 8 + sStep P its (sWm (sFoc P) t x y 4)) * 8 + sStep P its (sWm (sFoc P) t x y 3)).toNat = 64 * its + 8 * (sStep P its (sWm (sFoc P) t x y 4)).toNat + (sStep P its (sWm (sFoc P) t x y 3)).toNat := by omega
    rw [ej, hR.2 135 _ (by omega) (by omega)]
    refine ⟨_, rfl, ?_⟩
    have bt := sTint_rg hO its (sWm (sFoc P) t x y 3) (sWm (sFoc P) t x y 4)
    have et : (P 135 (64 * its + 8 * (sStep P its (sWm (sFoc P) t x y 4)).toNat + (sStep P its (sWm (sFoc P) t x y 3)).toNat)).toInt = sTint P its (sWm (sFoc P) t x y 3) (sWm (sFoc P) t x y 4) := rfl
    generalize P 135 (64 * its + 8 * (sStep P its (sWm (sFoc P) t x y 4)).toNat + (sStep P its (sWm (sFoc P) t x y 3)).toNat) = c at et ⊢
    generalize sTint P its (sWm (sFoc P) t x y 3) (sWm (sFoc P) t x y 4) = c' at et bt ⊢
    have c1 := a_red c
    have c2 := a_green c
    have c3 := a_blue c
    rw [et] at c1 c2 c3
    have k255 : (255 : Int32).toInt = 255 := rfl
    have q1 := q255 (c := c' / 65536) (by omega) (by omega) br.1 br.2
    have q2 := q255 (c := c' / 256 % 256) (by omega) (by omega) bg.1 bg.2
    have q3 := q255 (c := c' % 256) (by omega) (by omega) bb.1 bb.2
    exact a_mix (a_div (a_mul c1 r2 (by omega) (by omega)) k255 q1.1 (by omega)) (a_div (a_mul c2 g2 (by omega) (by omega)) k255 q2.1 (by omega)) (a_div (a_mul c3 b2 (by omega) (by omega)) k255 q3.1 (by omega)) q1.2.2.1 q1.2.2.2 q2.2.2.1 q2.2.2.2 q3.2.2.1 q3.2.2.2
def rPx (M : GM) (k : Nat) : Px := (gI M 141 k, gI M 142 k, gI M 143 k)
theorem r_half {c d : Int32} {c' d' : Int} (hc : c.toInt = c') (hd : d.toInt = d') (bc : 0 ≤ c' ∧ c' ≤ 16777215) (bd : 0 ≤ d' ∧ d' ≤ 16777215) :
    (f_X11_mixed (((f_X11_red c) + (f_X11_red d)) / (2 : Int32)) (((f_X11_green c) + (f_X11_green d)) / (2 : Int32)) (((f_X11_blue c) + (f_X11_blue d)) / (2 : Int32))).toInt = sHalf c' d' := by
  have c1 := a_red c
  have c2 := a_green c
  have c3 := a_blue c
  have d1 := a_red d
  have d2 := a_green d
  have d3 := a_blue d
  rw [hc] at c1 c2 c3
  rw [hd] at d1 d2 d3
  have k2 : (2 : Int32).toInt = 2 := rfl
  exact a_mix (a_div (a_add c1 d1 (by omega) (by omega)) k2 (by omega) (by omega)) (a_div (a_add c2 d2 (by omega) (by omega)) k2 (by omega) (by omega)) (a_div (a_add c3 d3 (by omega) (by omega)) k2 (by omega) (by omega)) (by omega) (by omega) (by omega) (by omega) (by omega) (by omega)
theorem r_paintPoint {P : PM} {M : GM} {F p k x y : Nat} {t : V × V × V} (hO : OK P) (hR : RV P M) (hp : p < 30) (ht : tOK P t) (hx : x < 40) (hy : y < 24) (hk : k = y * 40 + x) (hM : rAt P M t x y) (hi : sIn (sFoc P) t x y) (hpx : pxOK (rPx M k)) :
    ∃ M', f_X11_paintPoint F (nI k) (nI p) M = some M' ∧ rPx M' k = sPt P p t k (rPx M k) ∧ (∀ kk, kk < 960 → gI M 122 25 = nI kk → gI M' 122 39 = if k = kk ∧ sHit P t kk (rPx M kk) ∧ ¬ P 132 p = 0 then 1 else gI M 122 39) ∧ (∀ g j, ¬ (141 ≤ g ∧ g ≤ 143 ∧ j = k) → ¬ (g = 122 ∧ j = 39) → gI M' g j = gI M g j) ∧ M'.2 = M.2 := by
  have k9 : k < 960 := by omega
  have kx : ((k % 40 : Nat) : Int) = x := by omega
  have ky : ((k / 40 : Nat) : Int) = y := by omega
  obtain ⟨d, d1, d2⟩ := r_depthHere (F := F) hO ht hM hi
  obtain ⟨c, c1, c2⟩ := r_colourHere (F := F) hO hR hp ht hM hi
  have bd := sDep_rg hO ht hi
  have bc := sCol_rg hO ht hi p
  have e1 : gI M 132 p = P 132 p := hR.2 132 p (by omega) (by omega)
  have hg : gIn (nI k) 960 = true := n_in k9 (by omega)
  have hck : (nI k).toNatClampNeg = k := n_cl (by omega)
  have hhit : sHit P t k (rPx M k) ↔ d < gI M 142 k := by
    unfold sHit
    rw [kx, ky, a_lt d2 rfl]
    exact ⟨fun h => h.2, fun h => ⟨hi, h⟩⟩
  have dof := a_of d2
  have cof := a_of c2
  unfold f_X11_paintPoint
  rw [bndO_s _ d1, bnd_d, gn_142, grd_t hg, hck]
  by_cases hh : d < gI M 142 k
  rotate_left
  · rw [if_neg hh]
    refine ⟨M, rfl, ?_, fun kk hkk hgp => ?_, fun _ _ _ _ => rfl, rfl⟩
    · unfold sPt; rw [if_neg (fun h => hh (hhit.mp h))]
    · rw [if_neg]
      rintro ⟨rfl, h, -⟩
      exact hh (hhit.mp h)
  rw [if_pos hh, bndO_s _ c1, bnd_d, gn_132, grd_t (n_in hp (by omega)), n_cl (by omega), e1]
  by_cases hcl : P 132 p = 0
  · rw [if_pos hcl, gn_141, grd_t hg, bnd_d, grd_t hg, bnd_d, gn_143, grd_t hg, bnd_d]
    refine ⟨_, rfl, ?_, fun kk hkk hgp => ?_, fun g j h1 h2 => ?_, rfl⟩
    · unfold sPt
      rw [if_pos (hhit.mpr hh), if_pos hcl, kx, ky, ← dof, ← cof]
      unfold rPx
      simp only [gI_sI]
      simp
    · rw [if_neg (fun h => h.2.2 hcl)]
      simp only [gI_sI]
      simp
    · rw [gI_sI, if_neg (by omega), gI_sI, if_neg (by omega), gI_sI, if_neg (by omega)]
  · rw [if_neg hcl, gn_141, grd_t hg, bnd_d, grd_t hg, bnd_d]
    have hf := r_half (c := gI M 141 k) (d := c) rfl c2 hpx bc
    have hof := a_of hf
    generalize f_X11_mixed (((f_X11_red (gI M 141 k)) + (f_X11_red c)) / (2 : Int32)) (((f_X11_green (gI M 141 k)) + (f_X11_green c)) / (2 : Int32)) (((f_X11_blue (gI M 141 k)) + (f_X11_blue c)) / (2 : Int32)) = h9 at hof ⊢
    have e25 : gI (sI M 141 k h9) 122 25 = gI M 122 25 := by rw [gI_sI, if_neg (by omega)]
    rw [e25]
    have px : ∀ M2 : GM, (∀ j, gI M2 141 j = gI (sI M 141 k h9) 141 j) → (∀ j, gI M2 142 j = gI M 142 j) → (∀ j, gI M2 143 j = gI M 143 j) → rPx M2 k = sPt P p t k (rPx M k) := fun M2 a b c => by
      unfold sPt
      rw [if_pos (hhit.mpr hh), if_neg hcl, kx, ky]
      unfold rPx
      rw [a, b, c, gI_sI, if_pos ⟨rfl, rfl⟩, hof]
    by_cases hgp : nI k = gI M 122 25
    · rw [if_pos hgp, bnd_d]
      refine ⟨_, rfl, px _ (fun j => ?_) (fun j => ?_) (fun j => ?_), fun kk hkk hg2 => ?_, fun g j h1 h2 => ?_, rfl⟩
      · rw [gI_sI, if_neg (by omega)]
      · rw [gI_sI, if_neg (by omega), gI_sI, if_neg (by omega)]
      · rw [gI_sI, if_neg (by omega), gI_sI, if_neg (by omega)]
      · rw [hg2, n_eq (by omega) (by omega)] at hgp
        subst hgp
        rw [if_pos ⟨rfl, hhit.mpr hh, hcl⟩, gI_sI, if_pos ⟨rfl, rfl⟩]
      · rw [gI_sI, if_neg h2, gI_sI, if_neg (by omega)]
    · rw [if_neg hgp]
      refine ⟨_, rfl, px _ (fun j => rfl) (fun j => ?_) (fun j => ?_), fun kk hkk hg2 => ?_, fun g j h1 h2 => ?_, rfl⟩
      · rw [gI_sI, if_neg (by omega)]
      · rw [gI_sI, if_neg (by omega)]
      · rw [if_neg (by rintro ⟨rfl, -⟩; exact hgp hg2.symm), gI_sI, if_neg (by omega)]
      · rw [gI_sI, if_neg (by omega)]
