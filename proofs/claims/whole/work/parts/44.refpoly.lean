/-! PURE PART: the reference's polygon, laid down -/
def rPoly (M : GM) (l : List V) : Prop := gI M 122 27 = nI l.length ∧ ∀ j v, l[j]? = some v → ∀ k, k < 8 → (gI M (145 + j) k).toInt = v k
/-- what makePolygon may change -/
def mpS (g k : Nat) : Prop := (g = 122 ∧ k = 27) ∨ (145 ≤ g ∧ g ≤ 148) ∨ g = 157 ∨ g = 158
theorem mp_RV {P : PM} {M M' : GM} (h : RV P M) (f : ∀ g k, ¬ mpS g k → gI M' g k = gI M g k) : RV P M' := h.to fun g k q => f g k (by unfold mpS; omega)
theorem gN_145 {j : Nat} (h : j < 4) : gN (145 + j) = 8 := by rcases (show j = 0 ∨ j = 1 ∨ j = 2 ∨ j = 3 by omega) with rfl | rfl | rfl | rfl <;> decide +kernel
/-- a new corner behind the others: M1 has the count, M2 the corner as well -/
theorem rPoly_add {M M2 : GM} {l : List V} {v : V} (h : rPoly M l) (h4 : l.length < 4) (hc : gI M2 122 27 = nI (l.length + 1)) (hv : ∀ k, k < 8 → (gI M2 (145 + l.length) k).toInt = v k)
    (ho : ∀ g k, g ≠ 145 + l.length → ¬ (g = 122 ∧ k = 27) → gI M2 g k = gI M g k) : rPoly M2 (l ++ [v]) := by
  refine ⟨by rw [hc]; simp, fun j w hw k hk => ?_⟩
  rcases Nat.lt_or_ge j l.length with q | q
  · rw [List.getElem?_append_left q] at hw
    rw [ho _ _ (by omega) (by omega)]
    exact h.2 j w hw k hk
  · rw [List.getElem?_append_right q] at hw
    rcases Nat.eq_or_lt_of_le q with q2 | q2
    · subst q2
      rw [Nat.sub_self] at hw
      cases hw
      exact hv k hk
    · rw [List.getElem?_eq_none (by simp; omega)] at hw; cases hw
theorem r_b89 {M M3 : GM} {F p i n : Nat} {v : Int32} (hn : n < 4) (hc : gI M 122 27 = nI n) (hM : sC (sI M 122 27 (nI (n + 1))) (145 + n) 0 8 (fun j => gI M 157 j) = M3) (rec : Int32 → GM → Option GM) :
    bk_X11_makePolygon_89_7 F rec (nI p) (nI i) 1 v M = bk_X11_makePolygon_122_7 F rec (nI p) (nI i) 1 v M3 := by
  have gl := gN_145 hn
  have e : (fun j => gI (sI M 122 27 (nI (n + 1))) 157 j) = fun j => gI M 157 j := by funext j; rw [gI_sI, if_neg (by omega)]
  unfold bk_X11_makePolygon_89_7
  rw [bnd_d, if_neg (by decide), bnd_d, hc, i_1, n_a, grd_t (by rw [gn_144]; exact n_in hn (by omega)), bnd_d, n_cl (by omega), grd_t (by rw [gn_157]; rfl)]
  show grd (decide (8 ≤ gN (145 + n))) _ = _
  rw [gl, grd_t (show decide (8 ≤ 8) = true from rfl), bnd_d]
  show bk_X11_makePolygon_122_7 F rec (nI p) (nI i) (nI 1) v (sC (sI M 122 27 (nI (n + 1))) (145 + n) 0 8 (fun j => gI (sI M 122 27 (nI (n + 1))) 157 j)) = _
  rw [e, hM]
theorem r_step {P : PM} {M : GM} {F i p a b : Nat} {l : List V} (hF : 3000 ≤ F) (hO : OK P) (hR : RV P M) (hp : p < 30) (hi : i < 3)
    (hl : rPoly M l) (ea : P 130 (3 * p + i) = nI a) (eb : P 130 (3 * p + (i + 1) % 3) = nI b) (ha : a < 40) (hb : b < 40)
    (h4 : l.length + (sEdge (sNear P) (sVtx P a) (sVtx P b)).length ≤ 4) :
    ∃ M', (∀ rec, st_X11_makePolygon_7 F (nI p) rec (nI i) M = rec (nI (i + 1)) M') ∧ rPoly M' (l ++ sEdge (sNear P) (sVtx P a) (sVtx P b)) ∧ (∀ g k, ¬ mpS g k → gI M' g k = gI M g k) ∧ M'.2 = M.2 := by
  have hn : 1 ≤ sNear P ∧ sNear P ≤ 1000 := hO.2.1
  have n3 : (P 122 3).toInt = sNear P := rfl
  obtain ⟨M1, t1, u1, f1, s1⟩ := r_take hF hO hR ha (p := 157) (Or.inl rfl)
  have hR1 : RV P M1 := hR.to fun g k q => f1 g k (by omega)
  obtain ⟨M2, t2, u2, f2, s2⟩ := r_take hF hO hR1 hb (p := 158) (Or.inr rfl)
  have hR2 : RV P M2 := hR1.to fun g k q => f2 g k (by omega)
  have ea' : gI M 130 (3 * p + i) = nI a := (hR.2 130 _ (by omega) (by omega)).trans ea
  have eb' : gI M1 130 (3 * p + (i + 1) % 3) = nI b := (hR1.2 130 _ (by omega) (by omega)).trans eb
  have w1 : ∀ k, k < 8 → (gI M2 157 k).toInt = sVtx P a k := fun k hk => by rw [f2 157 k (by omega)]; exact u1 k hk
  have gva := sVtx_gv0 hO a
  have gvb := sVtx_gv0 hO b
  have nr : gI M2 122 3 = P 122 3 := hR2.1 3 (by omega) (by omega)
  have f12 : ∀ g k, ¬ mpS g k → gI M2 g k = gI M g k := fun g k q => by
    unfold mpS at q
    rw [f2 g k (by omega), f1 g k (by omega)]
  have s12 : M2.2 = M.2 := s2.trans s1
  have hl2 : rPoly M2 l := by
    refine ⟨by rw [f2 122 27 (by omega), f1 122 27 (by omega)]; exact hl.1, fun j v hv k hk => ?_⟩
    have : j < l.length := by
      rcases Nat.lt_or_ge j l.length with q | q
      · exact q
      · rw [List.getElem?_eq_none q] at hv; cases hv
    rw [f2 _ k (by omega), f1 _ k (by omega)]
    exact hl.2 j v hv k hk
  have modl : nI (i + 1) - nI (i + 1) / nI 3 * nI 3 = nI ((i + 1) % 3) := by
    rcases (show i = 0 ∨ i = 1 ∨ i = 2 by omega) with rfl | rfl | rfl <;> decide +kernel
  have h3i : ¬ 3 ≤ i := by omega
  have hm3 : (i + 1) % 3 < 3 := Nat.mod_lt _ (by omega)
  have head : ∀ rec, st_X11_makePolygon_7 F (nI p) rec (nI i) M = if gI M2 157 2 < gI M2 122 3 then bk_X11_makePolygon_70_7 F rec (nI p) (nI i) 0 M2 else bk_X11_makePolygon_70_7 F rec (nI p) (nI i) 1 M2 := fun rec => by
    simp (disch := omega) only [st_X11_makePolygon_7, modl, ea', eb', t1, t2, h3i, ↓bnd_d, grdT, bndOs, bndTr, bndTl, ↓reduceIte, n_in, n_cl, n_le, n_lt, n_eq, n_m, n_a, i_0, i_1, i_2, i_3, i_4, i_5, i_6, i_7, i_8, i_15, i_23, i_24, i_29, i_30, i_39, i_40, i_128, i_255, i_960, i_2048, gn_1, gn_2, gn_3, gn_5, gn_7, gn_11, gn_16, gn_40, gn_41, gn_115, gn_117, gn_119, gn_121, gn_123, gn_130, gn_135, gn_136, gn_137, gn_144, gn_149, gn_159, gn_160, gn_161, gn_28, gn_29, gn_30, gn_32, gn_33, gn_34, gn_36, gn_37, gn_38, gn_138, gn_139, gn_140, gn_141, gn_142, gn_143, gn_124, gn_125, gn_126, gn_127, gn_128, gn_129, gn_131, gn_132, gn_133, gn_134, gn_145, gn_146, gn_147, gn_148, gn_150, gn_151, gn_152, gn_157, gn_158, gn_153, gn_154, gn_155, gn_156, gr_1, gr_2, gr_3, gr_7, gr_11, gr_16, gr_123, gr_144, gr_149, Nat.reduceAdd, Nat.reduceMul, Nat.reduceDiv, Nat.reduceSub, Nat.reduceMod, Nat.reduceLeDiff, Nat.reduceEqDiff, Nat.add_zero, Nat.zero_add, Nat.mul_one, Nat.one_mul, Nat.mul_zero, Nat.reduceLT]
  have ca : gI M2 157 2 < gI M2 122 3 ↔ sVtx P a 2 < sNear P := by rw [nr]; exact a_lt (w1 2 (by omega)) n3
  have cb : gI M2 158 2 < gI M2 122 3 ↔ sVtx P b 2 < sNear P := by rw [nr]; exact a_lt (u2 2 (by omega)) n3
  unfold sEdge at h4 ⊢
  have nl : l.length < 4 → gI M2 122 27 = nI l.length := fun _ => hl2.1
  by_cases h1 : sNear P ≤ sVtx P a 2
  · have c1 : ¬ gI M2 157 2 < gI M2 122 3 := by rw [ca]; omega
    rw [if_pos h1] at h4 ⊢
    by_cases h2 : sNear P ≤ sVtx P b 2
    · have c2 : ¬ gI M2 158 2 < gI M2 122 3 := by rw [cb]; omega
      rw [if_pos h2] at h4 ⊢
      have l4 : l.length < 4 := by simp at h4; omega
      have gl := gN_145 l4
      refine ⟨sC (sI M2 122 27 (nI (l.length + 1))) (145 + l.length) 0 8 (fun j => gI M2 157 j), fun rec => ?_, ?_, fun g k q => ?_, s12⟩
      · rw [head, if_neg c1]
        have q9 : ¬ (157 = 122) := by omega
        simp (disch := omega) only [bk_X11_makePolygon_70_7, bk_X11_makePolygon_89_7, bk_X11_makePolygon_122_7, bk_X11_makePolygon_159_7, c2, hl2.1, gl, Nat.le_refl, decide_true, gI_sI, q9, false_and, ↓bnd_d, grdT, bndOs, bndTr, bndTl, ↓reduceIte, n_in, n_cl, n_le, n_lt, n_eq, n_m, n_a, i_0, i_1, i_2, i_3, i_4, i_5, i_6, i_7, i_8, i_15, i_23, i_24, i_29, i_30, i_39, i_40, i_128, i_255, i_960, i_2048, gn_1, gn_2, gn_3, gn_5, gn_7, gn_11, gn_16, gn_40, gn_41, gn_115, gn_117, gn_119, gn_121, gn_123, gn_130, gn_135, gn_136, gn_137, gn_144, gn_149, gn_159, gn_160, gn_161, gn_28, gn_29, gn_30, gn_32, gn_33, gn_34, gn_36, gn_37, gn_38, gn_138, gn_139, gn_140, gn_141, gn_142, gn_143, gn_124, gn_125, gn_126, gn_127, gn_128, gn_129, gn_131, gn_132, gn_133, gn_134, gn_145, gn_146, gn_147, gn_148, gn_150, gn_151, gn_152, gn_157, gn_158, gn_153, gn_154, gn_155, gn_156, gr_1, gr_2, gr_3, gr_7, gr_11, gr_16, gr_123, gr_144, gr_149, Nat.reduceAdd, Nat.reduceMul, Nat.reduceDiv, Nat.reduceSub, Nat.reduceMod, Nat.reduceLeDiff, Nat.reduceEqDiff, Nat.add_zero, Nat.zero_add, Nat.mul_one, Nat.one_mul, Nat.mul_zero, Nat.reduceLT]
      · refine rPoly_add hl2 l4 ?_ (fun k hk => ?_) (fun g k q1 q2 => ?_)
        · rw [gI_sC, if_neg (by omega), gI_sI, if_pos ⟨rfl, rfl⟩]
        · rw [gI_sC, if_pos ⟨rfl, by omega, by omega⟩]; exact w1 k hk
        · rw [gI_sC, if_neg (by omega), gI_sI, if_neg q2]
      · rw [gI_sC, if_neg (by unfold mpS at q; omega), gI_sI, if_neg (by unfold mpS at q; omega)]; exact f12 g k q
    · have c2 : gI M2 158 2 < gI M2 122 3 := by rw [cb]; omega
      rw [if_neg h2] at h4 ⊢
      have l4 : l.length + 1 < 4 := by simp at h4; omega
      have gl := gN_145 (show l.length < 4 by omega)
      generalize hM3 : sC (sI M2 122 27 (nI (l.length + 1))) (145 + l.length) 0 8 (fun j => gI M2 157 j) = M3
      have m3 : rPoly M3 (l ++ [sVtx P a]) := by
        subst hM3
        refine rPoly_add hl2 (by omega) ?_ (fun k hk => ?_) (fun g k q1 q2 => ?_)
        · rw [gI_sC, if_neg (by omega), gI_sI, if_pos ⟨rfl, rfl⟩]
        · rw [gI_sC, if_pos ⟨rfl, by omega, by omega⟩]; exact w1 k hk
        · rw [gI_sC, if_neg (by omega), gI_sI, if_neg q2]
      have f3 : ∀ g k, g ≠ 145 + l.length → ¬ (g = 122 ∧ k = 27) → gI M3 g k = gI M2 g k := fun g k q1 q2 => by
        subst hM3; rw [gI_sC, if_neg (by omega), gI_sI, if_neg q2]
      have s3 : M3.2 = M.2 := by subst hM3; exact s12
      have hl1 : (l ++ [sVtx P a]).length = l.length + 1 := by simp
      have c27 : gI M3 122 27 = nI (l.length + 1) := by rw [m3.1, hl1]
      have hR3 : RV P M3 := hR2.to fun g k q => f3 g k (by omega) (by omega)
      obtain ⟨M5, t5, u5, f5, s5⟩ := r_cut (M := sI M3 122 27 (nI (l.length + 1 + 1))) (a := 157) (b := 158) (o := 145 + (l.length + 1)) (p := sVtx P a) (q := sVtx P b) hF hO (hR3.to fun g k q => by rw [gI_sI, if_neg (by omega)]) (by omega) (by omega) (by omega)
        (fun k hk => by rw [gI_sI, if_neg (by omega), f3 157 k (by omega) (by omega)]; exact w1 k hk) (fun k hk => by rw [gI_sI, if_neg (by omega), f3 158 k (by omega) (by omega)]; exact u2 k hk) gva gvb h1 h2
      have st2 : ∀ rec, bk_X11_makePolygon_122_7 F rec (nI p) (nI i) 1 0 M3 = rec (nI (i + 1)) M5 := fun rec => by
        simp (disch := omega) only [bk_X11_makePolygon_122_7, bk_X11_makePolygon_159_7, c27, t5, ↓bnd_d, grdT, bndOs, bndTr, bndTl, ↓reduceIte, n_in, n_cl, n_le, n_lt, n_eq, n_m, n_a, i_0, i_1, i_2, i_3, i_4, i_5, i_6, i_7, i_8, i_15, i_23, i_24, i_29, i_30, i_39, i_40, i_128, i_255, i_960, i_2048, gn_1, gn_2, gn_3, gn_5, gn_7, gn_11, gn_16, gn_40, gn_41, gn_115, gn_117, gn_119, gn_121, gn_123, gn_130, gn_135, gn_136, gn_137, gn_144, gn_149, gn_159, gn_160, gn_161, gn_28, gn_29, gn_30, gn_32, gn_33, gn_34, gn_36, gn_37, gn_38, gn_138, gn_139, gn_140, gn_141, gn_142, gn_143, gn_124, gn_125, gn_126, gn_127, gn_128, gn_129, gn_131, gn_132, gn_133, gn_134, gn_145, gn_146, gn_147, gn_148, gn_150, gn_151, gn_152, gn_157, gn_158, gn_153, gn_154, gn_155, gn_156, gr_1, gr_2, gr_3, gr_7, gr_11, gr_16, gr_123, gr_144, gr_149, Nat.reduceAdd, Nat.reduceMul, Nat.reduceDiv, Nat.reduceSub, Nat.reduceMod, Nat.reduceLeDiff, Nat.reduceEqDiff, Nat.add_zero, Nat.zero_add, Nat.mul_one, Nat.one_mul, Nat.mul_zero, Nat.reduceLT]
      refine ⟨M5, fun rec => ?_, ?_, fun g k q => ?_, ?_⟩
      · rw [head, if_neg c1]
        unfold bk_X11_makePolygon_70_7
        rw [bnd_d, if_pos c2]
        exact (r_b89 (by omega) hl2.1 hM3 rec).trans (st2 rec)
      · rw [show l ++ [sVtx P a, sCut (sNear P) (sVtx P a) (sVtx P b)] = (l ++ [sVtx P a]) ++ [sCut (sNear P) (sVtx P a) (sVtx P b)] by simp]
        refine rPoly_add m3 (by omega) ?_ (fun k hk => ?_) (fun g k q1 q2 => ?_)
        · rw [f5 122 27 (by omega), gI_sI, if_pos ⟨rfl, rfl⟩, hl1]
        · rw [hl1]; exact u5 k hk
        · rw [f5 g k (by omega), gI_sI, if_neg q2]
      · have q' := q
        unfold mpS at q'
        rw [f5 g k (by omega), gI_sI, if_neg (by omega), f3 g k (by omega) (by omega)]; exact f12 g k q
      · rw [s5]; exact s3
  · have c1 : gI M2 157 2 < gI M2 122 3 := by rw [ca]; omega
    rw [if_neg h1] at h4 ⊢
    by_cases h2 : sNear P ≤ sVtx P b 2
    · have c2 : ¬ gI M2 158 2 < gI M2 122 3 := by rw [cb]; omega
      rw [if_pos h2] at h4 ⊢
      have l4 : l.length < 4 := by simp at h4; omega
      obtain ⟨M5, t5, u5, f5, s5⟩ := r_cut (M := sI M2 122 27 (nI (l.length + 1))) (a := 158) (b := 157) (o := 145 + l.length) (p := sVtx P b) (q := sVtx P a) hF hO (hR2.to fun g k q => by rw [gI_sI, if_neg (by omega)]) (by omega) (by omega) (by omega)
        (fun k hk => by rw [gI_sI, if_neg (by omega)]; exact u2 k hk) (fun k hk => by rw [gI_sI, if_neg (by omega)]; exact w1 k hk) gvb gva h2 h1
      refine ⟨M5, fun rec => ?_, ?_, fun g k q => ?_, ?_⟩
      · rw [head, if_pos c1]
        simp (disch := omega) only [bk_X11_makePolygon_70_7, bk_X11_makePolygon_89_7, bk_X11_makePolygon_122_7, bk_X11_makePolygon_159_7, c2, hl2.1, t5, ↓bnd_d, grdT, bndOs, bndTr, bndTl, ↓reduceIte, n_in, n_cl, n_le, n_lt, n_eq, n_m, n_a, i_0, i_1, i_2, i_3, i_4, i_5, i_6, i_7, i_8, i_15, i_23, i_24, i_29, i_30, i_39, i_40, i_128, i_255, i_960, i_2048, gn_1, gn_2, gn_3, gn_5, gn_7, gn_11, gn_16, gn_40, gn_41, gn_115, gn_117, gn_119, gn_121, gn_123, gn_130, gn_135, gn_136, gn_137, gn_144, gn_149, gn_159, gn_160, gn_161, gn_28, gn_29, gn_30, gn_32, gn_33, gn_34, gn_36, gn_37, gn_38, gn_138, gn_139, gn_140, gn_141, gn_142, gn_143, gn_124, gn_125, gn_126, gn_127, gn_128, gn_129, gn_131, gn_132, gn_133, gn_134, gn_145, gn_146, gn_147, gn_148, gn_150, gn_151, gn_152, gn_157, gn_158, gn_153, gn_154, gn_155, gn_156, gr_1, gr_2, gr_3, gr_7, gr_11, gr_16, gr_123, gr_144, gr_149, Nat.reduceAdd, Nat.reduceMul, Nat.reduceDiv, Nat.reduceSub, Nat.reduceMod, Nat.reduceLeDiff, Nat.reduceEqDiff, Nat.add_zero, Nat.zero_add, Nat.mul_one, Nat.one_mul, Nat.mul_zero, Nat.reduceLT]
      · refine rPoly_add hl2 l4 ?_ (fun k hk => ?_) (fun g k q1 q2 => ?_)
        · rw [f5 122 27 (by omega), gI_sI, if_pos ⟨rfl, rfl⟩]
        · exact u5 k hk
        · rw [f5 g k (by omega), gI_sI, if_neg q2]
      · have q' := q
        unfold mpS at q'
        rw [f5 g k (by omega), gI_sI, if_neg (by omega)]; exact f12 g k q
      · rw [s5]; exact s12
    · have c2 : gI M2 158 2 < gI M2 122 3 := by rw [cb]; omega
      rw [if_neg h2, List.append_nil]
      refine ⟨M2, fun rec => ?_, hl2, f12, s12⟩
      rw [head, if_pos c1]
      simp (disch := omega) only [bk_X11_makePolygon_70_7, bk_X11_makePolygon_89_7, bk_X11_makePolygon_122_7, bk_X11_makePolygon_159_7, c2, ↓bnd_d, grdT, bndOs, bndTr, bndTl, ↓reduceIte, n_in, n_cl, n_le, n_lt, n_eq, n_m, n_a, i_0, i_1, i_2, i_3, i_4, i_5, i_6, i_7, i_8, i_15, i_23, i_24, i_29, i_30, i_39, i_40, i_128, i_255, i_960, i_2048, gn_1, gn_2, gn_3, gn_5, gn_7, gn_11, gn_16, gn_40, gn_41, gn_115, gn_117, gn_119, gn_121, gn_123, gn_130, gn_135, gn_136, gn_137, gn_144, gn_149, gn_159, gn_160, gn_161, gn_28, gn_29, gn_30, gn_32, gn_33, gn_34, gn_36, gn_37, gn_38, gn_138, gn_139, gn_140, gn_141, gn_142, gn_143, gn_124, gn_125, gn_126, gn_127, gn_128, gn_129, gn_131, gn_132, gn_133, gn_134, gn_145, gn_146, gn_147, gn_148, gn_150, gn_151, gn_152, gn_157, gn_158, gn_153, gn_154, gn_155, gn_156, gr_1, gr_2, gr_3, gr_7, gr_11, gr_16, gr_123, gr_144, gr_149, Nat.reduceAdd, Nat.reduceMul, Nat.reduceDiv, Nat.reduceSub, Nat.reduceMod, Nat.reduceLeDiff, Nat.reduceEqDiff, Nat.add_zero, Nat.zero_add, Nat.mul_one, Nat.one_mul, Nat.mul_zero, Nat.reduceLT]
theorem sOf_lt {P : PM} (h : OK P) (i k : Nat) : sOf P i k < 40 ∧ P 130 (3 * i + k) = nI (sOf P i k) := by
  obtain ⟨-, -, -, -, -, -, -, -, h9, -⟩ := h
  have h := h9 (3 * i + k)
  have e : ((sOf P i k : Nat) : Int) = (P 130 (3 * i + k)).toInt := by
    unfold sOf; rw [a_nat32 rfl]; omega
  exact ⟨by omega, n_of (by rw [e])⟩
theorem r_makePolygon {P : PM} {M : GM} {F p : Nat} (hF : 3000 ≤ F) (hO : OK P) (hR : RV P M) (hp : p < 30) :
    ∃ M', f_X11_makePolygon F (nI p) M = some M' ∧ rPoly M' (sPane P p) ∧ (∀ g k, ¬ mpS g k → gI M' g k = gI M g k) ∧ M'.2 = M.2 := by
  obtain ⟨x0, y0⟩ := sOf_lt hO p 0
  obtain ⟨x1, y1⟩ := sOf_lt hO p 1
  obtain ⟨x2, y2⟩ := sOf_lt hO p 2
  obtain ⟨b1, b2, b3, b4⟩ := sPoly_len (sNear P) (sVtx P (sOf P p 0)) (sVtx P (sOf P p 1)) (sVtx P (sOf P p 2))
  have hR0 : RV P (sI M 122 27 0) := hR.to fun g k q => by rw [gI_sI, if_neg (by omega)]
  obtain ⟨M1, t1, l1, f1, s1⟩ := r_step (i := 0) (l := []) hF hO hR0 hp (by omega) ⟨by rw [gI_sI, if_pos ⟨rfl, rfl⟩]; rfl, fun j v hv => by simp at hv⟩ y0 y1 x0 x1 (by simp; omega)
  have hR1 := mp_RV hR0 f1
  obtain ⟨M2, t2, l2, f2, s2⟩ := r_step (i := 1) hF hO hR1 hp (by omega) l1 y1 y2 x1 x2 (by simp; omega)
  have hR2 := mp_RV hR1 f2
  obtain ⟨M3, t3, l3, f3, s3⟩ := r_step (i := 2) hF hO hR2 hp (by omega) l2 y2 y0 x2 x0 (by simp only [List.length_append, List.nil_append]; omega)
  refine ⟨M3, ?_, ?_, fun g k q => ?_, ?_⟩
  · obtain ⟨m, rfl⟩ : ∃ m, F = m + 3000 := ⟨F - 3000, by omega⟩
    have L : lp_X11_makePolygon_7 (m + 3000) (nI p) (m + 3000) (nI 0) (sI M 122 27 0) = some M3 := by
      rw [el_X11_makePolygon_7, t1, el_X11_makePolygon_7, t2, el_X11_makePolygon_7, t3, el_X11_makePolygon_7]
      simp (disch := omega) only [st_X11_makePolygon_7, ↓bnd_d, grdT, bndOs, bndTr, bndTl, ↓reduceIte, n_in, n_cl, n_le, n_lt, n_eq, n_m, n_a, i_0, i_1, i_2, i_3, i_4, i_5, i_6, i_7, i_8, i_15, i_23, i_24, i_29, i_30, i_39, i_40, i_128, i_255, i_960, i_2048, gn_1, gn_2, gn_3, gn_5, gn_7, gn_11, gn_16, gn_40, gn_41, gn_115, gn_117, gn_119, gn_121, gn_123, gn_130, gn_135, gn_136, gn_137, gn_144, gn_149, gn_159, gn_160, gn_161, gn_28, gn_29, gn_30, gn_32, gn_33, gn_34, gn_36, gn_37, gn_38, gn_138, gn_139, gn_140, gn_141, gn_142, gn_143, gn_124, gn_125, gn_126, gn_127, gn_128, gn_129, gn_131, gn_132, gn_133, gn_134, gn_145, gn_146, gn_147, gn_148, gn_150, gn_151, gn_152, gn_157, gn_158, gn_153, gn_154, gn_155, gn_156, gr_1, gr_2, gr_3, gr_7, gr_11, gr_16, gr_123, gr_144, gr_149, Nat.reduceAdd, Nat.reduceMul, Nat.reduceDiv, Nat.reduceSub, Nat.reduceMod, Nat.reduceLeDiff, Nat.reduceEqDiff, Nat.add_zero, Nat.zero_add, Nat.mul_one, Nat.one_mul, Nat.mul_zero, Nat.reduceLT]
    unfold f_X11_makePolygon
    rw [bnd_d, bnd_d]
    exact bndO_s _ L
  · have e : sPane P p = [] ++ sEdge (sNear P) (sVtx P (sOf P p 0)) (sVtx P (sOf P p 1)) ++ sEdge (sNear P) (sVtx P (sOf P p 1)) (sVtx P (sOf P p 2)) ++ sEdge (sNear P) (sVtx P (sOf P p 2)) (sVtx P (sOf P p 0)) := by
      unfold sPane sPoly; simp
    rw [e]; exact l3
  · rw [f3 g k q, f2 g k q, f1 g k q, gI_sI, if_neg (by unfold mpS at q; omega)]
  · rw [s3, s2, s1]; rfl
