/-! PURE PART: the class's polygon -/
/-- the class keeps P, in its own cells -/
def CV (P : PM) (M : GM) : Prop :=
  (gI M 0 12 = P 122 1 ∧ gI M 0 13 = P 122 2 ∧ gI M 0 14 = P 122 5 ∧ gI M 4 1 = P 122 3 ∧ gI M 4 2 = P 122 4) ∧ (∀ k, k < 12 → gI M 5 k = P 137 k) ∧
  (∀ c, c < 40 → gI M (44 + c) 0 = P 124 c ∧ gI M (44 + c) 1 = P 125 c ∧ gI M (44 + c) 2 = P 126 c ∧ gI M (44 + c) 3 = P 127 c ∧ gI M (44 + c) 4 = P 128 c ∧ gI M (44 + c) 5 = P 129 c) ∧
  (∀ i, i < 30 → gI M (84 + i) 0 = P 130 (3 * i + 0) ∧ gI M (84 + i) 1 = P 130 (3 * i + 1) ∧ gI M (84 + i) 2 = P 130 (3 * i + 2) ∧ gI M (84 + i) 3 = P 131 i ∧ gI M (84 + i) 4 = P 132 i ∧ gI M (84 + i) 5 = P 133 i ∧ gI M (84 + i) 6 = P 134 i) ∧
  (∀ t, t < 4 → gI M (114 + 2 * t) 1 = P 136 t ∧ ∀ j, j < 64 → gI M (115 + 2 * t) j = P 135 (64 * t + j)) ∧
  (∀ k, k < 960 → gI M 28 k = P 138 k ∧ gI M 29 k = P 139 k ∧ gI M 30 k = P 140 k)
def cvS (g : Nat) : Prop := g = 0 ∨ g = 4 ∨ g = 5 ∨ (28 ≤ g ∧ g ≤ 30) ∨ (44 ≤ g ∧ g ≤ 121)
theorem CV.to {P : PM} {M M' : GM} (h : CV P M) (f : ∀ g k, cvS g → gI M' g k = gI M g k) : CV P M' := by
  obtain ⟨⟨a1, a2, a3, a4, a5⟩, b, c, d, e, p⟩ := h
  have e0 : ∀ k, gI M' 0 k = gI M 0 k := fun k => f 0 k (by unfold cvS; omega)
  have e4 : ∀ k, gI M' 4 k = gI M 4 k := fun k => f 4 k (by unfold cvS; omega)
  refine ⟨⟨by rw [e0, a1], by rw [e0, a2], by rw [e0, a3], by rw [e4, a4], by rw [e4, a5]⟩, fun k hk => by rw [f 5 k (by unfold cvS; omega), b k hk], fun i hi => ?_, fun i hi => ?_, fun t ht => ?_, fun k hk => ?_⟩
  · have e1 : ∀ k, gI M' (44 + i) k = gI M (44 + i) k := fun k => f _ k (by unfold cvS; omega)
    simp only [e1]; exact c i hi
  · have e1 : ∀ k, gI M' (84 + i) k = gI M (84 + i) k := fun k => f _ k (by unfold cvS; omega)
    simp only [e1]; exact d i hi
  · have e1 : ∀ k, gI M' (114 + 2 * t) k = gI M (114 + 2 * t) k := fun k => f _ k (by unfold cvS; omega)
    have e2 : ∀ k, gI M' (115 + 2 * t) k = gI M (115 + 2 * t) k := fun k => f _ k (by unfold cvS; omega)
    simp only [e1, e2]; exact e t ht
  · rw [f 28 k (by unfold cvS; omega), f 29 k (by unfold cvS; omega), f 30 k (by unfold cvS; omega)]; exact p k hk
theorem c_along {P : PM} {M : GM} {F c r : Nat} (hO : OK P) (hR : CV P M) (hc : c < 40) (hr : r < 3) : ∃ v, f_X1_along F (nI r) (44 + c) M = some v ∧ v.toInt = sSeen P c r := by
  have q := hR.2.2.1 c hc
  have e := fun k hk => hR.2.1 k hk
  refine ⟨((P 137 (4 * r) * P 124 c + P 137 (4 * r + 1) * P 125 c + P 137 (4 * r + 2) * P 126 c) >>> ((10 : Int32) &&& 31)) + P 137 (4 * r + 3), ?_, ?_⟩
  · rw [← e (4 * r) (by omega), ← e (4 * r + 1) (by omega), ← e (4 * r + 2) (by omega), ← e (4 * r + 3) (by omega), ← q.1, ← q.2.1, ← q.2.2.1]
    simp (disch := omega) only [f_X1_along, ↓bnd_d, grdT, bndOs, bndTr, bndTl, ↓reduceIte, n_in, n_cl, n_le, n_lt, n_eq, n_m, n_a, i_0, i_1, i_2, i_3, i_4, i_5, i_6, i_7, i_8, i_15, i_23, i_24, i_29, i_30, i_39, i_40, i_128, i_255, i_960, i_2048, gn_1, gn_2, gn_3, gn_5, gn_7, gn_11, gn_16, gn_40, gn_41, gn_115, gn_117, gn_119, gn_121, gn_123, gn_130, gn_135, gn_136, gn_137, gn_144, gn_149, gn_159, gn_160, gn_161, gn_28, gn_29, gn_30, gn_32, gn_33, gn_34, gn_36, gn_37, gn_38, gn_138, gn_139, gn_140, gn_141, gn_142, gn_143, gn_124, gn_125, gn_126, gn_127, gn_128, gn_129, gn_131, gn_132, gn_133, gn_134, gn_145, gn_146, gn_147, gn_148, gn_150, gn_151, gn_152, gn_157, gn_158, gn_153, gn_154, gn_155, gn_156, gr_1, gr_2, gr_3, gr_7, gr_11, gr_16, gr_123, gr_144, gr_149, Nat.reduceAdd, Nat.reduceMul, Nat.reduceDiv, Nat.reduceSub, Nat.reduceMod, Nat.reduceLeDiff, Nat.reduceEqDiff, Nat.add_zero, Nat.zero_add, Nat.mul_one, Nat.one_mul, Nat.mul_zero, Nat.reduceLT]
  · obtain ⟨-, -, -, -, hp, -, -, -, -, -, -, -, -, hcm, -⟩ := hO
    exact a_seen (hcm _) (hcm _) (hcm _) (hcm _) (hp 0 c (by omega)) (hp 1 c (by omega)) (hp 2 c (by omega))
theorem c_look {P : PM} {M : GM} {F c e : Nat} (hO : OK P) (hR : CV P M) (hc : c < 40) (he : 8 ≤ e ∧ e ≤ 10) :
    ∃ M', f_X1_look F (44 + c) e M = some M' ∧ (∀ k, k < 8 → (gI M' e k).toInt = sVtx P c k) ∧ (∀ g k, g ≠ e → gI M' g k = gI M g k) ∧ M'.2 = M.2 := by
  obtain ⟨v0, e0, h0⟩ := c_along (F := F) hO hR hc (r := 0) (by omega)
  have hR1 : CV P (sI M e 0 v0) := hR.to fun g k h => by unfold cvS at h; rw [gI_sI, if_neg (by omega)]
  obtain ⟨v1, e1, h1⟩ := c_along (F := F) hO hR1 hc (r := 1) (by omega)
  have hR2 : CV P (sI (sI M e 0 v0) e 1 v1) := hR1.to fun g k h => by unfold cvS at h; rw [gI_sI, if_neg (by omega)]
  obtain ⟨v2, e2, h2⟩ := c_along (F := F) hO hR2 hc (r := 2) (by omega)
  obtain ⟨-, -, -, q3, q4, q5⟩ := hR.2.2.1 c hc
  have hcol := hO.2.2.2.2.2.1 c
  have ne : ¬ 44 + c = e := by omega
  refine ⟨sI (sI (sI (sI (sI (sI (sI (sI M e 0 v0) e 1 v1) e 2 v2) e 3 (P 128 c)) e 4 (P 129 c)) e 5 (f_X10_redOf (P 127 c))) e 6 (f_X10_greenOf (P 127 c))) e 7 (f_X10_blueOf (P 127 c)), ?_, fun k hk => ?_, fun g k hg => ?_, rfl⟩
  · unfold f_X1_look
    rw [bndO_s _ (show f_X1_along F 0 (44 + c) M = some v0 from e0), bnd_d, bndO_s _ (show f_X1_along F 1 (44 + c) (sI M e 0 v0) = some v1 from e1), bnd_d, bndO_s _ (show f_X1_along F 2 (44 + c) (sI (sI M e 0 v0) e 1 v1) = some v2 from e2)]
    simp only [bnd_d, gI_sI, ne, false_and, if_false, q3, q4, q5]
  · rcases k8 hk with rfl | rfl | rfl | rfl | rfl | rfl | rfl | rfl <;> simp only [gI_sI, sVtx] <;> simp
    · exact h0
    · exact h1
    · exact h2
    · exact a_redC _ hcol.1 hcol.2
    · exact a_greenC _
    · exact a_blueC _
  · simp only [gI_sI, hg, false_and, if_false]
theorem c_between {M : GM} {F : Nat} {a b : Int32} {d w : Int64} {a' b' d' w' : Int} (ha : a.toInt = a') (hb : b.toInt = b') (hd : d.toInt = d') (hw : w.toInt = w') (ba : -36000 ≤ a' ∧ a' ≤ 36000) (bb : -36000 ≤ b' ∧ b' ≤ 36000) (h0 : 0 ≤ d') (h1 : d' < w') (h2 : w' ≤ 72000) :
    ∃ v, f_X9_between F a b d w M = some v ∧ v.toInt = a' + ((b' - a') * d') / w' := by
  have mb := a_mb (a := b' - a') (b := d') (A := 72000) (B := 72000) (by omega) (by omega) (by omega) (by omega)
  have s1 := a_mul64 (a_64 (a_sub hb ha (by omega) (by omega))) hd (by omega) (by omega)
  obtain ⟨q, q1, q2⟩ := a_fdiv64 F M s1 hw (by omega) (by omega) (by omega)
  have bd := sCut_bd (L := -36000) (U := 36000) h0 h1 ba bb
  refine ⟨_, ?_, a_add ha (a_32 q2 (by omega) (by omega)) (by omega) (by omega)⟩
  unfold f_X9_between
  rw [if_neg (by rw [lg_cmp_eq, a_eq64 hw (show (0 : Int64).toInt = 0 from rfl)]; omega), bndO_s _ q1]
theorem c_cut {P : PM} {M : GM} {F a b o : Nat} {p q : V} {nr : Int32} (hnr : nr.toInt = sNear P) (hO : OK P) (hab : a ≠ o ∧ b ≠ o)
    (hp : ∀ k, k < 8 → (gI M a k).toInt = p k) (hq : ∀ k, k < 8 → (gI M b k).toInt = q k) (gp : gv0 p) (gq : gv0 q) (h1 : sNear P ≤ p 2) (h2 : ¬ sNear P ≤ q 2) :
    ∃ M', f_X9_cut F o a b nr M = some M' ∧ (∀ k, k < 8 → (gI M' o k).toInt = sCut (sNear P) p q k) ∧ (∀ g k, g ≠ o → gI M' g k = gI M g k) ∧ M'.2 = M.2 := by
  have hn : 1 ≤ sNear P ∧ sNear P ≤ 1000 := hO.2.1
  have hp2 := gp.1 2 (by omega)
  have hq2 := gq.1 2 (by omega)
  have w1 := a_64 (a_sub (hp 2 (by omega)) hnr (by omega) (by omega))
  have w2 := a_64 (a_sub (hp 2 (by omega)) (hq 2 (by omega)) (by omega) (by omega))
  have B : ∀ (M2 : GM) k, k < 8 → ∃ v, f_X9_between F (gI M a k) (gI M b k) ((gI M a 2) - nr).toInt64 ((gI M a 2) - (gI M b 2)).toInt64 M2 = some v ∧ v.toInt = sRaw (sNear P) p q k := fun M2 k hk =>
    c_between (hp k hk) (hq k hk) w1 w2 (gv0_k gp hk) (gv0_k gq hk) (by omega) (by omega) (by omega)
  obtain ⟨v0, a0, b0⟩ := B M 0 (by omega)
  obtain ⟨v1, a1, b1⟩ := B (sI M o 0 v0) 1 (by omega)
  obtain ⟨v3, a3, b3⟩ := B (sI (sI (sI M o 0 v0) o 1 v1) o 2 nr) 3 (by omega)
  obtain ⟨v4, a4, b4⟩ := B (sI (sI (sI (sI M o 0 v0) o 1 v1) o 2 nr) o 3 v3) 4 (by omega)
  obtain ⟨v5, a5, b5⟩ := B (sI (sI (sI (sI (sI M o 0 v0) o 1 v1) o 2 nr) o 3 v3) o 4 v4) 5 (by omega)
  obtain ⟨v6, a6, b6⟩ := B (sI (sI (sI (sI (sI (sI M o 0 v0) o 1 v1) o 2 nr) o 3 v3) o 4 v4) o 5 v5) 6 (by omega)
  obtain ⟨v7, a7, b7⟩ := B (sI (sI (sI (sI (sI (sI (sI M o 0 v0) o 1 v1) o 2 nr) o 3 v3) o 4 v4) o 5 v5) o 6 v6) 7 (by omega)
  have na : ¬ a = o := hab.1
  have nb : ¬ b = o := hab.2
  refine ⟨sI (sI (sI (sI (sI (sI (sI (sI M o 0 v0) o 1 v1) o 2 nr) o 3 v3) o 4 v4) o 5 v5) o 6 v6) o 7 v7, ?_, fun k hk => ?_, fun g k hg => ?_, rfl⟩
  · unfold f_X9_cut
    simp only [bnd_d]
    rw [bndO_s _ a0]
    simp only [gI_sI, na, nb, false_and, if_false]
    rw [bndO_s _ a1, bndO_s _ a3]
    rw [bndO_s _ a4, bndO_s _ a5, bndO_s _ a6, bndO_s _ a7]
  · have e : ∀ k, k ≠ 2 → sCut (sNear P) p q k = sRaw (sNear P) p q k := fun k h => by unfold sCut sRaw; rw [if_neg h]
    rcases k8 hk with rfl | rfl | rfl | rfl | rfl | rfl | rfl | rfl <;> simp only [gI_sI] <;> simp
    · rw [e 0 (by omega)]; exact b0
    · rw [e 1 (by omega)]; exact b1
    · exact hnr
    · rw [e 3 (by omega)]; exact b3
    · rw [e 4 (by omega)]; exact b4
    · rw [e 5 (by omega)]; exact b5
    · rw [e 6 (by omega)]; exact b6
    · rw [e 7 (by omega)]; exact b7
  · simp only [gI_sI, hg, false_and, if_false]
theorem c_copy {M : GM} {o a : Nat} {p : V} (hao : a ≠ o) (hp : ∀ k, k < 8 → (gI M a k).toInt = p k) :
    (∀ k, k < 8 → (gI (f_X9_copy o a M) o k).toInt = p k) ∧ (∀ g k, g ≠ o → gI (f_X9_copy o a M) g k = gI M g k) ∧ (f_X9_copy o a M).2 = M.2 := by
  have na : ¬ a = o := hao
  unfold f_X9_copy
  simp only [bnd_d, gI_sI, na, false_and, if_false]
  refine ⟨fun k hk => ?_, fun g k hg => ?_, rfl⟩
  · rcases k8 hk with rfl | rfl | rfl | rfl | rfl | rfl | rfl | rfl <;> simp <;> exact hp _ (by omega)
  · simp only [hg, false_and, if_false]
/-- the corners of the polygon in the class's spots -/
def cPoly (M : GM) (l : List V) : Prop := gI M 6 3 = nI l.length ∧ ∀ j v, l[j]? = some v → ∀ k, k < 8 → (gI M (12 + j) k).toInt = v k
theorem cPoly_add {M M2 : GM} {l : List V} {v : V} (h : cPoly M l) (hc : gI M2 6 3 = nI (l.length + 1)) (hv : ∀ k, k < 8 → (gI M2 (12 + l.length) k).toInt = v k)
    (ho : ∀ g k, g ≠ 12 + l.length → ¬ (g = 6 ∧ k = 3) → gI M2 g k = gI M g k) : cPoly M2 (l ++ [v]) := by
  refine ⟨by rw [hc]; simp, fun j w hw k hk => ?_⟩
  rcases Nat.lt_or_ge j l.length with q | q
  · rw [List.getElem?_append_left q] at hw
    rw [ho _ _ (by omega) (by omega)]
    exact h.2 j w hw k hk
  · rw [List.getElem?_append_right q] at hw
    rcases Nat.eq_or_lt_of_le q with q2 | q2
    · subst q2
      rw [Nat.sub_self] at hw
      cases hw
      exact hv k hk
    · rw [List.getElem?_eq_none (by simp; omega)] at hw; cases hw
/-- what cutAt may change -/
def caS (g k : Nat) : Prop := (g = 6 ∧ k = 3) ∨ (12 ≤ g ∧ g ≤ 15)
