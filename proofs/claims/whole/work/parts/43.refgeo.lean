/-! PURE PART: the reference's polygon -/
/-- the reference keeps P -/
def RV (P : PM) (M : GM) : Prop := (∀ k, 1 ≤ k → k ≤ 5 → gI M 122 k = P 122 k) ∧ ∀ g k, 124 ≤ g → g ≤ 140 → gI M g k = P g k
theorem RV.to {P : PM} {M M' : GM} (h : RV P M) (f : ∀ g k, ((g = 122 ∧ k ≤ 5 ∧ 1 ≤ k) ∨ (124 ≤ g ∧ g ≤ 140)) → gI M' g k = gI M g k) : RV P M' :=
  ⟨fun k a b => (f 122 k (Or.inl ⟨rfl, b, a⟩)).trans (h.1 k a b), fun g k a b => (f g k (Or.inr ⟨a, b⟩)).trans (h.2 g k a b)⟩
theorem r_seenBy {P : PM} {M : GM} {F c r : Nat} (hF : 3000 ≤ F) (hO : OK P) (hR : RV P M) (hc : c < 40) (hr : r < 3) :
    ∃ v, f_X11_seenBy F (nI c) (nI r) M = some v ∧ v.toInt = sSeen P c r := by
  obtain ⟨m, rfl⟩ : ∃ m, F = m + 3000 := ⟨F - 3000, by omega⟩
  refine ⟨((P 137 (4 * r) * P 124 c + P 137 (4 * r + 1) * P 125 c + P 137 (4 * r + 2) * P 126 c) >>> ((10 : Int32) &&& 31)) + P 137 (4 * r + 3), ?_, ?_⟩
  · rw [← hR.2 137 (4 * r) (by omega) (by omega), ← hR.2 137 (4 * r + 1) (by omega) (by omega), ← hR.2 137 (4 * r + 2) (by omega) (by omega), ← hR.2 137 (4 * r + 3) (by omega) (by omega), ← hR.2 124 c (by omega) (by omega), ← hR.2 125 c (by omega) (by omega), ← hR.2 126 c (by omega) (by omega)]
    simp (disch := omega) only [f_X11_seenBy, el_X11_seenBy_5, st_X11_seenBy_5, ↓bnd_d, grdT, bndOs, bndTr, bndTl, ↓reduceIte, n_in, n_cl, n_le, n_lt, n_eq, n_m, n_a, i_0, i_1, i_2, i_3, i_4, i_5, i_6, i_7, i_8, i_15, i_23, i_24, i_29, i_30, i_39, i_40, i_128, i_255, i_960, i_2048, gn_1, gn_2, gn_3, gn_5, gn_7, gn_11, gn_16, gn_40, gn_41, gn_115, gn_117, gn_119, gn_121, gn_123, gn_130, gn_135, gn_136, gn_137, gn_144, gn_149, gn_159, gn_160, gn_161, gn_28, gn_29, gn_30, gn_32, gn_33, gn_34, gn_36, gn_37, gn_38, gn_138, gn_139, gn_140, gn_141, gn_142, gn_143, gn_124, gn_125, gn_126, gn_127, gn_128, gn_129, gn_131, gn_132, gn_133, gn_134, gn_145, gn_146, gn_147, gn_148, gn_150, gn_151, gn_152, gn_157, gn_158, gn_153, gn_154, gn_155, gn_156, gr_1, gr_2, gr_3, gr_7, gr_11, gr_16, gr_123, gr_144, gr_149, Nat.reduceAdd, Nat.reduceMul, Nat.reduceDiv, Nat.reduceSub, Nat.reduceMod, Nat.reduceLeDiff, Nat.reduceEqDiff, Nat.add_zero, Nat.zero_add, Nat.mul_one, Nat.one_mul, Nat.mul_zero, Nat.reduceLT]
    rw [show nI 0 = 0 from rfl, Int32.zero_add]
  · obtain ⟨-, -, -, -, hp, -, -, -, -, -, -, -, -, hcm, -⟩ := hO
    exact a_seen (hcm _) (hcm _) (hcm _) (hcm _) (hp 0 c (by omega)) (hp 1 c (by omega)) (hp 2 c (by omega))
theorem k8 {k : Nat} (h : k < 8) : k = 0 ∨ k = 1 ∨ k = 2 ∨ k = 3 ∨ k = 4 ∨ k = 5 ∨ k = 6 ∨ k = 7 := by omega
theorem r_take {P : PM} {M : GM} {F c p : Nat} (hF : 3000 ≤ F) (hO : OK P) (hR : RV P M) (hc : c < 40) (hp : p = 157 ∨ p = 158) :
    ∃ M', f_X11_take F (nI c) p M = some M' ∧ (∀ k, k < 8 → (gI M' p k).toInt = sVtx P c k) ∧ (∀ g k, g ≠ p → gI M' g k = gI M g k) ∧ M'.2 = M.2 := by
  have hp9 : 157 ≤ p := by omega
  have key : ∀ v0 v1 v2 : Int32, f_X11_seenBy F (nI c) (nI 0) M = some v0 → f_X11_seenBy F (nI c) (nI 1) (sI M p 0 v0) = some v1 → f_X11_seenBy F (nI c) (nI 2) (sI (sI M p 0 v0) p 1 v1) = some v2 →
      f_X11_take F (nI c) p M = some (sI (sI (sI (sI (sI (sI (sI (sI M p 0 v0) p 1 v1) p 2 v2) p 3 (P 128 c)) p 4 (P 129 c)) p 5 (f_X11_red (P 127 c))) p 6 (f_X11_green (P 127 c))) p 7 (f_X11_blue (P 127 c))) := by
    intro v0 v1 v2 e0 e1 e2
    obtain ⟨m, rfl⟩ : ∃ m, F = m + 3000 := ⟨F - 3000, by omega⟩
    have d8 : gI M 128 c = P 128 c := hR.2 128 c (by omega) (by omega)
    have d9 : gI M 129 c = P 129 c := hR.2 129 c (by omega) (by omega)
    have d7 : gI M 127 c = P 127 c := hR.2 127 c (by omega) (by omega)
    have q7 : ¬ 127 = p := by omega
    have q8 : ¬ 128 = p := by omega
    have q9 : ¬ 129 = p := by omega
    have gp : gN p = 8 := by rcases hp with rfl | rfl <;> decide +kernel
    simp (disch := omega) only [f_X11_take, el_X11_take_2, st_X11_take_2, e0, e1, e2, gp, gI_sI, q7, q8, q9, false_and, d7, d8, d9, ↓bnd_d, grdT, bndOs, bndTr, bndTl, ↓reduceIte, n_in, n_cl, n_le, n_lt, n_eq, n_m, n_a, i_0, i_1, i_2, i_3, i_4, i_5, i_6, i_7, i_8, i_15, i_23, i_24, i_29, i_30, i_39, i_40, i_128, i_255, i_960, i_2048, gn_1, gn_2, gn_3, gn_5, gn_7, gn_11, gn_16, gn_40, gn_41, gn_115, gn_117, gn_119, gn_121, gn_123, gn_130, gn_135, gn_136, gn_137, gn_144, gn_149, gn_159, gn_160, gn_161, gn_28, gn_29, gn_30, gn_32, gn_33, gn_34, gn_36, gn_37, gn_38, gn_138, gn_139, gn_140, gn_141, gn_142, gn_143, gn_124, gn_125, gn_126, gn_127, gn_128, gn_129, gn_131, gn_132, gn_133, gn_134, gn_145, gn_146, gn_147, gn_148, gn_150, gn_151, gn_152, gn_157, gn_158, gn_153, gn_154, gn_155, gn_156, gr_1, gr_2, gr_3, gr_7, gr_11, gr_16, gr_123, gr_144, gr_149, Nat.reduceAdd, Nat.reduceMul, Nat.reduceDiv, Nat.reduceSub, Nat.reduceMod, Nat.reduceLeDiff, Nat.reduceEqDiff, Nat.add_zero, Nat.zero_add, Nat.mul_one, Nat.one_mul, Nat.mul_zero, Nat.reduceLT]
  obtain ⟨v0, e0, h0⟩ := r_seenBy hF hO hR hc (r := 0) (by omega)
  have hR1 : RV P (sI M p 0 v0) := hR.to fun g k h => by rw [gI_sI, if_neg (by omega)]
  obtain ⟨v1, e1, h1⟩ := r_seenBy hF hO hR1 hc (r := 1) (by omega)
  have hR2 : RV P (sI (sI M p 0 v0) p 1 v1) := hR1.to fun g k h => by rw [gI_sI, if_neg (by omega)]
  obtain ⟨v2, e2, h2⟩ := r_seenBy hF hO hR2 hc (r := 2) (by omega)
  refine ⟨_, key v0 v1 v2 e0 e1 e2, fun k hk => ?_, fun g k hg => ?_, rfl⟩
  · rcases k8 hk with rfl | rfl | rfl | rfl | rfl | rfl | rfl | rfl <;> simp only [gI_sI, sVtx] <;> simp
    · exact h0
    · exact h1
    · exact h2
    · exact a_red _
    · exact a_green _
    · exact a_blue _
  · simp only [gI_sI, hg, false_and, if_false]
/-- the k-th number behind a cut, and its mending -/
def sRaw (near : Int) (p q : V) (k : Nat) : Int := p k + ((q k - p k) * (p 2 - near)) / (p 2 - q 2)
theorem gv0_k {v : V} (h : gv0 v) {k : Nat} (hk : k < 8) : -36000 ≤ v k ∧ v k ≤ 36000 := by
  by_cases h3 : k < 3
  · exact h.1 k h3
  · by_cases h5 : k < 5
    · have := h.2.1 k (by omega) h5; omega
    · have := h.2.2 k (by omega) hk; omega
theorem r_cut {P : PM} {M : GM} {F a b o : Nat} {p q : V} (hF : 3000 ≤ F) (hO : OK P) (hR : RV P M) (ha : 157 ≤ a ∧ a ≤ 158) (hb : 157 ≤ b ∧ b ≤ 158) (ho : 145 ≤ o ∧ o ≤ 148)
    (hp : ∀ k, k < 8 → (gI M a k).toInt = p k) (hq : ∀ k, k < 8 → (gI M b k).toInt = q k) (gp : gv0 p) (gq : gv0 q) (h1 : sNear P ≤ p 2) (h2 : ¬ sNear P ≤ q 2) :
    ∃ M', f_X11_cut F a b o M = some M' ∧ (∀ k, k < 8 → (gI M' o k).toInt = sCut (sNear P) p q k) ∧ (∀ g k, g ≠ o → gI M' g k = gI M g k) ∧ M'.2 = M.2 := by
  have hn : 1 ≤ sNear P ∧ sNear P ≤ 1000 := hO.2.1
  have ga : gN a = 8 := by rcases (show a = 157 ∨ a = 158 by omega) with rfl | rfl <;> decide +kernel
  have gb : gN b = 8 := by rcases (show b = 157 ∨ b = 158 by omega) with rfl | rfl <;> decide +kernel
  have go : gN o = 8 := by rcases (show o = 145 ∨ o = 146 ∨ o = 147 ∨ o = 148 by omega) with rfl | rfl | rfl | rfl <;> decide +kernel
  have hp2 := gp.1 2 (by omega)
  have hq2 := gq.1 2 (by omega)
  have L : ∃ M1, lp_X11_cut_3 F a b o F 0 M = some M1 ∧ ((∀ k, k < 8 → (gI M1 o k).toInt = sRaw (sNear P) p q k) ∧ (∀ g k, g ≠ o → gI M1 g k = gI M g k) ∧ M1.2 = M.2) := by
    refine run_up (fun n (s : Int32 × GM) => lp_X11_cut_3 F a b o n s.1 s.2) (fun i s => s.1 = nI i ∧ (∀ k, k < i → (gI s.2 o k).toInt = sRaw (sNear P) p q k) ∧ (∀ g k, g ≠ o → gI s.2 g k = gI M g k) ∧ s.2.2 = M.2) _ 0 8 F (by omega) (by omega) (s := (0, M)) ⟨rfl, fun k hk => absurd hk (by omega), fun _ _ _ => rfl, rfl⟩ ?_ ?_
    · rintro i ⟨x, M1⟩ - hi ⟨rfl, k1, k2, k3⟩
      have e3 : gI M1 122 3 = P 122 3 := (k2 122 3 (by omega)).trans (hR.1 3 (by omega) (by omega))
      have pa : (gI M1 a i).toInt = p i := by rw [k2 a i (by omega)]; exact hp i hi
      have qb : (gI M1 b i).toInt = q i := by rw [k2 b i (by omega)]; exact hq i hi
      have pa2 : (gI M1 a 2).toInt = p 2 := by rw [k2 a 2 (by omega)]; exact hp 2 (by omega)
      have qb2 : (gI M1 b 2).toInt = q 2 := by rw [k2 b 2 (by omega)]; exact hq 2 (by omega)
      have pi := gv0_k gp hi
      have qi := gv0_k gq hi
      have s1 := a_64 (a_sub qb pa (by omega) (by omega))
      have s2 := a_64 (a_sub pa2 (show (gI M1 122 3).toInt = sNear P by rw [e3]; rfl) (by omega) (by omega))
      have s3 := a_64 (a_sub pa2 qb2 (by omega) (by omega))
      have mb := a_mb (a := q i - p i) (b := p 2 - sNear P) (A := 72000) (B := 72000) (by omega) (by omega) (by omega) (by omega)
      have s4 := a_mul64 s1 s2 (by omega) (by omega)
      obtain ⟨w, w1, w2⟩ := a_down F M1 s4 s3 (by omega) (by omega) (by omega)
      have bd : -36000 ≤ p i + ((q i - p i) * (p 2 - sNear P)) / (p 2 - q 2) ∧ p i + ((q i - p i) * (p 2 - sNear P)) / (p 2 - q 2) ≤ 36000 := sCut_bd (by omega) (by omega) pi qi
      have s5 := a_add pa (a_32 w2 (by omega) (by omega)) (by omega) (by omega)
      refine ⟨(nI (i + 1), sI M1 o i (gI M1 a i + w.toInt32)), ⟨rfl, fun k hk => ?_, fun g k hg => ?_, k3⟩, fun n => ?_⟩
      · rw [gI_sI]
        by_cases hki : k = i
        · rw [if_pos ⟨rfl, hki⟩, hki]; exact s5
        · rw [if_neg (by omega)]; exact k1 k (by omega)
      · rw [gI_sI, if_neg (by omega)]; exact k2 g k hg
      · have hc : ¬ 8 ≤ i := by omega
        simp (disch := omega) only [el_X11_cut_3, st_X11_cut_3, ga, gb, go, w1, hc, ↓bnd_d, grdT, bndOs, bndTr, bndTl, ↓reduceIte, n_in, n_cl, n_le, n_lt, n_eq, n_m, n_a, i_0, i_1, i_2, i_3, i_4, i_5, i_6, i_7, i_8, i_15, i_23, i_24, i_29, i_30, i_39, i_40, i_128, i_255, i_960, i_2048, gn_1, gn_2, gn_3, gn_5, gn_7, gn_11, gn_16, gn_40, gn_41, gn_115, gn_117, gn_119, gn_121, gn_123, gn_130, gn_135, gn_136, gn_137, gn_144, gn_149, gn_159, gn_160, gn_161, gn_28, gn_29, gn_30, gn_32, gn_33, gn_34, gn_36, gn_37, gn_38, gn_138, gn_139, gn_140, gn_141, gn_142, gn_143, gn_124, gn_125, gn_126, gn_127, gn_128, gn_129, gn_131, gn_132, gn_133, gn_134, gn_145, gn_146, gn_147, gn_148, gn_150, gn_151, gn_152, gn_157, gn_158, gn_153, gn_154, gn_155, gn_156, gr_1, gr_2, gr_3, gr_7, gr_11, gr_16, gr_123, gr_144, gr_149, Nat.reduceAdd, Nat.reduceMul, Nat.reduceDiv, Nat.reduceSub, Nat.reduceMod, Nat.reduceLeDiff, Nat.reduceEqDiff, Nat.add_zero, Nat.zero_add, Nat.mul_one, Nat.one_mul, Nat.mul_zero, Nat.reduceLT]
    · rintro ⟨x, M1⟩ ⟨rfl, k1, k2, k3⟩
      exact ⟨M1, ⟨k1, k2, k3⟩, fun n => by simp (disch := omega) only [el_X11_cut_3, st_X11_cut_3, ↓bnd_d, grdT, bndOs, bndTr, bndTl, ↓reduceIte, n_in, n_cl, n_le, n_lt, n_eq, n_m, n_a, i_0, i_1, i_2, i_3, i_4, i_5, i_6, i_7, i_8, i_15, i_23, i_24, i_29, i_30, i_39, i_40, i_128, i_255, i_960, i_2048, gn_1, gn_2, gn_3, gn_5, gn_7, gn_11, gn_16, gn_40, gn_41, gn_115, gn_117, gn_119, gn_121, gn_123, gn_130, gn_135, gn_136, gn_137, gn_144, gn_149, gn_159, gn_160, gn_161, gn_28, gn_29, gn_30, gn_32, gn_33, gn_34, gn_36, gn_37, gn_38, gn_138, gn_139, gn_140, gn_141, gn_142, gn_143, gn_124, gn_125, gn_126, gn_127, gn_128, gn_129, gn_131, gn_132, gn_133, gn_134, gn_145, gn_146, gn_147, gn_148, gn_150, gn_151, gn_152, gn_157, gn_158, gn_153, gn_154, gn_155, gn_156, gr_1, gr_2, gr_3, gr_7, gr_11, gr_16, gr_123, gr_144, gr_149, Nat.reduceAdd, Nat.reduceMul, Nat.reduceDiv, Nat.reduceSub, Nat.reduceMod, Nat.reduceLeDiff, Nat.reduceEqDiff, Nat.add_zero, Nat.zero_add, Nat.mul_one, Nat.one_mul, Nat.mul_zero, Nat.reduceLT]⟩
  obtain ⟨M1, e, k1, k2, k3⟩ := L
  refine ⟨sI M1 o 2 (P 122 3), ?_, fun k hk => ?_, fun g k hg => ?_, k3⟩
  · have e3 : gI M1 122 3 = P 122 3 := (k2 122 3 (by omega)).trans (hR.1 3 (by omega) (by omega))
    rw [← e3]
    unfold f_X11_cut
    rw [bnd_d, bndO_s _ e]
    simp (disch := omega) only [go, ↓bnd_d, grdT, bndOs, bndTr, bndTl, ↓reduceIte, n_in, n_cl, n_le, n_lt, n_eq, n_m, n_a, i_0, i_1, i_2, i_3, i_4, i_5, i_6, i_7, i_8, i_15, i_23, i_24, i_29, i_30, i_39, i_40, i_128, i_255, i_960, i_2048, gn_1, gn_2, gn_3, gn_5, gn_7, gn_11, gn_16, gn_40, gn_41, gn_115, gn_117, gn_119, gn_121, gn_123, gn_130, gn_135, gn_136, gn_137, gn_144, gn_149, gn_159, gn_160, gn_161, gn_28, gn_29, gn_30, gn_32, gn_33, gn_34, gn_36, gn_37, gn_38, gn_138, gn_139, gn_140, gn_141, gn_142, gn_143, gn_124, gn_125, gn_126, gn_127, gn_128, gn_129, gn_131, gn_132, gn_133, gn_134, gn_145, gn_146, gn_147, gn_148, gn_150, gn_151, gn_152, gn_157, gn_158, gn_153, gn_154, gn_155, gn_156, gr_1, gr_2, gr_3, gr_7, gr_11, gr_16, gr_123, gr_144, gr_149, Nat.reduceAdd, Nat.reduceMul, Nat.reduceDiv, Nat.reduceSub, Nat.reduceMod, Nat.reduceLeDiff, Nat.reduceEqDiff, Nat.add_zero, Nat.zero_add, Nat.mul_one, Nat.one_mul, Nat.mul_zero, Nat.reduceLT]
  · rw [gI_sI]
    by_cases hk2 : k = 2
    · subst hk2; rw [if_pos ⟨rfl, rfl⟩]; rfl
    · rw [if_neg (by omega), k1 k hk]; unfold sCut sRaw; rw [if_neg hk2]
  · rw [gI_sI, if_neg (by omega)]; exact k2 g k hg
