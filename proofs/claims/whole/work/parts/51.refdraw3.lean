/-! PURE PART: the reference draws all -/
theorem r_fill {P : PM} {M : GM} {F : Nat} {wo : Int32} (hF : 3000 ≤ F) (hR : RV P M) :
    ∃ M', lp_X11_draw_7 F wo F 0 M = some M' ∧ (∀ k, k < 960 → rPx M' k = sBg P) ∧ (∀ g k, ¬ (141 ≤ g ∧ g ≤ 143) → gI M' g k = gI M g k) ∧ M'.2 = M.2 := by
  refine run_up (fun n (s : Int32 × GM) => lp_X11_draw_7 F wo n s.1 s.2) (fun i s => s.1 = nI i ∧ (∀ k, k < i → rPx s.2 k = sBg P) ∧ (∀ g k, ¬ (141 ≤ g ∧ g ≤ 143) → gI s.2 g k = gI M g k) ∧ s.2.2 = M.2) _ 0 960 F (by omega) (by omega) (s := (0, M)) ⟨rfl, fun k hk => absurd hk (by omega), fun _ _ _ => rfl, rfl⟩ ?_ ?_
  · rintro i ⟨x, M1⟩ - hi ⟨rfl, k1, k2, k3⟩
    have e5 : gI M1 122 5 = P 122 5 := (k2 122 5 (by omega)).trans (hR.1 5 (by omega) (by omega))
    have hc : ¬ 960 ≤ i := by omega
    refine ⟨(nI (i + 1), sI (sI (sI M1 141 i (P 122 5)) 142 i 65535) 143 i (-1)), ⟨rfl, fun k hk => ?_, fun g k h => ?_, k3⟩, fun n => ?_⟩
    · by_cases q : k = i
      · subst q
        unfold rPx sBg
        simp only [gI_sI]
        simp
      · rw [← k1 k (by omega)]
        unfold rPx
        simp only [gI_sI, q, and_false, if_false]
    · rw [gI_sI, if_neg (by omega), gI_sI, if_neg (by omega), gI_sI, if_neg (by omega)]; exact k2 g k h
    · simp (disch := omega) only [el_X11_draw_7, st_X11_draw_7, hc, e5, ↓bnd_d, grdT, bndOs, bndTr, bndTl, ↓reduceIte, n_in, n_cl, n_le, n_lt, n_eq, n_m, n_a, i_0, i_1, i_2, i_3, i_4, i_5, i_6, i_7, i_8, i_15, i_23, i_24, i_29, i_30, i_39, i_40, i_128, i_255, i_960, i_2048, gn_1, gn_2, gn_3, gn_5, gn_7, gn_11, gn_16, gn_40, gn_41, gn_115, gn_117, gn_119, gn_121, gn_123, gn_130, gn_135, gn_136, gn_137, gn_144, gn_149, gn_159, gn_160, gn_161, gn_28, gn_29, gn_30, gn_32, gn_33, gn_34, gn_36, gn_37, gn_38, gn_138, gn_139, gn_140, gn_141, gn_142, gn_143, gn_124, gn_125, gn_126, gn_127, gn_128, gn_129, gn_131, gn_132, gn_133, gn_134, gn_145, gn_146, gn_147, gn_148, gn_150, gn_151, gn_152, gn_157, gn_158, gn_153, gn_154, gn_155, gn_156, gr_1, gr_2, gr_3, gr_7, gr_11, gr_16, gr_123, gr_144, gr_149, Nat.reduceAdd, Nat.reduceMul, Nat.reduceDiv, Nat.reduceSub, Nat.reduceMod, Nat.reduceLeDiff, Nat.reduceEqDiff, Nat.add_zero, Nat.zero_add, Nat.mul_one, Nat.one_mul, Nat.mul_zero, Nat.reduceLT]
  · rintro ⟨x, M1⟩ ⟨rfl, k1, k2, k3⟩
    exact ⟨M1, ⟨k1, k2, k3⟩, fun n => by simp (disch := omega) only [el_X11_draw_7, st_X11_draw_7, ↓bnd_d, grdT, bndOs, bndTr, bndTl, ↓reduceIte, n_in, n_cl, n_le, n_lt, n_eq, n_m, n_a, i_0, i_1, i_2, i_3, i_4, i_5, i_6, i_7, i_8, i_15, i_23, i_24, i_29, i_30, i_39, i_40, i_128, i_255, i_960, i_2048, gn_1, gn_2, gn_3, gn_5, gn_7, gn_11, gn_16, gn_40, gn_41, gn_115, gn_117, gn_119, gn_121, gn_123, gn_130, gn_135, gn_136, gn_137, gn_144, gn_149, gn_159, gn_160, gn_161, gn_28, gn_29, gn_30, gn_32, gn_33, gn_34, gn_36, gn_37, gn_38, gn_138, gn_139, gn_140, gn_141, gn_142, gn_143, gn_124, gn_125, gn_126, gn_127, gn_128, gn_129, gn_131, gn_132, gn_133, gn_134, gn_145, gn_146, gn_147, gn_148, gn_150, gn_151, gn_152, gn_157, gn_158, gn_153, gn_154, gn_155, gn_156, gr_1, gr_2, gr_3, gr_7, gr_11, gr_16, gr_123, gr_144, gr_149, Nat.reduceAdd, Nat.reduceMul, Nat.reduceDiv, Nat.reduceSub, Nat.reduceMod, Nat.reduceLeDiff, Nat.reduceEqDiff, Nat.add_zero, Nat.zero_add, Nat.mul_one, Nat.one_mul, Nat.mul_zero, Nat.reduceLT]⟩
theorem fl_ite (a b : Bool) (c : Prop) [Decidable c] : (if b = true ∧ ¬ c then (1 : Int32) else if a = true ∧ ¬ c then 1 else 0) = if (a || b) = true ∧ ¬ c then 1 else 0 := by
  cases a <;> cases b <;> by_cases h : c <;> simp [h]
def rA (g k : Nat) : Prop := (g = 122 ∧ (k = 24 ∨ k = 27 ∨ k = 39)) ∨ (141 ≤ g ∧ g ≤ 158)
theorem r_pane {P : PM} {M : GM} {F i : Nat} {wo : Int32} (hF : 3000 ≤ F) (hO : OK P) (hR : RV P M) (hi : i < 30) (hn : ¬ P 122 2 ≤ nI i) (hx : ∀ k, k < 960 → rPx M k = sPix P wo i k) :
    ∃ M', (∀ rec, st_X11_draw_47 F wo rec (nI i) M = rec (nI (i + 1)) M') ∧ (∀ k, k < 960 → rPx M' k = sPix P wo (i + 1) k) ∧
      (∀ kk, kk < 960 → gI M 122 25 = nI kk → wo = -1 → gI M 122 24 = nI (sGls P i kk) → gI M' 122 24 = nI (sGls P (i + 1) kk)) ∧
      (∀ g k, ¬ rA g k → gI M' g k = gI M g k) ∧ (∀ g k, ¬ rqL g → gL M' g k = gL M g k) ∧ M'.2.2 = M.2.2 := by
  have ec : gI M 122 2 = P 122 2 := hR.1 2 (by omega) (by omega)
  have es : gI M 134 i = P 134 i := hR.2 134 i (by omega) (by omega)
  have head : ∀ rec, st_X11_draw_47 F wo rec (nI i) M = if P 134 i = 0 then rec (nI (i + 1)) M else if nI i = wo then rec (nI (i + 1)) M else bnd (sI M 122 39 (0 : Int32)) (fun M27 => bndO (f_X11_makePolygon F (nI i) M27) (fun M30 => bnd (0 : Int32) (fun v31 => bndO (lp_X11_draw_84 F wo (nI i) F v31 M30) (fun M45 => if (gI M45 122 39) = 0 then (bnd (sI M45 122 24 ((gI M45 122 24) + (0 : Int32))) (fun M47 => bnd (nI i + (1 : Int32)) (fun v49 => rec v49 M47))) else (bnd (sI M45 122 24 ((gI M45 122 24) + (1 : Int32))) (fun M51 => bnd (nI i + (1 : Int32)) (fun v53 => rec v53 M51))))))) := fun rec => by
    unfold st_X11_draw_47
    rw [ec, if_neg hn, gn_134, grd_t (n_in hi (by omega)), n_cl (by omega), es]
    by_cases h1 : P 134 i = 0
    · rw [if_pos h1, if_pos h1, bnd_d, i_1, n_a]
    · rw [if_neg h1, if_neg h1]
      by_cases h2 : nI i = wo
      · rw [if_pos h2, if_pos h2, bnd_d, i_1, n_a]
      · rw [if_neg h2, if_neg h2]
  by_cases h0 : P 134 i = 0 ∨ nI i = wo
  · refine ⟨M, fun rec => ?_, fun k hk => ?_, fun kk hk hg hw h24 => ?_, fun _ _ _ => rfl, fun _ _ _ => rfl, rfl⟩
    · rw [head]
      rcases h0 with h | h
      · rw [if_pos h]
      · rw [if_pos h, ite_self]
    · rw [hx k hk]; show _ = if _ then _ else _; rw [if_pos h0]
    · rw [h24]
      have h1 : P 134 i = 0 := by
        rcases h0 with h | h
        · exact h
        · rw [hw] at h
          have := congrArg Int32.toInt h
          rw [n_int (by omega)] at this
          have e : (-1 : Int32).toInt = -1 := by decide
          omega
      show _ = nI (sGls P i kk + if _ then 1 else 0)
      rw [if_neg (fun q => q.1 h1), Nat.add_zero]
  · have h1 : ¬ P 134 i = 0 := fun h => h0 (Or.inl h)
    have h2 : ¬ nI i = wo := fun h => h0 (Or.inr h)
    have hR0 : RV P (sI M 122 39 0) := hR.to fun g k h => by rw [gI_sI, if_neg (by omega)]
    obtain ⟨M1, t1, y1, i1, s1⟩ := r_makePolygon hF hO hR0 hi
    have hR1 : RV P M1 := mp_RV hR0 i1
    have px1 : ∀ k, rPx M1 k = rPx M k := fun k => by
      unfold rPx
      rw [i1 _ _ (by unfold mpS; omega), i1 _ _ (by unfold mpS; omega), i1 _ _ (by unfold mpS; omega), gI_sI, if_neg (by omega), gI_sI, if_neg (by omega), gI_sI, if_neg (by omega)]
    have ok1 : ∀ k, k < 960 → pxOK (rPx M1 k) := fun k hk => by rw [px1, hx k hk]; exact sPix_OK hO wo i k
    obtain ⟨M2, t2, x2, g2, i2, l2, p2⟩ := r_pq (q := 0) (wo := wo) hF hO hR1 hi (by omega) y1 ok1
    have hR2 : RV P M2 := hR1.to fun g k h => i2 g k (by unfold rqI; omega)
    obtain ⟨M3, t3, x3, g3, i3, l3, p3⟩ := r_pq (q := 1) (wo := wo) hF hO hR2 hi (by omega) (y1.to (sPane_len P i) fun g k h => i2 g k (by unfold rqI; omega)) (fun k hk => by rw [x2 k hk]; exact sPq_OK hO (ok1 k hk))
    have px3 : ∀ k, k < 960 → rPx M3 k = sPix P wo (i + 1) k := fun k hk => by
      rw [x3 k hk, x2 k hk, px1, hx k hk]
      show _ = if _ then _ else _
      rw [if_neg h0]; rfl
    have L : lp_X11_draw_84 F wo (nI i) F 0 M1 = some M3 := by
      obtain ⟨m, hm⟩ : ∃ m, F = m + 3 := ⟨F - 3, by omega⟩
      generalize hX : lp_X11_draw_84 F wo (nI i) = X
      have el : ∀ f a M, X (f + 1) a M = st_X11_draw_84 F wo (nI i) (X f) a M := fun f a M => by rw [← hX]; rfl
      rw [hm, i_0, el, t2, el, t3, el]
      unfold st_X11_draw_84
      rw [if_pos (by decide)]
    have i39 : gI M1 122 39 = 0 := by rw [i1 122 39 (by unfold mpS; omega), gI_sI, if_pos ⟨rfl, rfl⟩]
    have i24 : gI M3 122 24 = gI M 122 24 := by
      rw [i3 122 24 (by unfold rqI; omega), i2 122 24 (by unfold rqI; omega), i1 122 24 (by unfold mpS; omega), gI_sI, if_neg (by omega)]
    have i25 : gI M1 122 25 = gI M 122 25 := by rw [i1 122 25 (by unfold mpS; omega), gI_sI, if_neg (by omega)]
    have i25' : gI M2 122 25 = gI M 122 25 := by rw [i2 122 25 (by unfold rqI; omega), i25]
    have fl : ∀ kk, kk < 960 → gI M 122 25 = nI kk → gI M3 122 39 = if sH2 P i kk (rPx M kk) = true ∧ ¬ P 132 i = 0 then 1 else 0 := fun kk hk hg => by
      rw [g3 kk hk (by rw [i25']; exact hg), g2 kk hk (by rw [i25]; exact hg), i39, x2 kk hk, px1]
      exact fl_ite _ _ _
    have fI : ∀ g k, ¬ rA g k → gI M3 g k = gI M g k := fun g k h => by
      unfold rA at h
      rw [i3 g k (by unfold rqI; omega), i2 g k (by unfold rqI; omega), i1 g k (by unfold mpS; omega), gI_sI, if_neg (by omega)]
    have fL : ∀ g k, ¬ rqL g → gL M3 g k = gL M g k := fun g k h => by
      rw [l3 g k h, l2 g k h]; show M1.2.1 g k = M.2.1 g k; rw [s1]; rfl
    have fP : M3.2.2 = M.2.2 := by rw [p3, p2, s1]; rfl
    have tail : ∀ rec, st_X11_draw_47 F wo rec (nI i) M = rec (nI (i + 1)) (sI M3 122 24 (gI M3 122 24 + if gI M3 122 39 = 0 then 0 else 1)) := fun rec => by
      rw [head, if_neg h1, if_neg h2, bnd_d, bndO_s _ t1, bnd_d, bndO_s _ L]
      by_cases h : gI M3 122 39 = 0
      · rw [if_pos h, if_pos h, bnd_d, bnd_d, i_1, n_a]
      · rw [if_neg h, if_neg h, bnd_d, bnd_d, i_1, n_a]
    refine ⟨_, tail, fun k hk => ?_, fun kk hk hg hw h24 => ?_, fun g k h => ?_, fL, fP⟩
    · rw [← px3 k hk]
      unfold rPx
      rw [gI_sI, if_neg (by omega), gI_sI, if_neg (by omega), gI_sI, if_neg (by omega)]
    · rw [gI_sI, if_pos ⟨rfl, rfl⟩, i24, h24, fl kk hk hg, hx kk hk, hw]
      show _ = nI (sGls P i kk + if _ then 1 else 0)
      by_cases c : sH2 P i kk (sPix P (-1) i kk) = true ∧ ¬ P 132 i = 0
      · rw [if_pos c, if_neg (by decide), if_pos ⟨h1, c.2, c.1⟩, i_1, n_a]
      · rw [if_neg c, if_pos rfl, if_neg (fun q => c ⟨q.2.2, q.2.1⟩), i_0, n_a]
    · rw [gI_sI, if_neg (by unfold rA at h; omega)]; exact fI g k h
theorem r_draw {P : PM} {M : GM} {F n : Nat} {wo : Int32} (hF : 3000 ≤ F) (hO : OK P) (hR : RV P M) (hn : P 122 2 = nI n) (n30 : n ≤ 30) :
    ∃ M', f_X11_draw F wo M = some M' ∧ (∀ k, k < 960 → rPx M' k = sPix P wo n k) ∧
      (∀ kk, kk < 960 → gI M 122 25 = nI kk → wo = -1 → gI M' 122 24 = nI (sGls P n kk)) ∧
      (∀ g k, ¬ rA g k → gI M' g k = gI M g k) ∧ (∀ g k, ¬ rqL g → gL M' g k = gL M g k) ∧ M'.2.2 = M.2.2 := by
  have hR0 : RV P (sI M 122 24 0) := hR.to fun g k h => by rw [gI_sI, if_neg (by omega)]
  obtain ⟨M1, t1, x1, i1, s1⟩ := r_fill (wo := wo) hF hR0
  have L : ∃ M', lp_X11_draw_47 F wo F 0 M1 = some M' ∧ ((∀ k, k < 960 → rPx M' k = sPix P wo n k) ∧
      (∀ kk, kk < 960 → gI M 122 25 = nI kk → wo = -1 → gI M' 122 24 = nI (sGls P n kk)) ∧
      (∀ g k, ¬ rA g k → gI M' g k = gI M g k) ∧ (∀ g k, ¬ rqL g → gL M' g k = gL M g k) ∧ M'.2.2 = M.2.2) := by
    refine run_up (fun m (s : Int32 × GM) => lp_X11_draw_47 F wo m s.1 s.2) (fun i s => s.1 = nI i ∧ (∀ k, k < 960 → rPx s.2 k = sPix P wo i k) ∧
      (∀ kk, kk < 960 → gI M 122 25 = nI kk → wo = -1 → gI s.2 122 24 = nI (sGls P i kk)) ∧
      (∀ g k, ¬ rA g k → gI s.2 g k = gI M g k) ∧ (∀ g k, ¬ rqL g → gL s.2 g k = gL M g k) ∧ s.2.2.2 = M.2.2) _ 0 n F (by omega) (by omega) (s := (0, M1)) ⟨rfl, x1, fun kk hk hg hw => ?_, fun g k h => ?_, fun g k h => ?_, ?_⟩ ?_ ?_
    · show gI M1 122 24 = _
      rw [i1 _ _ (by omega), gI_sI, if_pos ⟨rfl, rfl⟩]; rfl
    · show gI M1 g k = _
      unfold rA at h
      rw [i1 _ _ (by omega), gI_sI, if_neg (by omega)]
    · show M1.2.1 g k = M.2.1 g k
      rw [s1]; rfl
    · show M1.2.2 = M.2.2
      rw [s1]; rfl
    · rintro i ⟨x, M2⟩ - hi ⟨rfl, k1, k2, k3, k4, k5⟩
      have hR2 : RV P M2 := hR.to fun g k h => k3 g k (by unfold rA; omega)
      obtain ⟨M3, e, a1, a2, a3, a4, a5⟩ := r_pane (wo := wo) hF hO hR2 (show i < 30 by omega) (by rw [hn, n_le (by omega) (by omega)]; omega) k1
      refine ⟨(nI (i + 1), M3), ⟨rfl, a1, fun kk hk hg hw => ?_, fun g k h => (a3 g k h).trans (k3 g k h), fun g k h => (a4 g k h).trans (k4 g k h), a5.trans k5⟩, fun m => ?_⟩
      · exact a2 kk hk ((k3 122 25 (by unfold rA; omega)).trans hg) hw (k2 kk hk hg hw)
      · show lp_X11_draw_47 F wo (m + 1) (nI i) M2 = lp_X11_draw_47 F wo m (nI (i + 1)) M3
        rw [el_X11_draw_47, e]
    · rintro ⟨x, M2⟩ ⟨rfl, k1, k2, k3, k4, k5⟩
      refine ⟨M2, ⟨k1, k2, k3, k4, k5⟩, fun m => ?_⟩
      show lp_X11_draw_47 F wo (m + 1) (nI n) M2 = _
      have ec : gI M2 122 2 = nI n := (k3 122 2 (by unfold rA; omega)).trans ((hR.1 2 (by omega) (by omega)).trans hn)
      rw [el_X11_draw_47]
      unfold st_X11_draw_47
      rw [ec, if_pos (by rw [n_le (by omega) (by omega)]; omega)]
  obtain ⟨M', e, h⟩ := L
  refine ⟨M', ?_, h⟩
  unfold f_X11_draw
  rw [bnd_d, bnd_d, bndO_s _ t1, bnd_d, bndO_s _ e]
