/-! PURE PART: the class draws panes, all of them, in a box -/
/-- blank points: d says which -/
def cBl (s : Nat) (col : Int32) (M0 M : GM) (d : Nat → Bool) : Prop :=
  (∀ k, k < 960 → cPx M s k = if d k then (col, 65535, -1) else cPx M0 s k) ∧ (∀ g k, ¬ (s + 1 ≤ g ∧ g ≤ s + 3) → gI M g k = gI M0 g k) ∧ M.2 = M0.2
theorem cBl.congr {s : Nat} {col : Int32} {M0 M : GM} {d e : Nat → Bool} (h : cBl s col M0 M d) (hde : ∀ k, k < 960 → d k = e k) : cBl s col M0 M e := ⟨fun k hk => by rw [h.1 k hk, hde k hk], h.2⟩
theorem c_blankRow {M0 M : GM} {F s o y : Nat} {col : Int32} {l r b u : Int} (hF : 3000 ≤ F) (hs : s = 27 ∨ s = 31 ∨ s = 35) (ho : o = 42 ∨ o = 43) (hB : cBx M0 o l r b u) (hy : b ≤ y ∧ (y : Int) ≤ u) (hm : cBl s col M0 M (dB l r b u y 0)) :
    ∃ M', lp_X7_blank_19 F s o col (nI y) F (nI l.toNat) M = some M' ∧ cBl s col M0 M' (dB l r b u (y + 1) 0) := by
  obtain ⟨x1, x2, x3, x4, bl, bb, br, bu⟩ := hB
  refine run_up (fun n (z : Int32 × GM) => lp_X7_blank_19 F s o col (nI y) n z.1 z.2) (fun i z => z.1 = nI i ∧ cBl s col M0 z.2 (dB l r b u y i)) _ l.toNat (max l.toNat (r + 1).toNat) F (by omega) (by omega) (s := (nI l.toNat, M)) ⟨rfl, hm.congr fun k hk => bool_iff ?_⟩ ?_ ?_
  · rw [dB_iff, dB_iff]; unfold inB; omega
  · rintro i ⟨x, M1⟩ q1 q2 ⟨rfl, k1, k2, k3⟩
    have hx : i < 40 := by omega
    have e2 : gI M1 o 2 = gI M0 o 2 := k2 o 2 (by omega)
    have hc : ¬ gI M1 o 2 < nI i := by rw [e2, a_lt x3 (n_int (by omega))]; omega
    have k9 : y * 40 + i < 960 := by omega
    obtain ⟨dv, md⟩ := div_rc (y := y) hx
    refine ⟨(nI (i + 1), sI (sI (sI M1 (s + 1) (y * 40 + i) col) (s + 2) (y * 40 + i) 65535) (s + 3) (y * 40 + i) (-1)), ⟨rfl, fun k hk => ?_, fun g k h => ?_, k3⟩, fun n => ?_⟩
    · by_cases hkk : k = y * 40 + i
      · subst hkk
        rw [if_pos (by rw [dB_iff]; unfold inB; rw [dv, md]; omega)]
        unfold cPx
        simp only [gI_sI]
        simp
      · have : dB l r b u y (i + 1) k = dB l r b u y i k := bool_iff (by rw [dB_iff, dB_iff]; unfold inB; omega)
        rw [this, ← k1 k hk]
        unfold cPx
        simp only [gI_sI, hkk, and_false, if_false]
    · rw [gI_sI, if_neg (by omega), gI_sI, if_neg (by omega), gI_sI, if_neg (by omega)]; exact k2 g k h
    · show lp_X7_blank_19 F s o col (nI y) (n + 1) (nI i) M1 = _
      rw [el_X7_blank_19]
      unfold st_X7_blank_19
      rw [if_neg hc, i_40, n_m, n_a, bnd_d, gN_scr hs (by omega) (by omega), gN_scr hs (by omega) (by omega), gN_scr hs (by omega) (by omega), grd_t (n_in k9 (by omega)), bnd_d, grd_t (n_in k9 (by omega)), bnd_d, grd_t (n_in k9 (by omega)), bnd_d, bnd_d, n_cl (by omega), i_1, n_a]
  · rintro ⟨x, M1⟩ ⟨rfl, k1⟩
    refine ⟨M1, k1.congr fun k hk => bool_iff ?_, fun n => ?_⟩
    · rw [dB_iff, dB_iff]; unfold inB; omega
    · show lp_X7_blank_19 F s o col (nI y) (n + 1) (nI _) M1 = _
      rw [el_X7_blank_19]
      unfold st_X7_blank_19
      rw [if_pos (by rw [k1.2.1 o 2 (by omega), a_lt x3 (n_int (by omega))]; omega)]
theorem c_blank {M : GM} {F s o : Nat} {col : Int32} {l r b u : Int} (hF : 3000 ≤ F) (hs : s = 27 ∨ s = 31 ∨ s = 35) (ho : o = 42 ∨ o = 43) (hB : cBx M o l r b u) :
    ∃ M', f_X7_blank F s o col M = some M' ∧ (∀ k, k < 960 → (inB l r b u k → cPx M' s k = (col, 65535, -1)) ∧ (¬ inB l r b u k → cPx M' s k = cPx M s k)) ∧ (∀ g k, ¬ (s + 1 ≤ g ∧ g ≤ s + 3) → gI M' g k = gI M g k) ∧ M'.2 = M.2 := by
  have hB0 := hB
  obtain ⟨x1, x2, x3, x4, bl, bb, br, bu⟩ := hB
  have L : ∃ M', lp_X7_blank_5 F s o col F (nI b.toNat) M = some M' ∧ cBl s col M M' (dB l r b u 24 0) := by
    refine run_up (fun n (z : Int32 × GM) => lp_X7_blank_5 F s o col n z.1 z.2) (fun i z => z.1 = nI i ∧ cBl s col M z.2 (dB l r b u i 0)) _ b.toNat (max b.toNat (u + 1).toNat) F (by omega) (by omega) (s := (nI b.toNat, M)) ⟨rfl, fun k hk => ?_, fun _ _ _ => rfl, rfl⟩ ?_ ?_
    · rw [if_neg (by rw [dB_iff]; unfold inB; omega)]
    · rintro i ⟨x, M1⟩ q1 q2 ⟨rfl, k1⟩
      have e0 : gI M1 o 0 = nI l.toNat := (k1.2.1 o 0 (by omega)).trans (n_of (by rw [x1]; omega))
      have e3 : gI M1 o 3 = gI M o 3 := k1.2.1 o 3 (by omega)
      obtain ⟨M2, t2, k2⟩ := c_blankRow (y := i) hF hs ho hB0 ⟨by omega, by omega⟩ k1
      refine ⟨(nI (i + 1), M2), ⟨rfl, k2⟩, fun n => ?_⟩
      show lp_X7_blank_5 F s o col (n + 1) (nI i) M1 = lp_X7_blank_5 F s o col n (nI (i + 1)) M2
      rw [el_X7_blank_5]
      unfold st_X7_blank_5
      rw [e3, if_neg (by rw [a_lt x4 (n_int (by omega))]; omega), e0, bnd_d, bndO_s _ t2, bnd_d, i_1, n_a]
    · rintro ⟨x, M1⟩ ⟨rfl, k1⟩
      have e3 : gI M1 o 3 = gI M o 3 := k1.2.1 o 3 (by omega)
      refine ⟨M1, k1.congr fun k hk => bool_iff ?_, fun n => ?_⟩
      · rw [dB_iff, dB_iff]; unfold inB; omega
      · show lp_X7_blank_5 F s o col (n + 1) (nI _) M1 = _
        rw [el_X7_blank_5]
        unfold st_X7_blank_5
        rw [e3, if_pos (by rw [a_lt x4 (n_int (by omega))]; omega)]
  obtain ⟨M', e, z1, z2, z3⟩ := L
  have dbi : ∀ k, k < 960 → (dB l r b u 24 0 k = true ↔ inB l r b u k) := fun k hk => by
    rw [dB_iff]; exact ⟨fun h => h.1, fun h => ⟨h, Or.inl (by omega)⟩⟩
  refine ⟨M', ?_, fun k hk => ⟨fun h => ?_, fun h => ?_⟩, z2, z3⟩
  · unfold f_X7_blank
    rw [show gI M o 1 = nI b.toNat from n_of (by rw [x2]; omega), bnd_d, bndO_s _ e]
  · rw [z1 k hk, if_pos ((dbi k hk).mpr h)]
  · rw [z1 k hk, if_neg (fun q => h ((dbi k hk).mp q))]
/-- a piece of a pane -/
theorem c_dp {P : PM} {M : GM} {F p q s o : Nat} {l r b u : Int} {a : Int32} {Q : Prop} (hF : 3000 ≤ F) (hO : OK P) (hR : CV P M) (hp : p < 30) (hq : q < 2) (hs : s = 31 ∨ s = 35) (hS : cPq P M p q) (hB : cBx M o l r b u) (hpx : ∀ k, k < 960 → inB l r b u k → pxOK (cPx M s k)) (ha : fl a Q) :
    ∃ a' M', (∀ rec, st_X10_drawPane_25 F s o (nI p) 2 rec a (nI q) M = rec a' (nI (q + 1)) M') ∧ fl a' (Q ∨ ∃ k, k < 960 ∧ inB l r b u k ∧ sHq P p q k (cPx M s k) = true) ∧
      (∀ k, k < 960 → (inB l r b u k → cPx M' s k = sPq P p q k (cPx M s k)) ∧ (¬ inB l r b u k → cPx M' s k = cPx M s k)) ∧
      (∀ g k, ¬ (s + 1 ≤ g ∧ g ≤ s + 3) → gI M' g k = gI M g k) ∧ (∀ g k, g ≠ 17 + 5 * q → gL M' g k = gL M g k) ∧ M'.2.2 = M.2.2 := by
  have hc : ¬ (2 : Int32) ≤ nI q := by rw [i_2, n_le (by omega) (by omega)]; omega
  have hid : 17 + 5 * q = 17 ∨ 17 + 5 * q = 22 := by omega
  have head : ∀ rec, st_X10_drawPane_25 F s o (nI p) 2 rec a (nI q) M = if (gI M (17 + 5 * q) 5) = 0 then rec a (nI (q + 1)) M else (bndO (f_X10_drawPiece F s o (nI p) (17 + 5 * q) M) (fun (v24, M25) => if v24 = 0 then rec a (nI (q + 1)) M25 else rec 1 (nI (q + 1)) M25)) := fun rec => by
    unfold st_X10_drawPane_25
    rw [if_neg hc, gn_16, grd_t (n_in hq (by omega)), bnd_d, n_cl (by omega), gr_16]
    simp only [bnd_d, i_1, n_a]
  unfold cPq at hS
  cases hP : sPcs P p q with
  | none =>
    rw [hP] at hS
    refine ⟨a, M, fun rec => by rw [head, if_pos hS], ha.congr ⟨Or.inl, fun h => ?_⟩, fun k hk => ⟨fun _ => ?_, fun _ => rfl⟩, fun _ _ _ => rfl, fun _ _ _ => rfl, rfl⟩
    · rcases h with h | ⟨k, -, -, h⟩
      · exact h
      · unfold sHq at h; rw [hP] at h; cases h
    · unfold sPq; rw [hP]
  | some t =>
    rw [hP] at hS
    obtain ⟨a2, M2, t2, z1, z2, z3, z4, z5, z6⟩ := c_drawPiece (F := F) hF hO hR hp (sPcs_ok hO hP) hid hs hS hB hpx
    have hh : ∀ k, sHq P p q k (cPx M s k) = true ↔ sHit P t k (cPx M s k) := fun k => by unfold sHq; rw [hP]; exact decide_eq_true_iff
    have n0 : ¬ gI M (17 + 5 * q) 5 = 0 := by rw [hS.1]; decide
    have px : ∀ k, k < 960 → (inB l r b u k → cPx M2 s k = sPq P p q k (cPx M s k)) ∧ (¬ inB l r b u k → cPx M2 s k = cPx M s k) := fun k hk => by unfold sPq; rw [hP]; exact z2 k hk
    rcases z3 with ⟨rfl, k, k1, k2, k3⟩ | ⟨rfl, nk⟩
    · refine ⟨1, M2, fun rec => ?_, Or.inl ⟨rfl, Or.inr ⟨k, k1, k2, (hh k).mpr k3⟩⟩, px, z4, z5, z6⟩
      rw [head, if_neg n0, bndO_s _ t2]
      show (if (1 : Int32) = 0 then _ else _) = _
      rw [if_neg (by decide)]
    · refine ⟨a, M2, fun rec => ?_, ha.congr ⟨Or.inl, fun h => ?_⟩, px, z4, z5, z6⟩
      · rw [head, if_neg n0, bndO_s _ t2]
        show (if (0 : Int32) = 0 then _ else _) = _
        rw [if_pos rfl]
      · rcases h with h | ⟨k, h1, h2, h3⟩
        · exact h
        · exact absurd ⟨k, h1, h2, (hh k).mp h3⟩ nk
theorem c_drawPane {P : PM} {M : GM} {F p s o : Nat} {l r b u : Int} (hF : 3000 ≤ F) (hO : OK P) (hR : CV P M) (hp : p < 30) (hs : s = 31 ∨ s = 35) (ho : o = 42 ∨ o = 43) (hB : cBx M o l r b u) (hpx : ∀ k, k < 960 → inB l r b u k → pxOK (cPx M s k)) :
    ∃ a M', f_X10_drawPane F s o (nI p) M = some (a, M') ∧ fl a (∃ k, k < 960 ∧ inB l r b u k ∧ sH2 P p k (cPx M s k) = true) ∧
      (∀ k, k < 960 → (inB l r b u k → cPx M' s k = sP2 P p k (cPx M s k)) ∧ (¬ inB l r b u k → cPx M' s k = cPx M s k)) ∧
      (∀ g k, ¬ (fsI g k ∨ (s + 1 ≤ g ∧ g ≤ s + 3)) → gI M' g k = gI M g k) ∧ (∀ g k, ¬ (g = 17 ∨ g = 22) → gL M' g k = gL M g k) := by
  obtain ⟨M1, e1, s1, f1, l1⟩ := c_formShape (F := F) hF hO hR hp
  have px1 : ∀ k, cPx M1 s k = cPx M s k := fun k => by unfold cPx; rw [f1 _ _ (by unfold fsI; omega), f1 _ _ (by unfold fsI; omega), f1 _ _ (by unfold fsI; omega)]
  have hR1 : CV P M1 := hR.to fun g k h => f1 g k (by unfold cvS at h; unfold fsI; omega)
  have hB1 : cBx M1 o l r b u := hB.to fun k => f1 _ _ (by unfold fsI; omega)
  obtain ⟨a2, M2, t2, y2, x2, f2, l2, p2⟩ := c_dp (F := F) (q := 0) (a := 0) (Q := False) hF hO hR1 hp (by omega) hs s1.2.2.1 hB1 (fun k hk h => by rw [px1]; exact hpx k hk h) (Or.inr ⟨rfl, id⟩)
  have hR2 : CV P M2 := hR1.to fun g k h => f2 g k (by unfold cvS at h; omega)
  have hB2 : cBx M2 o l r b u := hB1.to fun k => f2 _ _ (by omega)
  have s2 : cPq P M2 p 1 := s1.2.2.2.to (fun k => f2 _ _ (by omega)) (fun k => f2 _ _ (by omega)) (fun g k _ _ => f2 _ _ (by omega)) (fun k => by show M2.2.2 _ _ = M1.2.2 _ _; rw [p2]) (l2 _ _ (by omega))
  obtain ⟨a3, M3, t3, y3, x3, f3, l3, p3⟩ := c_dp (F := F) (q := 1) hF hO hR2 hp (by omega) hs s2 hB2 (fun k hk h => by rw [(x2 k hk).1 h, px1]; exact sPq_OK hO (hpx k hk h)) y2
  have y3' : fl a3 (∃ k, k < 960 ∧ inB l r b u k ∧ sH2 P p k (cPx M s k) = true) := by
    refine y3.congr ⟨fun h => ?_, fun h => ?_⟩
    · rcases h with (h | ⟨k, h1, h2, h3⟩) | ⟨k, h1, h2, h3⟩
      · exact h.elim
      · exact ⟨k, h1, h2, by unfold sH2; rw [← px1 k, h3]; rfl⟩
      · exact ⟨k, h1, h2, by unfold sH2; rw [(x2 k h1).1 h2, px1] at h3; rw [h3, Bool.or_true]⟩
    · obtain ⟨k, h1, h2, h3⟩ := h
      unfold sH2 at h3
      rw [Bool.or_eq_true] at h3
      rcases h3 with h3 | h3
      · exact Or.inl (Or.inr ⟨k, h1, h2, by rw [px1]; exact h3⟩)
      · exact Or.inr ⟨k, h1, h2, by rw [(x2 k h1).1 h2, px1]; exact h3⟩
  have L : lp_X10_drawPane_25 F s o (nI p) 2 F 0 0 M1 = some (a3, M3) := by
    obtain ⟨m, hm⟩ : ∃ m, F = m + 3 := ⟨F - 3, by omega⟩
    generalize hX : lp_X10_drawPane_25 F s o (nI p) 2 = X
    have el : ∀ f a i M, X (f + 1) a i M = st_X10_drawPane_25 F s o (nI p) 2 (X f) a i M := fun f a i M => by rw [← hX]; rfl
    rw [hm]
    show X (m + 2 + 1) 0 (nI 0) M1 = _
    rw [el, t2, el, t3, el]
    unfold st_X10_drawPane_25
    rw [if_pos (by decide)]
  refine ⟨a3, M3, ?_, y3', fun k hk => ⟨fun h => ?_, fun h => ?_⟩, fun g k h => ?_, fun g k h => ?_⟩
  · unfold f_X10_drawPane
    rw [bndO_s _ e1, bnd_d, bnd_d, bnd_d, bndO_s _ L]
    show grd (gTf a3) _ = _
    rw [grd_t y3'.tf]
  · rw [(x3 k hk).1 h, (x2 k hk).1 h, px1]; rfl
  · rw [(x3 k hk).2 h, (x2 k hk).2 h, px1]
  · rw [f3 g k (fun q => h (Or.inr q)), f2 g k (fun q => h (Or.inr q)), f1 g k (fun q => h (Or.inl q))]
  · rw [l3 g k (by omega), l2 g k (by omega), l1 g k h]
/-- what drawing may change of the class's cells -/
def cdI (s g k : Nat) : Prop := fsI g k ∨ (s + 1 ≤ g ∧ g ≤ s + 3)
theorem c_draw {P : PM} {M : GM} {F n s o : Nat} {wo : Int32} {l r b u : Int} (hF : 3000 ≤ F) (hO : OK P) (hR : CV P M) (hn : P 122 2 = nI n) (n30 : n ≤ 30) (hs : s = 31 ∨ s = 35) (ho : o = 42 ∨ o = 43) (hB : cBx M o l r b u) :
    ∃ M', f_X10_draw F s o wo M = some M' ∧ (∀ k, k < 960 → (inB l r b u k → cPx M' s k = sPix P wo n k) ∧ (¬ inB l r b u k → cPx M' s k = cPx M s k)) ∧ (∀ g k, ¬ cdI s g k → gI M' g k = gI M g k) ∧ (∀ g k, ¬ (g = 17 ∨ g = 22) → gL M' g k = gL M g k) := by
  obtain ⟨-, e13, e14, -⟩ := hR.1
  obtain ⟨M1, t1, x1, f1, p1⟩ := c_blank (F := F) (s := s) (col := P 122 5) hF (Or.inr hs) ho hB
  have L : ∃ M', lp_X10_draw_12 F s o wo F 0 M1 = some M' ∧ ((∀ k, k < 960 → (inB l r b u k → cPx M' s k = sPix P wo n k) ∧ (¬ inB l r b u k → cPx M' s k = cPx M s k)) ∧ (∀ g k, ¬ cdI s g k → gI M' g k = gI M g k) ∧ (∀ g k, ¬ (g = 17 ∨ g = 22) → gL M' g k = gL M g k)) := by
    refine run_up (fun m (z : Int32 × GM) => lp_X10_draw_12 F s o wo m z.1 z.2) (fun i z => z.1 = nI i ∧ (∀ k, k < 960 → (inB l r b u k → cPx z.2 s k = sPix P wo i k) ∧ (¬ inB l r b u k → cPx z.2 s k = cPx M s k)) ∧ (∀ g k, ¬ cdI s g k → gI z.2 g k = gI M g k) ∧ (∀ g k, ¬ (g = 17 ∨ g = 22) → gL z.2 g k = gL M g k)) _ 0 n F (by omega) (by omega) (s := (0, M1)) ⟨rfl, x1, fun g k h => f1 g k (fun q => h (Or.inr q)), fun g k h => ?_⟩ ?_ ?_
    · show M1.2.1 g k = M.2.1 g k; rw [p1]
    · rintro i ⟨x, M2⟩ - hi ⟨rfl, k1, k2, k3⟩
      have hi3 : i < 30 := by omega
      have hR2 : CV P M2 := hR.to fun g k h => k2 g k (by unfold cvS at h; unfold cdI fsI; omega)
      have hB2 : cBx M2 o l r b u := hB.to fun k => k2 _ _ (by unfold cdI fsI; omega)
      obtain ⟨-, c13, -⟩ := hR2.1
      obtain ⟨-, -, -, -, -, -, e6⟩ := hR2.2.2.2.1 i hi3
      have head : ∀ rec, st_X10_draw_12 F s o wo rec (nI i) M2 = if P 134 i = 0 then rec (nI (i + 1)) M2 else if nI i = wo then rec (nI (i + 1)) M2 else bndO (f_X10_drawPane F s o (nI i) M2) (fun (v20, M21) => rec (nI (i + 1)) M21) := fun rec => by
        unfold st_X10_draw_12
        rw [c13, hn, if_neg (by rw [n_le (by omega) (by omega)]; omega), gn_2, grd_t (n_in hi3 (by omega)), bnd_d, n_cl (by omega), gr_2, e6]
        simp only [bnd_d, i_1, n_a]
      have elp : ∀ m, lp_X10_draw_12 F s o wo (m + 1) (nI i) M2 = st_X10_draw_12 F s o wo (lp_X10_draw_12 F s o wo m) (nI i) M2 := fun m => rfl
      by_cases h0 : P 134 i = 0 ∨ nI i = wo
      · refine ⟨(nI (i + 1), M2), ⟨rfl, fun k hk => ⟨fun h => ?_, (k1 k hk).2⟩, k2, k3⟩, fun m => ?_⟩
        · rw [(k1 k hk).1 h]; show _ = if _ then _ else _; rw [if_pos h0]
        · show lp_X10_draw_12 F s o wo (m + 1) (nI i) M2 = lp_X10_draw_12 F s o wo m (nI (i + 1)) M2
          rw [elp, head]
          rcases h0 with h | h
          · rw [if_pos h]
          · rw [if_pos h, ite_self]
      · obtain ⟨a, M3, t3, -, x3, f3, l3⟩ := c_drawPane (F := F) (s := s) hF hO hR2 hi3 hs ho hB2 (fun k hk h => by rw [(k1 k hk).1 h]; exact sPix_OK hO wo i k)
        refine ⟨(nI (i + 1), M3), ⟨rfl, fun k hk => ⟨fun h => ?_, fun h => ?_⟩, fun g k h => ?_, fun g k h => ?_⟩, fun m => ?_⟩
        · rw [(x3 k hk).1 h, (k1 k hk).1 h]; show _ = if _ then _ else _; rw [if_neg h0]
        · rw [(x3 k hk).2 h, (k1 k hk).2 h]
        · rw [f3 g k h, k2 g k h]
        · rw [l3 g k h, k3 g k h]
        · show lp_X10_draw_12 F s o wo (m + 1) (nI i) M2 = lp_X10_draw_12 F s o wo m (nI (i + 1)) M3
          rw [elp, head, if_neg (fun h => h0 (Or.inl h)), if_neg (fun h => h0 (Or.inr h)), bndO_s _ t3]
    · rintro ⟨x, M2⟩ ⟨rfl, k1, k2, k3⟩
      refine ⟨M2, ⟨k1, k2, k3⟩, fun m => ?_⟩
      have c13 : gI M2 0 13 = nI n := (k2 0 13 (by unfold cdI fsI; omega)).trans (e13.trans hn)
      show lp_X10_draw_12 F s o wo (m + 1) (nI n) M2 = _
      rw [el_X10_draw_12]
      unfold st_X10_draw_12
      rw [c13, if_pos (by rw [n_le (by omega) (by omega)]; omega)]
  obtain ⟨M', e, h⟩ := L
  refine ⟨M', ?_, h⟩
  unfold f_X10_draw
  rw [e14, bndO_s _ t1, bnd_d, bndO_s _ e]
