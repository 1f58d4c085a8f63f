/-! PURE PART: the pieces in which a point lies -/
def sLq (P : PM) (p q x y : Nat) : Bool := match sPcs P p q with
  | some t => decide (sIn (sFoc P) t x y)
  | none => false
theorem sLq_none {P : PM} {p q x y : Nat} (h : sPcs P p q = none) : sLq P p q x y = false := by unfold sLq; rw [h]
theorem sLq_some {P : PM} {p q x y : Nat} {t : V × V × V} (h : sPcs P p q = some t) : sLq P p q x y = true ↔ sIn (sFoc P) t x y := by unfold sLq; rw [h]; exact decide_eq_true_iff
theorem cShape.to {P : PM} {M M' : GM} {p : Nat} (h : cShape P M p) (f1 : M'.1 = M.1) (f2 : M'.2.2 = M.2.2) (f3 : ∀ g, gL M' g 4 = gL M g 4) : cShape P M' p := by
  have e : ∀ g k, gI M' g k = gI M g k := fun g k => by show M'.1 g k = M.1 g k; rw [f1]
  have e2 : ∀ g k, gP M' g k = gP M g k := fun g k => by show M'.2.2 g k = M.2.2 g k; rw [f2]
  exact ⟨by rw [e]; exact h.1, fun j v hv => (h.2.1 j v hv).to fun k => e _ _, h.2.2.1.to (fun k => e _ _) (fun k => e _ _) (fun g k _ _ => e _ _) (fun k => e2 _ _) (f3 _), h.2.2.2.to (fun k => e _ _) (fun k => e _ _) (fun g k _ _ => e _ _) (fun k => e2 _ _) (f3 _)⟩
theorem cShape.pq {P : PM} {M : GM} {p q : Nat} (h : cShape P M p) (hq : q < 2) : cPq P M p q := by
  rcases (show q = 0 ∨ q = 1 by omega) with rfl | rfl
  · exact h.2.2.1
  · exact h.2.2.2
/-- one piece asked at a point, by the class -/
theorem c_fp {P : PM} {M : GM} {F p q x y : Nat} (hO : OK P) (hS : cShape P M p) (hq : q < 2) (hx : x < 40) (hy : y < 24) :
    ∃ M', ((sLq P p q x y = true ∧ (∀ rec, st_X8_firstPieceAt_2 F (nI x) (nI y) rec (nI q) M = some (.inr (nI q, M'))) ∧ ∃ t, sPcs P p q = some t ∧ sIn (sFoc P) t x y ∧ cAt P M' (17 + 5 * q) t x y) ∨ (sLq P p q x y = false ∧ ∀ rec, st_X8_firstPieceAt_2 F (nI x) (nI y) rec (nI q) M = rec (nI (q + 1)) M')) ∧
      cShape P M' p ∧ M'.1 = M.1 ∧ M'.2.2 = M.2.2 ∧ (∀ g k, ¬ (g = 17 ∨ g = 22) → gL M' g k = gL M g k) := by
  have hc : ¬ (2 : Int32) ≤ nI q := by rw [i_2, n_le (by omega) (by omega)]; omega
  have hS1 := hS.pq hq
  have head : ∀ rec, st_X8_firstPieceAt_2 F (nI x) (nI y) rec (nI q) M = if (gI M (17 + 5 * q) 5) = 0 then rec (nI (q + 1)) M else (if (f_X0_spans (17 + 5 * q + 1) (nI x) (nI y) M) = 0 then rec (nI (q + 1)) M else (bndO (f_X6_holds F (17 + 5 * q) (nI x) (nI y) M) (fun (v15, M16) => if v15 = 0 then rec (nI (q + 1)) M16 else (some (Sum.inr (nI q, M16)))))) := fun rec => by
    unfold st_X8_firstPieceAt_2
    rw [if_neg hc, gn_16, grd_t (n_in hq (by omega)), bnd_d, n_cl (by omega), gr_16]
    simp only [bnd_d, i_1, n_a]
  cases hP : sPcs P p q with
  | none =>
    unfold cPq at hS1
    rw [hP] at hS1
    exact ⟨M, Or.inr ⟨sLq_none hP, fun rec => by rw [head, if_pos hS1]⟩, hS, rfl, rfl, fun _ _ _ => rfl⟩
  | some t =>
    unfold cPq at hS1
    rw [hP] at hS1
    have n0 : ¬ gI M (17 + 5 * q) 5 = 0 := by rw [hS1.1]; decide
    obtain ⟨-, -, -, -, -, l', b', r', u', p1, p2, p3, p4, q1, q2, q3, q4, box⟩ := id hS1
    have w1 := c_within (n_int (n := x) (by omega)) p1 p3
    have w2 := c_within (n_int (n := y) (by omega)) p2 p4
    have hs : f_X0_spans (17 + 5 * q + 1) (nI x) (nI y) M = if (l' ≤ x ∧ (x : Int) ≤ r') ∧ (b' ≤ y ∧ (y : Int) ≤ u') then 1 else 0 := by
      unfold f_X0_spans
      rw [w1, w2]
      by_cases c1 : l' ≤ (x : Int) ∧ (x : Int) ≤ r'
      · by_cases c2 : b' ≤ (y : Int) ∧ (y : Int) ≤ u'
        · rw [if_pos c1, if_pos c2, if_neg (by decide), if_neg (by decide), if_pos ⟨c1, c2⟩]
        · rw [if_pos c1, if_neg c2, if_neg (by decide), if_pos rfl, if_neg (fun h => c2 h.2)]
      · rw [if_neg c1, if_pos rfl, if_neg (fun h => c1 h.1)]
    by_cases hb : (l' ≤ (x : Int) ∧ (x : Int) ≤ r') ∧ (b' ≤ (y : Int) ∧ (y : Int) ≤ u')
    rotate_left
    · rw [if_neg hb] at hs
      refine ⟨M, Or.inr ⟨?_, fun rec => by rw [head, if_neg n0, if_pos hs]⟩, hS, rfl, rfl, fun _ _ _ => rfl⟩
      rw [Bool.eq_false_iff, ne_eq, sLq_some hP]
      intro h
      exact hb (box x y hx hy h)
    rw [if_pos hb] at hs
    have ns : ¬ f_X0_spans (17 + 5 * q + 1) (nI x) (nI y) M = 0 := by rw [hs]; decide
    obtain ⟨v, M1, e1, e2, at1, pc1, f1, l1, p1⟩ := c_holds (F := F) (sPcs_ok hO hP) hS1 hx hy
    have hS' : cShape P M1 p := by
      refine hS.to f1 p1 fun g => ?_
      by_cases hg : g = 17 + 5 * q
      · rw [hg]
        obtain ⟨-, -, -, -, ha, -⟩ := pc1
        obtain ⟨-, -, -, -, hb, -⟩ := hS1
        exact a_ext64 (ha.trans hb.symm)
      · exact l1 g 4 hg
    by_cases hi : sIn (sFoc P) t x y
    · rw [if_pos hi] at e2
      subst e2
      refine ⟨M1, Or.inl ⟨(sLq_some hP).mpr hi, fun rec => ?_, t, rfl, hi, at1 hi⟩, hS', f1, p1, fun g k h => l1 g k (by omega)⟩
      rw [head, if_neg n0, if_neg ns, bndO_s _ e1]
      show (if (1 : Int32) = 0 then _ else _) = _
      rw [if_neg (by decide)]
    · rw [if_neg hi] at e2
      subst e2
      refine ⟨M1, Or.inr ⟨?_, fun rec => ?_⟩, hS', f1, p1, fun g k h => l1 g k (by omega)⟩
      · rw [Bool.eq_false_iff, ne_eq, sLq_some hP]; exact hi
      · rw [head, if_neg n0, if_neg ns, bndO_s _ e1]
        show (if (0 : Int32) = 0 then _ else _) = _
        rw [if_pos rfl]
theorem c_firstPiece {P : PM} {M : GM} {F p x y : Nat} (hF : 3000 ≤ F) (hO : OK P) (hS : cShape P M p) (hx : x < 40) (hy : y < 24) :
    ∃ v M', f_X8_firstPieceAt F (nI x) (nI y) M = some (v, M') ∧
      ((∃ q t, q < 2 ∧ v = nI q ∧ sPcs P p q = some t ∧ sIn (sFoc P) t x y ∧ cAt P M' (17 + 5 * q) t x y ∧ sLq P p q x y = true ∧ (q = 1 → sLq P p 0 x y = false)) ∨ (v = -1 ∧ sLq P p 0 x y = false ∧ sLq P p 1 x y = false)) ∧
      cShape P M' p ∧ M'.1 = M.1 ∧ M'.2.2 = M.2.2 ∧ (∀ g k, ¬ (g = 17 ∨ g = 22) → gL M' g k = gL M g k) := by
  obtain ⟨m, hm⟩ : ∃ m, F = m + 3 := ⟨F - 3, by omega⟩
  have fin : ∀ r, lp_X8_firstPieceAt_2 F (nI x) (nI y) F 0 M = some (.inr r) → f_X8_firstPieceAt F (nI x) (nI y) M = some r := fun r h => by
    unfold f_X8_firstPieceAt; rw [bnd_d, bndT_r _ _ h]
  have el : ∀ f i M, lp_X8_firstPieceAt_2 F (nI x) (nI y) (f + 1) i M = st_X8_firstPieceAt_2 F (nI x) (nI y) (lp_X8_firstPieceAt_2 F (nI x) (nI y) f) i M := fun f i M => rfl
  generalize hX : lp_X8_firstPieceAt_2 F (nI x) (nI y) = X at fin el
  obtain ⟨M1, s1, h1, f1, p1, l1⟩ := c_fp (F := F) (q := 0) hO hS (by omega) hx hy
  rcases s1 with ⟨b1, e1, t, c1, c2, c3⟩ | ⟨b1, e1⟩
  · refine ⟨nI 0, M1, fin _ ?_, Or.inl ⟨0, t, by omega, rfl, c1, c2, c3, b1, fun h => absurd h (by omega)⟩, h1, f1, p1, l1⟩
    conv => lhs; rw [hm]
    show X (m + 2 + 1) (nI 0) M = _
    rw [el, e1]
  · obtain ⟨M2, s2, h2, f2, p2, l2⟩ := c_fp (F := F) (q := 1) hO h1 (by omega) hx hy
    rcases s2 with ⟨b2, e2, t, c1, c2, c3⟩ | ⟨b2, e2⟩
    · refine ⟨nI 1, M2, fin _ ?_, Or.inl ⟨1, t, by omega, rfl, c1, c2, c3, b2, fun _ => b1⟩, h2, f2.trans f1, p2.trans p1, fun g k h => (l2 g k h).trans (l1 g k h)⟩
      conv => lhs; rw [hm]
      show X (m + 2 + 1) (nI 0) M = _
      rw [el, e1, el, e2]
    · refine ⟨-1, M2, ?_, Or.inr ⟨rfl, b1, b2⟩, h2, f2.trans f1, p2.trans p1, fun g k h => (l2 g k h).trans (l1 g k h)⟩
      have L : X F 0 M = some (.inl M2) := by
        conv => lhs; rw [hm]
        show X (m + 2 + 1) (nI 0) M = _
        rw [el, e1, el, e2, el]
        unfold st_X8_firstPieceAt_2
        rw [if_pos (by decide)] <;> rfl
      rw [← hX] at L
      unfold f_X8_firstPieceAt
      rw [bnd_d, bndT_l _ _ L]
