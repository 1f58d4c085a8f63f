/-! PURE PART: the class's shape of a pane -/
def cPq (P : PM) (M : GM) (p q : Nat) : Prop := match sPcs P p q with
  | none => gI M (17 + 5 * q) 5 = 0
  | some t => cPiece P M (17 + 5 * q) t
def cShape (P : PM) (M : GM) (p : Nat) : Prop := gI M 6 3 = nI (sPane P p).length ∧ (∀ j v, (sPane P p)[j]? = some v → cSp P M (12 + j) v) ∧ cPq P M p 0 ∧ cPq P M p 1
/-- what formShape may change -/
def fsI (g k : Nat) : Prop := (g = 6 ∧ k = 3) ∨ (8 ≤ g ∧ g ≤ 26)
theorem at_lt {α : Type} {l : List α} {j : Nat} {v : α} (h : l[j]? = some v) : j < l.length := by
  rcases Nat.lt_or_ge j l.length with q | q
  · exact q
  · rw [List.getElem?_eq_none q] at h; cases h
theorem cPq.to {P : PM} {M M' : GM} {p q : Nat} (h : cPq P M p q) (f1 : ∀ k, gI M' (17 + 5 * q) k = gI M (17 + 5 * q) k) (f2 : ∀ k, gI M' (17 + 5 * q + 1) k = gI M (17 + 5 * q + 1) k) (f3 : ∀ g k, 12 ≤ g → g ≤ 15 → gI M' g k = gI M g k) (f4 : ∀ k, gP M' (17 + 5 * q) k = gP M (17 + 5 * q) k) (f5 : gL M' (17 + 5 * q) 4 = gL M (17 + 5 * q) 4) : cPq P M' p q := by
  unfold cPq at h ⊢
  split
  · rename_i e; rw [e] at h; rw [f1]; exact h
  · rename_i t e; rw [e] at h
    exact h.to f1 f2 f3 f4 f5
/-- a step of split -/
theorem c_split1 {P : PM} {M : GM} {F p q : Nat} (hO : OK P) (hq : q < 2) (hc : gI M 6 3 = nI (sPane P p).length) (hs : ∀ j v, (sPane P p)[j]? = some v → cSp P M (12 + j) v) :
    ∃ M', (∀ rec, st_X8_split_2 F (P 133 p) rec (nI q) M = rec (nI (q + 1)) M') ∧ cPq P M' p q ∧ (∀ g k, ¬ (g = 17 + 5 * q ∨ g = 17 + 5 * q + 1) → gI M' g k = gI M g k) ∧ (∀ g k, g ≠ 17 + 5 * q → gL M' g k = gL M g k) ∧ (∀ g k, g ≠ 17 + 5 * q → gP M' g k = gP M g k) := by
  have len4 := sPane_len P p
  have h2 : ¬ (2 : Int32) ≤ nI q := by rw [i_2, n_le (by omega) (by omega)]; omega
  generalize hM1 : sI M (17 + 5 * q) 5 0 = M1
  have i1 : ∀ g k, ¬ (g = 17 + 5 * q ∧ k = 5) → gI M1 g k = gI M g k := fun g k h => by rw [← hM1, gI_sI, if_neg h]
  have c1 : gI M1 6 3 = nI (sPane P p).length := by rw [i1 6 3 (by omega)]; exact hc
  have z1 : gI M1 (17 + 5 * q) 5 = 0 := by rw [← hM1, gI_sI, if_pos ⟨rfl, rfl⟩]
  have head : ∀ rec, st_X8_split_2 F (P 133 p) rec (nI q) M = if nI (sPane P p).length ≤ nI (q + 2) then rec (nI (q + 1)) M1 else bndO (f_X6_take F (17 + 5 * q) 12 (12 + (q + 1)) (12 + (q + 2)) (P 133 p) M1) (fun M24 => rec (nI (q + 1)) M24) := fun rec => by
    unfold st_X8_split_2
    rw [if_neg h2, gn_16, grd_t (n_in hq (by omega)), bnd_d, n_cl (by omega), gr_16, bnd_d, hM1, c1, i_1, i_2, n_a, n_a]
    by_cases hl : nI (sPane P p).length ≤ nI (q + 2)
    · rw [if_pos hl, if_pos hl, bnd_d]
    · rw [if_neg hl, if_neg hl, if_neg (by rw [i_4, n_le (by omega) (by omega)]; omega), gn_11, grd_t (n_in (show q + 1 < 4 by omega) (by omega)), bnd_d, n_cl (by omega), gr_11, grd_t (n_in (show q + 2 < 4 by omega) (by omega)), bnd_d, n_cl (by omega), gr_11]
      rfl
  have hle : nI (sPane P p).length ≤ nI (q + 2) ↔ (sPane P p).length ≤ q + 2 := n_le (by omega) (by omega)
  by_cases hl : (sPane P p).length ≤ q + 2
  · refine ⟨M1, fun rec => by rw [head, if_pos (hle.mpr hl)], ?_, fun g k h => i1 g k (by omega), fun g k _ => by rw [← hM1]; rfl, fun g k _ => by rw [← hM1]; rfl⟩
    have e : sPcs P p q = none := by
      unfold sPcs
      rw [show (sPane P p)[q + 2]? = none from List.getElem?_eq_none (by omega)]
      split
      · rename_i e1 e2 e3; cases e3
      · rfl
    unfold cPq
    rw [e]; exact z1
  · obtain ⟨a, ea⟩ : ∃ a, (sPane P p)[0]? = some a := ⟨_, List.getElem?_eq_getElem (by omega)⟩
    obtain ⟨b, eb⟩ : ∃ b, (sPane P p)[q + 1]? = some b := ⟨_, List.getElem?_eq_getElem (by omega)⟩
    obtain ⟨c, ecc⟩ : ∃ c, (sPane P p)[q + 2]? = some c := ⟨_, List.getElem?_eq_getElem (by omega)⟩
    have eP : sPcs P p q = sPiece (sFoc P) (P 133 p) a b c := by unfold sPcs; rw [ea, eb, ecc]
    obtain ⟨M2, t2, u2, f2, l2, p2⟩ := c_take (F := F) (M := M1) (id := 17 + 5 * q) (o0 := 12) (o1 := 12 + (q + 1)) (o2 := 12 + (q + 2)) (two := P 133 p) (by omega) (by omega) (by omega) (by omega)
      ((hs 0 a ea).to fun k => i1 _ k (by omega)) ((hs _ b eb).to fun k => i1 _ k (by omega)) ((hs _ c ecc).to fun k => i1 _ k (by omega)) (sPane_at hO ea) (sPane_at hO eb) (sPane_at hO ecc) z1
    refine ⟨M2, fun rec => by rw [head, if_neg (fun h => hl (hle.mp h)), bndO_s _ t2], ?_, fun g k h => ?_, fun g k h => ?_, fun g k h => ?_⟩
    · unfold cPq
      rw [eP]; exact u2
    · rw [f2 g k (by unfold tkI; omega), i1 g k (by omega)]
    · rw [l2 g k h, ← hM1]; rfl
    · rw [p2 g k h, ← hM1]; rfl
theorem c_split {P : PM} {M : GM} {F p : Nat} (hF : 3000 ≤ F) (hO : OK P) (hc : gI M 6 3 = nI (sPane P p).length) (hs : ∀ j v, (sPane P p)[j]? = some v → cSp P M (12 + j) v) :
    ∃ M', f_X8_split F (P 133 p) M = some M' ∧ cShape P M' p ∧ (∀ g k, ¬ fsI g k → gI M' g k = gI M g k) ∧ (∀ g k, ¬ (g = 17 ∨ g = 22) → gL M' g k = gL M g k) := by
  have len4 := sPane_len P p
  obtain ⟨M1, t1, u1, f1, l1, p1⟩ := c_split1 (F := F) (q := 0) hO (by omega) hc hs
  have hs1 : ∀ j v, (sPane P p)[j]? = some v → cSp P M1 (12 + j) v := fun j v h => (hs j v h).to fun k => f1 _ k (by have := at_lt h; omega)
  obtain ⟨M2, t2, u2, f2, l2, p2⟩ := c_split1 (F := F) (q := 1) hO (by omega) (by rw [f1 6 3 (by omega)]; exact hc) hs1
  refine ⟨M2, ?_, ⟨by rw [f2 6 3 (by omega), f1 6 3 (by omega)]; exact hc, fun j v h => (hs1 j v h).to fun k => f2 _ k (by have := at_lt h; omega), u1.to (fun k => f2 _ k (by omega)) (fun k => f2 _ k (by omega)) (fun g k _ _ => f2 g k (by omega)) (fun k => p2 _ k (by omega)) (l2 _ _ (by omega)), u2⟩, fun g k h => ?_, fun g k h => by rw [l2 g k (by omega), l1 g k (by omega)]⟩
  · have L : lp_X8_split_2 F (P 133 p) F 0 M = some M2 := by
      obtain ⟨m, hm⟩ : ∃ m, F = m + 3 := ⟨F - 3, by omega⟩
      generalize hX : lp_X8_split_2 F (P 133 p) = X
      have el : ∀ f a M, X (f + 1) a M = st_X8_split_2 F (P 133 p) (X f) a M := fun f a M => by rw [← hX]; rfl
      rw [hm]
      show X (m + 2 + 1) (nI 0) M = _
      rw [el, t1, el, t2, el]
      unfold st_X8_split_2
      rw [if_pos (by decide)]
    unfold f_X8_split
    rw [bnd_d, bndO_s _ L]
  · unfold fsI at h
    rw [f2 g k (by omega), f1 g k (by omega)]
theorem c_proj {P : PM} {M : GM} {F p o : Nat} (hF : 3000 ≤ F) (hO : OK P) (hR : CV P M) (hl : cPoly M (sPane P p)) :
    ∃ M', lp_X10_formShape_98 F o F 0 M = some M' ∧ gI M' 6 3 = nI (sPane P p).length ∧ (∀ j v, (sPane P p)[j]? = some v → cSp P M' (12 + j) v) ∧ (∀ g k, ¬ (12 ≤ g ∧ g ≤ 15) → gI M' g k = gI M g k) ∧ M'.2 = M.2 := by
  have len4 := sPane_len P p
  refine run_up (fun n (s : Int32 × GM) => lp_X10_formShape_98 F o n s.1 s.2) (fun i s => s.1 = nI i ∧ (∀ j v, (sPane P p)[j]? = some v → j < i → cSp P s.2 (12 + j) v) ∧ (∀ j v, (sPane P p)[j]? = some v → ∀ k, k < 8 → (gI s.2 (12 + j) k).toInt = v k) ∧ (∀ g k, ¬ (12 ≤ g ∧ g ≤ 15) → gI s.2 g k = gI M g k) ∧ s.2.2 = M.2) _ 0 (sPane P p).length F (by omega) (by omega) (s := (0, M)) ⟨rfl, fun j v _ h => absurd h (by omega), hl.2, fun _ _ _ => rfl, rfl⟩ ?_ ?_
  · rintro i ⟨x, M1⟩ - hi ⟨rfl, k1, k2, k3, k4⟩
    obtain ⟨v, ev⟩ : ∃ v, (sPane P p)[i]? = some v := ⟨_, List.getElem?_eq_getElem hi⟩
    have hR1 : CV P M1 := hR.to fun g k h => k3 g k (by unfold cvS at h; omega)
    obtain ⟨M2, t2, s2, f2, g2, q2⟩ := c_project (F := F) (o := 12 + i) hO hR1 (by omega) (k2 i v ev) (sPane_at hO ev)
    have c1 : gI M1 6 3 = nI (sPane P p).length := by rw [k3 6 3 (by omega)]; exact hl.1
    refine ⟨(nI (i + 1), M2), ⟨rfl, fun j w hw hj => ?_, fun j w hw k hk => ?_, fun g k h => by rw [f2 g k (by omega), k3 g k h], q2.trans k4⟩, fun n => ?_⟩
    · by_cases hji : j = i
      · subst hji; rw [ev] at hw; cases hw; exact s2
      · exact (k1 j w hw (by omega)).to fun k => f2 _ k (by omega)
    · by_cases hji : j = i
      · subst hji; rw [g2 k hk]; exact k2 j w hw k hk
      · rw [f2 _ k (by omega)]; exact k2 j w hw k hk
    · show lp_X10_formShape_98 F o (n + 1) (nI i) M1 = lp_X10_formShape_98 F o n (nI (i + 1)) M2
      rw [el_X10_formShape_98]
      unfold st_X10_formShape_98
      rw [c1, if_neg (by rw [n_le (by omega) (by omega)]; omega), gn_11, grd_t (n_in (show i < 4 by omega) (by omega)), bnd_d, n_cl (by omega), gr_11, bndO_s _ t2, bnd_d, i_1, n_a]
  · rintro ⟨x, M1⟩ ⟨rfl, k1, k2, k3, k4⟩
    have c1 : gI M1 6 3 = nI (sPane P p).length := by rw [k3 6 3 (by omega)]; exact hl.1
    refine ⟨M1, ⟨c1, fun j v h => k1 j v h (at_lt h), k3, k4⟩, fun n => ?_⟩
    show lp_X10_formShape_98 F o (n + 1) (nI _) M1 = _
    rw [el_X10_formShape_98]
    unfold st_X10_formShape_98
    rw [c1, if_pos (by rw [n_le (by omega) (by omega)]; exact Nat.le_refl _)]
theorem c_formShape {P : PM} {M : GM} {F p : Nat} (hF : 3000 ≤ F) (hO : OK P) (hR : CV P M) (hp : p < 30) :
    ∃ M', f_X10_formShape F (nI p) M = some M' ∧ cShape P M' p ∧ (∀ g k, ¬ fsI g k → gI M' g k = gI M g k) ∧ (∀ g k, ¬ (g = 17 ∨ g = 22) → gL M' g k = gL M g k) := by
  obtain ⟨x0, y0⟩ := sOf_lt hO p 0
  obtain ⟨x1, y1⟩ := sOf_lt hO p 1
  obtain ⟨x2, y2⟩ := sOf_lt hO p 2
  obtain ⟨q0, q1, q2, -, -, q5, -⟩ := hR.2.2.2.1 p hp
  rw [y0] at q0
  rw [y1] at q1
  rw [y2] at q2
  obtain ⟨M1, a1, a2, a3, a4⟩ := c_look (F := F) (e := 8) hO hR x0 (by omega)
  have hR1 : CV P M1 := hR.to fun g k h => a3 g k (by unfold cvS at h; omega)
  obtain ⟨M2, b1, b2, b3, b4⟩ := c_look (F := F) (e := 9) hO hR1 x1 (by omega)
  have hR2 : CV P M2 := hR1.to fun g k h => b3 g k (by unfold cvS at h; omega)
  obtain ⟨M3, c1, c2, c3, c4⟩ := c_look (F := F) (e := 10) hO hR2 x2 (by omega)
  have hR3 : CV P M3 := hR2.to fun g k h => c3 g k (by unfold cvS at h; omega)
  have e41 : (gI M3 4 1).toInt = sNear P := by rw [hR3.1.2.2.2.1]; rfl
  obtain ⟨M4, d1, d2, d3, d4⟩ := c_cutAt (F := F) (M := M3) hF e41 hO (fun k hk => by rw [c3 8 k (by omega), b3 8 k (by omega)]; exact a2 k hk) (fun k hk => by rw [c3 9 k (by omega)]; exact b2 k hk) c2 (sVtx_gv0 hO _) (sVtx_gv0 hO _) (sVtx_gv0 hO _)
  have hR4 : CV P M4 := hR3.to fun g k h => d3 g k (by unfold cvS at h; unfold caS; omega)
  obtain ⟨M5, e1, e2, e3, e4, e5⟩ := c_proj (F := F) (p := p) (o := 84 + p) hF hO hR4 d2
  obtain ⟨M6, f1, f2, f3, f4⟩ := c_split (F := F) hF hO e2 e3
  have fr5 : ∀ g k, ¬ fsI g k → gI M5 g k = gI M g k := fun g k h => by
    unfold fsI at h
    rw [e4 g k (by omega), d3 g k (by unfold caS; omega), c3 g k (by omega), b3 g k (by omega), a3 g k (by omega)]
  have s5 : M5.2 = M.2 := by rw [e5, d4, c4, b4, a4]
  refine ⟨M6, ?_, f2, fun g k h => by rw [f3 g k h, fr5 g k h], fun g k h => by rw [f4 g k h]; show M5.2.1 g k = _; rw [s5]; rfl⟩
  have r1 : gI M1 (84 + p) 1 = nI (sOf P p 1) := by rw [a3 _ _ (by omega)]; exact q1
  have r2 : gI M2 (84 + p) 2 = nI (sOf P p 2) := by rw [b3 _ _ (by omega), a3 _ _ (by omega)]; exact q2
  have r5 : gI M5 (84 + p) 5 = P 133 p := by rw [fr5 _ _ (by unfold fsI; omega)]; exact q5
  unfold f_X10_formShape
  rw [gn_2, grd_t (n_in hp (by omega)), bnd_d, n_cl (by omega), gr_2, q0, gn_1, grd_t (n_in x0 (by omega)), bnd_d, n_cl (by omega), gr_1, bndO_s _ a1]
  rw [r1, grd_t (n_in x1 (by omega)), bnd_d, n_cl (by omega), gr_1, bndO_s _ b1]
  rw [r2, grd_t (n_in x2 (by omega)), bnd_d, n_cl (by omega), gr_1, bndO_s _ c1, bndO_s _ d1, bnd_d, bndO_s _ e1, r5, bndO_s _ f1]
