/-! PURE PART: the class paints a point, draws a piece -/
def cPx (M : GM) (s k : Nat) : Px := (gI M (s + 1) k, gI M (s + 2) k, gI M (s + 3) k)
theorem gN_scr {s j : Nat} (hs : s = 27 ∨ s = 31 ∨ s = 35) (h1 : 1 ≤ j) (h3 : j ≤ 3) : gN (s + j) = 960 := by
  rcases (show j = 1 ∨ j = 2 ∨ j = 3 by omega) with rfl | rfl | rfl <;> rcases hs with rfl | rfl | rfl <;> decide +kernel
theorem c_paintPoint {P : PM} {M : GM} {F p k x y id s : Nat} {t : V × V × V} (hO : OK P) (hR : CV P M) (hp : p < 30) (ht : tOK P t) (hx : x < 40) (hy : y < 24) (hk : k = y * 40 + x) (hs : s = 27 ∨ s = 31 ∨ s = 35) (hM : cAt P M id t x y) (hi : sIn (sFoc P) t x y) (hpx : pxOK (cPx M s k)) :
    ∃ v M', f_X10_paintPoint F s (nI k) (nI p) id M = some (v, M') ∧ v = (if sHit P t k (cPx M s k) then 1 else 0) ∧ cPx M' s k = sPt P p t k (cPx M s k) ∧ (∀ g j, ¬ (s + 1 ≤ g ∧ g ≤ s + 3 ∧ j = k) → gI M' g j = gI M g j) ∧ M'.2 = M.2 := by
  have k9 : k < 960 := by omega
  have kx : ((k % 40 : Nat) : Int) = x := by omega
  have ky : ((k / 40 : Nat) : Int) = y := by omega
  obtain ⟨d, d1, d2⟩ := c_depthHere (F := F) hO ht hM hi
  obtain ⟨c, c1, c2⟩ := c_colourHere (F := F) hO hR hp ht hM hi
  have bd := sDep_rg hO ht hi
  have bc := sCol_rg hO ht hi p
  obtain ⟨-, -, -, -, e1, -⟩ := hR.2.2.2.1 p hp
  have hg1 : gIn (nI k) (gN (s + 1)) = true := by rw [gN_scr hs (by omega) (by omega)]; exact n_in k9 (by omega)
  have hg2 : gIn (nI k) (gN (s + 2)) = true := by rw [gN_scr hs (by omega) (by omega)]; exact n_in k9 (by omega)
  have hg3 : gIn (nI k) (gN (s + 3)) = true := by rw [gN_scr hs (by omega) (by omega)]; exact n_in k9 (by omega)
  have hck : (nI k).toNatClampNeg = k := n_cl (by omega)
  have hhit : sHit P t k (cPx M s k) ↔ d < gI M (s + 2) k := by
    unfold sHit
    rw [kx, ky, a_lt d2 rfl]
    exact ⟨fun h => h.2, fun h => ⟨hi, h⟩⟩
  have dof := a_of d2
  have cof := a_of c2
  unfold f_X10_paintPoint
  rw [bndO_s _ d1, bnd_d, grd_t hg2, hck]
  by_cases hh : d < gI M (s + 2) k
  rotate_left
  · rw [if_neg hh]
    refine ⟨0, M, rfl, ?_, ?_, fun _ _ _ => rfl, rfl⟩
    · rw [if_neg (fun h => hh (hhit.mp h))]
    · unfold sPt; rw [if_neg (fun h => hh (hhit.mp h))]
  rw [if_pos hh, gn_2, grd_t (n_in hp (by omega)), bnd_d, n_cl (by omega), gr_2, bndO_s _ c1, bnd_d, e1]
  by_cases hcl : P 132 p = 0
  · rw [if_pos hcl, grd_t hg1, bnd_d, grd_t hg2, bnd_d, grd_t hg3, bnd_d]
    refine ⟨1, _, rfl, by rw [if_pos (hhit.mpr hh)], ?_, fun g j h1 => ?_, rfl⟩
    · unfold sPt
      rw [if_pos (hhit.mpr hh), if_pos hcl, kx, ky, ← dof, ← cof]
      unfold cPx
      simp only [gI_sI]
      simp
    · rw [gI_sI, if_neg (by omega), gI_sI, if_neg (by omega), gI_sI, if_neg (by omega)]
  · rw [if_neg hcl, grd_t hg1, grd_t hg1, bnd_d]
    have hf := c_half (c := gI M (s + 1) k) (d := c) rfl c2 hpx bc
    have hof := a_of hf
    refine ⟨1, _, rfl, by rw [if_pos (hhit.mpr hh)], ?_, fun g j h1 => ?_, rfl⟩
    · unfold sPt
      rw [if_pos (hhit.mpr hh), if_neg hcl, kx, ky, hof]
      unfold cPx
      simp only [gI_sI]
      simp
    · rw [gI_sI, if_neg (by omega)]
/-- a flag for what holds -/
def fl (a : Int32) (Q : Prop) : Prop := (a = 1 ∧ Q) ∨ (a = 0 ∧ ¬ Q)
theorem fl.congr {a : Int32} {Q R : Prop} (h : fl a Q) (e : Q ↔ R) : fl a R := by
  rcases h with ⟨h, q⟩ | ⟨h, q⟩
  · exact Or.inl ⟨h, e.mp q⟩
  · exact Or.inr ⟨h, fun r => q (e.mpr r)⟩
theorem fl.tf {a : Int32} {Q : Prop} (h : fl a Q) : gTf a = true := by
  rcases h with ⟨h, -⟩ | ⟨h, -⟩ <;> rw [h] <;> decide
/-- the state between the points of a piece: done says which have had their turn, a whether one was painted -/
def cMid (P : PM) (p : Nat) (t : V × V × V) (id s : Nat) (M0 M : GM) (done : Nat → Bool) (a : Int32) : Prop :=
  cPiece P M id t ∧ (∀ k, k < 960 → cPx M s k = if done k then sPt P p t k (cPx M0 s k) else cPx M0 s k) ∧
  fl a (∃ k, k < 960 ∧ done k = true ∧ sHit P t k (cPx M0 s k)) ∧
  (∀ g k, ¬ (s + 1 ≤ g ∧ g ≤ s + 3) → gI M g k = gI M0 g k) ∧ (∀ g k, g ≠ id → gL M g k = gL M0 g k) ∧ M.2.2 = M0.2.2
theorem cMid.congr {P : PM} {p id s : Nat} {t : V × V × V} {M0 M : GM} {d e : Nat → Bool} {a : Int32} (h : cMid P p t id s M0 M d a) (hde : ∀ k, k < 960 → sIn (sFoc P) t (k % 40 : Nat) (k / 40 : Nat) → d k = e k) : cMid P p t id s M0 M e a := by
  obtain ⟨a1, b, c, d1, e1, f⟩ := h
  refine ⟨a1, fun k hk => ?_, c.congr ⟨?_, ?_⟩, d1, e1, f⟩
  · rw [b k hk]
    by_cases hi : sIn (sFoc P) t (k % 40 : Nat) (k / 40 : Nat)
    · rw [hde k hk hi]
    · rw [sPt_out hi, ite_self, ite_self]
  · rintro ⟨k, k1, k2, k3⟩; exact ⟨k, k1, by rw [← hde k k1 k3.1]; exact k2, k3⟩
  · rintro ⟨k, k1, k2, k3⟩; exact ⟨k, k1, by rw [hde k k1 k3.1]; exact k2, k3⟩
/-- one point more -/
theorem c_point {P : PM} {M0 M : GM} {F p id s x y : Nat} {t : V × V × V} {d e : Nat → Bool} {a li ri bi : Int32} (hO : OK P) (hR : CV P M0) (hp : p < 30) (ht : tOK P t) (hid : id = 17 ∨ id = 22) (hs : s = 31 ∨ s = 35) (hx : x < 40) (hy : y < 24) (hm : cMid P p t id s M0 M d a) (hpx : pxOK (cPx M0 s (y * 40 + x)))
    (hd : d (y * 40 + x) = false) (he : ∀ k, k < 960 → e k = (d k || decide (k = y * 40 + x))) (hr : ¬ ri < nI x) :
    ∃ a' M', (∀ rec, st_X10_drawPiece_86 F s (nI p) id li ri bi (nI y) rec a (nI x) M = rec a' (nI (x + 1)) M') ∧ cMid P p t id s M0 M' e a' := by
  obtain ⟨hT, hP, hA, hI, hL, hQ⟩ := hm
  have hs3 : s = 27 ∨ s = 31 ∨ s = 35 := Or.inr hs
  obtain ⟨v, M1, e1, e2, at1, pc1, f1, l1, p1⟩ := c_holds (F := F) ht hT hx hy
  have g1 : ∀ g k, gI M1 g k = gI M g k := fun g k => by show M1.1 g k = M.1 g k; rw [f1]
  have px1 : ∀ k, cPx M1 s k = cPx M s k := fun k => by unfold cPx; rw [g1, g1, g1]
  have kk9 : y * 40 + x < 960 := by omega
  obtain ⟨dv, md⟩ := div_rc (y := y) hx
  by_cases hi : sIn (sFoc P) t x y
  rotate_left
  · rw [if_neg hi] at e2
    subst e2
    refine ⟨a, M1, fun rec => ?_, ?_⟩
    · unfold st_X10_drawPiece_86
      rw [if_neg hr, bndO_s _ e1]
      show (if (0 : Int32) = 0 then _ else _) = _
      rw [if_pos rfl, bnd_d, i_1, n_a]
    refine cMid.congr (d := d) ⟨pc1, fun k hk => ?_, hA, fun g k h => (g1 g k).trans (hI g k h), fun g k h => (l1 g k h).trans (hL g k h), p1.trans hQ⟩ ?_
    · rw [px1]; exact hP k hk
    · intro k hk hik
      rw [he k hk]
      have : k ≠ y * 40 + x := by
        rintro rfl
        rw [md, dv] at hik
        exact hi hik
      simp [this]
  · rw [if_pos hi] at e2
    subst e2
    have hR1 : CV P M1 := hR.to fun g k h => by rw [g1, hI g k (by unfold cvS at h; omega)]
    have px0 : cPx M1 s (y * 40 + x) = cPx M0 s (y * 40 + x) := by
      have := hP _ kk9
      rw [hd] at this
      rw [px1]
      exact this.trans (if_neg (by decide))
    obtain ⟨v2, M2, t2, y2, x2, i2, s2⟩ := c_paintPoint (F := F) hO hR1 hp ht hx hy rfl hs3 (at1 hi) hi (by rw [px0]; exact hpx)
    rw [px0] at y2 x2
    have fin : ∀ a', fl a' (∃ k, k < 960 ∧ e k = true ∧ sHit P t k (cPx M0 s k)) → cMid P p t id s M0 M2 e a' := fun a' ha => by
      refine ⟨pc1.to (fun k => i2 _ k (by omega)) (fun k => i2 _ k (by omega)) (fun g k h1 h2 => i2 g k (by omega)) (fun k => ?_) ?_, fun k hk => ?_, ha, fun g k h => ?_, fun g k h => ?_, ?_⟩
      · show M2.2.2 _ _ = M1.2.2 _ _; rw [s2]
      · show M2.2.1 _ _ = M1.2.1 _ _; rw [s2]
      · rw [he k hk]
        by_cases hkk : k = y * 40 + x
        · subst hkk
          rw [x2, decide_eq_true (rfl : y * 40 + x = y * 40 + x), Bool.or_true, if_pos rfl]
        · rw [decide_eq_false hkk, Bool.or_false, ← hP k hk, ← px1]
          unfold cPx
          rw [i2 _ _ (by omega), i2 _ _ (by omega), i2 _ _ (by omega)]
      · rw [i2 g k (by omega), g1, hI g k h]
      · rw [← hL g k h, ← l1 g k h]; show M2.2.1 g k = M1.2.1 g k; rw [s2]
      · rw [s2, p1, hQ]
    by_cases hh : sHit P t (y * 40 + x) (cPx M0 s (y * 40 + x))
    · rw [if_pos hh] at y2
      subst y2
      refine ⟨1, M2, fun rec => ?_, fin 1 (Or.inl ⟨rfl, y * 40 + x, kk9, by rw [he _ kk9]; simp, hh⟩)⟩
      unfold st_X10_drawPiece_86
      rw [if_neg hr, bndO_s _ e1]
      show (if (1 : Int32) = 0 then _ else _) = _
      rw [if_neg (by decide), i_40, n_m, n_a, bndO_s _ t2]
      show (if (1 : Int32) = 0 then _ else _) = _
      rw [if_neg (by decide), bnd_d, bnd_d, i_1, n_a]
    · rw [if_neg hh] at y2
      subst y2
      refine ⟨a, M2, fun rec => ?_, fin a ?_⟩
      · unfold st_X10_drawPiece_86
        rw [if_neg hr, bndO_s _ e1]
        show (if (1 : Int32) = 0 then _ else _) = _
        rw [if_neg (by decide), i_40, n_m, n_a, bndO_s _ t2]
        show (if (0 : Int32) = 0 then _ else _) = _
        rw [if_pos rfl, bnd_d, i_1, n_a]
      · refine hA.congr ⟨?_, ?_⟩
        · rintro ⟨k, k1, k2, k3⟩; exact ⟨k, k1, by rw [he k k1, k2]; rfl, k3⟩
        · rintro ⟨k, k1, k2, k3⟩
          rw [he k k1] at k2
          by_cases hkk : k = y * 40 + x
          · rw [hkk] at k3; exact absurd k3 hh
          · rw [decide_eq_false hkk, Bool.or_false] at k2
            exact ⟨k, k1, k2, k3⟩
/-- the points of a box: columns l to r, rows b to u -/
def inB (l r b u : Int) (k : Nat) : Prop := (l ≤ (k % 40 : Nat) ∧ ((k % 40 : Nat) : Int) ≤ r) ∧ b ≤ (k / 40 : Nat) ∧ ((k / 40 : Nat) : Int) ≤ u
/-- those that have had their turn when the rows before y and of y the points before x are done -/
def dB (l r b u : Int) (y x k : Nat) : Bool := decide (l ≤ (k % 40 : Nat)) && decide (((k % 40 : Nat) : Int) ≤ r) && decide (b ≤ (k / 40 : Nat)) && decide (((k / 40 : Nat) : Int) ≤ u) && (decide (k / 40 < y) || (decide (k / 40 = y) && decide (k % 40 < x)))
theorem dB_iff {l r b u : Int} {y x k : Nat} : dB l r b u y x k = true ↔ inB l r b u k ∧ (k / 40 < y ∨ (k / 40 = y ∧ k % 40 < x)) := by
  unfold dB inB
  simp only [Bool.or_eq_true, Bool.and_eq_true, decide_eq_true_eq]
  constructor
  · rintro ⟨⟨⟨⟨a, b⟩, c⟩, d⟩, e⟩; exact ⟨⟨⟨a, b⟩, c, d⟩, e⟩
  · rintro ⟨⟨⟨a, b⟩, c, d⟩, e⟩; exact ⟨⟨⟨⟨a, b⟩, c⟩, d⟩, e⟩
theorem bool_iff {a b : Bool} (h : a = true ↔ b = true) : a = b := by rw [Bool.eq_iff_iff]; exact h
theorem c_row {P : PM} {M0 M : GM} {F p id s y lo : Nat} {t : V × V × V} {a ri bi : Int32} {r b u : Int} (hF : 3000 ≤ F) (hO : OK P) (hR : CV P M0) (hp : p < 30) (ht : tOK P t) (hid : id = 17 ∨ id = 22) (hs : s = 31 ∨ s = 35) (hy : y < 24) (hyb : b ≤ y ∧ (y : Int) ≤ u) (hm : cMid P p t id s M0 M (dB lo r b u y 0) a) (hpx : ∀ k, k < 960 → inB lo r b u k → pxOK (cPx M0 s k))
    (hri : ri.toInt = r) (l2 : lo ≤ 4000) (h1 : r ≤ 39) (h2 : -4000 ≤ r) :
    ∃ a' M', lp_X10_drawPiece_86 F s (nI p) id (nI lo) ri bi (nI y) F a (nI lo) M = some (a', M') ∧ cMid P p t id s M0 M' (dB lo r b u (y + 1) 0) a' := by
  have L : ∃ q : Int32 × GM, lp_X10_drawPiece_86 F s (nI p) id (nI lo) ri bi (nI y) F a (nI lo) M = some q ∧ cMid P p t id s M0 q.2 (dB lo r b u (y + 1) 0) q.1 := by
    refine run_up (fun n (z : Int32 × Int32 × GM) => lp_X10_drawPiece_86 F s (nI p) id (nI lo) ri bi (nI y) n z.1 z.2.1 z.2.2) (fun i z => z.2.1 = nI i ∧ cMid P p t id s M0 z.2.2 (dB lo r b u y i) z.1) _ lo (max lo (r + 1).toNat) F (by omega) (by omega) (s := (a, nI lo, M)) ⟨rfl, hm.congr fun k hk h => bool_iff ?_⟩ ?_ ?_
    · rw [dB_iff, dB_iff]; unfold inB; omega
    · rintro i ⟨a1, x, M1⟩ q1 q2 ⟨rfl, k1⟩
      have hx : i < 40 := by omega
      have hc : ¬ ri < nI i := by rw [a_lt hri (n_int (by omega))]; omega
      obtain ⟨dv, md⟩ := div_rc (y := y) hx
      obtain ⟨a2, M2, e0, e2⟩ := c_point (F := F) (li := nI lo) (bi := bi) (e := dB lo r b u y (i + 1)) hO hR hp ht hid hs hx hy k1 (hpx _ (by omega) (by unfold inB; rw [dv, md]; omega)) (by
        rw [Bool.eq_false_iff, ne_eq, dB_iff, dv, md]
        omega) (fun k hk => bool_iff (by
        rw [Bool.or_eq_true, dB_iff, dB_iff, decide_eq_true_eq]
        unfold inB
        omega)) hc
      refine ⟨(a2, nI (i + 1), M2), ⟨rfl, e2⟩, fun n => ?_⟩
      show lp_X10_drawPiece_86 F s (nI p) id (nI lo) ri bi (nI y) (n + 1) a1 (nI i) M1 = lp_X10_drawPiece_86 F s (nI p) id (nI lo) ri bi (nI y) n a2 (nI (i + 1)) M2
      rw [el_X10_drawPiece_86, e0]
    · rintro ⟨a1, x, M1⟩ ⟨rfl, k1⟩
      refine ⟨(a1, M1), k1.congr fun k hk h => bool_iff ?_, fun n => ?_⟩
      · rw [dB_iff, dB_iff]; unfold inB; omega
      · show lp_X10_drawPiece_86 F s (nI p) id (nI lo) ri bi (nI y) (n + 1) a1 (nI _) M1 = _
        rw [el_X10_drawPiece_86]
        unfold st_X10_drawPiece_86
        rw [if_pos (by rw [a_lt hri (n_int (by omega))]; omega)]
  obtain ⟨⟨a', M'⟩, e, h⟩ := L
  exact ⟨a', M', e, h⟩
/-- a box of points, as the class keeps it -/
def cBx (M : GM) (o : Nat) (l r b u : Int) : Prop := (gI M o 0).toInt = l ∧ (gI M o 1).toInt = b ∧ (gI M o 2).toInt = r ∧ (gI M o 3).toInt = u ∧ (0 ≤ l ∧ l ≤ 39) ∧ (0 ≤ b ∧ b ≤ 23) ∧ (0 ≤ r ∧ r ≤ 39) ∧ (0 ≤ u ∧ u ≤ 23)
theorem cBx.to {M M' : GM} {o : Nat} {l r b u : Int} (h : cBx M o l r b u) (f : ∀ k, gI M' o k = gI M o k) : cBx M' o l r b u := by
  unfold cBx at h ⊢
  simp only [f]; exact h
/-- what a piece does with a box of points -/
def cPaint (P : PM) (p : Nat) (t : V × V × V) (id s : Nat) (M0 M : GM) (B : Nat → Prop) (a : Int32) : Prop :=
  cPiece P M id t ∧ (∀ k, k < 960 → (B k → cPx M s k = sPt P p t k (cPx M0 s k)) ∧ (¬ B k → cPx M s k = cPx M0 s k)) ∧
  fl a (∃ k, k < 960 ∧ B k ∧ sHit P t k (cPx M0 s k)) ∧
  (∀ g k, ¬ (s + 1 ≤ g ∧ g ≤ s + 3) → gI M g k = gI M0 g k) ∧ (∀ g k, g ≠ id → gL M g k = gL M0 g k) ∧ M.2.2 = M0.2.2
theorem c_drawPiece {P : PM} {M : GM} {F p id s o : Nat} {t : V × V × V} {l r b u : Int} (hF : 3000 ≤ F) (hO : OK P) (hR : CV P M) (hp : p < 30) (ht : tOK P t) (hid : id = 17 ∨ id = 22) (hs : s = 31 ∨ s = 35) (hT : cPiece P M id t) (hB : cBx M o l r b u) (hpx : ∀ k, k < 960 → inB l r b u k → pxOK (cPx M s k)) :
    ∃ a M', f_X10_drawPiece F s o (nI p) id M = some (a, M') ∧ cPaint P p t id s M M' (inB l r b u) a := by
  have hT0 := hT
  obtain ⟨x1, x2, x3, x4, bl, bb, br, bu⟩ := hB
  obtain ⟨-, -, -, -, -, l', b', r', u', p1, p2, p3, p4, q1, q2, q3, q4, box⟩ := hT0
  have m1 := a_max x1 p1
  have m2 := a_max x2 p2
  have m3 := a_min x3 p3
  have m4 := a_min x4 p4
  have n1 : g_max (gI M o 0) (gI M (id + 1) 0) = nI (max l l').toNat := n_of (by rw [m1]; omega)
  have n2 : g_max (gI M o 1) (gI M (id + 1) 1) = nI (max b b').toNat := n_of (by rw [m2]; omega)
  generalize hL : (max l l').toNat = lo at n1
  generalize hT' : (max b b').toNat = to at n2
  generalize hrr : g_min (gI M o 2) (gI M (id + 1) 2) = ri at m3
  generalize huu : g_min (gI M o 3) (gI M (id + 1) 3) = ui at m4
  generalize hr9 : min r r' = r9 at m3
  generalize hu9 : min u u' = u9 at m4
  have L : ∃ q : Int32 × GM, lp_X10_drawPiece_75 F s (nI p) id (nI lo) ri ui F 0 (nI to) M = some q ∧ cMid P p t id s M q.2 (dB l r b u 24 0) q.1 := by
    refine run_up (fun n (z : Int32 × Int32 × GM) => lp_X10_drawPiece_75 F s (nI p) id (nI lo) ri ui n z.1 z.2.1 z.2.2) (fun i z => z.2.1 = nI i ∧ cMid P p t id s M z.2.2 (dB lo r9 to u9 i 0) z.1) _ to (max to (u9 + 1).toNat) F (by omega) (by omega) (s := (0, nI to, M)) ⟨rfl, hT, fun k hk => ?_, Or.inr ⟨rfl, ?_⟩, fun _ _ _ => rfl, fun _ _ _ => rfl, rfl⟩ ?_ ?_
    · rw [if_neg (by rw [dB_iff]; unfold inB; omega)]
    · rintro ⟨k, hk, h, -⟩; rw [dB_iff] at h; unfold inB at h; omega
    · rintro i ⟨a1, x, M1⟩ g1 g2 ⟨rfl, k1⟩
      have hy : i < 24 := by omega
      have hc : ¬ ui < nI i := by rw [a_lt m4 (n_int (by omega))]; omega
      obtain ⟨a2, M2, e0, e2⟩ := c_row (F := F) (bi := ui) (b := to) (u := u9) (by omega) hO hR hp ht hid hs hy ⟨by omega, by omega⟩ k1 (fun k hk h => hpx k hk (by unfold inB at h ⊢; omega)) m3 (by omega) (by omega) (by omega)
      refine ⟨(a2, nI (i + 1), M2), ⟨rfl, e2⟩, fun n => ?_⟩
      show lp_X10_drawPiece_75 F s (nI p) id (nI lo) ri ui (n + 1) a1 (nI i) M1 = lp_X10_drawPiece_75 F s (nI p) id (nI lo) ri ui n a2 (nI (i + 1)) M2
      rw [el_X10_drawPiece_75]
      unfold st_X10_drawPiece_75
      rw [if_neg hc, bnd_d, bndO_s _ e0]
      show bnd (nI i + 1) _ = _
      rw [bnd_d, i_1, n_a]
    · rintro ⟨a1, x, M1⟩ ⟨rfl, k1⟩
      refine ⟨(a1, M1), k1.congr fun k hk h => bool_iff ?_, fun n => ?_⟩
      · have := box (k % 40) (k / 40) (by omega) (by omega) h
        rw [dB_iff, dB_iff]; unfold inB; omega
      · show lp_X10_drawPiece_75 F s (nI p) id (nI lo) ri ui (n + 1) a1 (nI _) M1 = _
        rw [el_X10_drawPiece_75]
        unfold st_X10_drawPiece_75
        rw [if_pos (by rw [a_lt m4 (n_int (by omega))]; omega)]
  obtain ⟨⟨a', M'⟩, e, z1, z2, z3, z4, z5, z6⟩ := L
  have dbi : ∀ k, k < 960 → (dB l r b u 24 0 k = true ↔ inB l r b u k) := fun k hk => by
    rw [dB_iff]; exact ⟨fun h => h.1, fun h => ⟨h, Or.inl (by omega)⟩⟩
  refine ⟨a', M', ?_, z1, fun k hk => ⟨fun h => ?_, fun h => ?_⟩, ?_, z4, z5, z6⟩
  · unfold f_X10_drawPiece
    rw [bnd_d, n1, bnd_d, n2, bnd_d, hrr, bnd_d, huu, bnd_d, bnd_d, bndO_s _ e]
    show grd (gTf a') _ = _
    rw [grd_t (fl.tf (a := a') z3)]
  · rw [z2 k hk, if_pos ((dbi k hk).mpr h)]
  · rw [z2 k hk, if_neg (fun q => h ((dbi k hk).mp q))]
  · refine fl.congr (a := a') z3 ⟨?_, ?_⟩
    · rintro ⟨k, k1, k2, k3⟩; exact ⟨k, k1, (dbi k k1).mp k2, k3⟩
    · rintro ⟨k, k1, k2, k3⟩; exact ⟨k, k1, (dbi k k1).mpr k2, k3⟩
