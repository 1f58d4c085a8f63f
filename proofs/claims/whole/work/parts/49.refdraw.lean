/-! PURE PART: the reference draws -/
theorem bary_x (f : Int) (t : V × V × V) (x y : Int) : sWa f t x y * sX f t.1 + sWb f t x y * sX f t.2.1 + sWc f t x y * sX f t.2.2 = sArea f t * (16 * x + 8) := by
  unfold sWa sWb sWc sArea sTu sTurn
  generalize sX f t.1 = x0; generalize sY f t.1 = y0; generalize sX f t.2.1 = x1; generalize sY f t.2.1 = y1; generalize sX f t.2.2 = x2; generalize sY f t.2.2 = y2
  generalize 16 * x + 8 = m; generalize 16 * y + 8 = n
  grind
theorem bary_y (f : Int) (t : V × V × V) (x y : Int) : sWa f t x y * sY f t.1 + sWb f t x y * sY f t.2.1 + sWc f t x y * sY f t.2.2 = sArea f t * (16 * y + 8) := by
  unfold sWa sWb sWc sArea sTu sTurn
  generalize sX f t.1 = x0; generalize sY f t.1 = y0; generalize sX f t.2.1 = x1; generalize sY f t.2.1 = y1; generalize sX f t.2.2 = x2; generalize sY f t.2.2 = y2
  generalize 16 * x + 8 = m; generalize 16 * y + 8 = n
  grind
theorem cancel_le {a b s : Int} (h : 0 < s) (q : a * s ≤ s * b) : a ≤ b := by
  rw [Int.mul_comm s b] at q
  exact Int.le_of_mul_le_mul_right q h
theorem cancel_ge {a b s : Int} (h : 0 < s) (q : s * b ≤ a * s) : b ≤ a := by
  rw [Int.mul_comm s b] at q
  exact Int.le_of_mul_le_mul_right q h
/-- a point in a piece lies between the least and the most place of its corners -/
theorem box_x {P : PM} {t : V × V × V} {x y L U : Int} (ht : tOK P t) (hi : sIn (sFoc P) t x y) (a : L ≤ sX (sFoc P) t.1 ∧ sX (sFoc P) t.1 ≤ U) (b : L ≤ sX (sFoc P) t.2.1 ∧ sX (sFoc P) t.2.1 ≤ U) (c : L ≤ sX (sFoc P) t.2.2 ∧ sX (sFoc P) t.2.2 ≤ U) : L ≤ 16 * x + 8 ∧ 16 * x + 8 ≤ U := by
  obtain ⟨w1, w2, w3⟩ := sIn_w hi
  have m := mean_bd w1 w2 w3 (sW_sum _ _ _ _) ht.2.2.2.2.2.2 a b c
  rw [bary_x] at m
  exact ⟨cancel_le ht.2.2.2.2.2.2 m.1, cancel_ge ht.2.2.2.2.2.2 m.2.1⟩
theorem box_y {P : PM} {t : V × V × V} {x y L U : Int} (ht : tOK P t) (hi : sIn (sFoc P) t x y) (a : L ≤ sY (sFoc P) t.1 ∧ sY (sFoc P) t.1 ≤ U) (b : L ≤ sY (sFoc P) t.2.1 ∧ sY (sFoc P) t.2.1 ≤ U) (c : L ≤ sY (sFoc P) t.2.2 ∧ sY (sFoc P) t.2.2 ≤ U) : L ≤ 16 * y + 8 ∧ 16 * y + 8 ≤ U := by
  obtain ⟨w1, w2, w3⟩ := sIn_w hi
  have m := mean_bd w1 w2 w3 (sW_sum _ _ _ _) ht.2.2.2.2.2.2 a b c
  rw [bary_y] at m
  exact ⟨cancel_le ht.2.2.2.2.2.2 m.1, cancel_ge ht.2.2.2.2.2.2 m.2.1⟩
theorem a_minl {a b : Int64} {x y : Int} (ha : a.toInt = x) (hb : b.toInt = y) : (g_minl a b).toInt = min x y := by
  unfold g_minl
  rw [Int.min_def]
  have e := a_lt64 hb ha
  by_cases h : b < a
  · rw [if_pos h, hb, if_neg (by have := e.mp h; omega)]
  · rw [if_neg h, ha, if_pos (by rcases Int.lt_or_le y x with q | q; exact absurd (e.mpr q) h; exact q)]
theorem a_maxl {a b : Int64} {x y : Int} (ha : a.toInt = x) (hb : b.toInt = y) : (g_maxl a b).toInt = max x y := by
  unfold g_maxl
  rw [Int.max_def]
  have e := a_lt64 hb ha
  by_cases h : b < a
  · rw [if_pos h, ha, if_neg (by have := e.mp h; omega)]
  · rw [if_neg h, hb, if_pos (by rcases Int.lt_or_le y x with q | q; exact absurd (e.mpr q) h; exact q)]
theorem r_low {F : Nat} {M : GM} {a b c : Int64} {x y z : Int} (ha : a.toInt = x) (hb : b.toInt = y) (hc : c.toInt = z) (bx : -30000 ≤ x ∧ x ≤ 30000) (byy : -30000 ≤ y ∧ y ≤ 30000) (bz : -30000 ≤ z ∧ z ≤ 30000) :
    ∃ lo : Nat, f_X11_low F a b c M = some (nI lo) ∧ lo ≤ 2000 ∧ ∀ m : Nat, (∀ L, L ≤ x → L ≤ y → L ≤ z → L ≤ 16 * (m : Int) + 8) → lo ≤ m := by
  have h := a_minl ha (a_minl hb hc)
  obtain ⟨w, w1, w2⟩ := a_down F M h (show (16 : Int64).toInt = 16 from rfl) (by omega) (by omega) (by omega)
  have k := a_maxl (show (0 : Int64).toInt = 0 from rfl) (a_sub64 w2 (show (1 : Int64).toInt = 1 from rfl) (by omega) (by omega))
  have k2 := a_32 k (by omega) (by omega)
  refine ⟨(max 0 (min x (min y z) / 16 - 1)).toNat, ?_, by omega, fun m hm => ?_⟩
  · unfold f_X11_low
    rw [bndO_s _ w1, n_of (v := (g_maxl 0 (w - 1)).toInt32) (n := (max 0 (min x (min y z) / 16 - 1)).toNat) (by rw [k2]; omega)]
  · have := hm (min x (min y z)) (by omega) (by omega) (by omega)
    omega
theorem r_high {F : Nat} {M : GM} {a b c : Int64} {x y z : Int} {e : Int32} {e' : Int} (he : e.toInt = e') (be : 0 ≤ e' ∧ e' ≤ 39) (ha : a.toInt = x) (hb : b.toInt = y) (hc : c.toInt = z) (bx : -30000 ≤ x ∧ x ≤ 30000) (byy : -30000 ≤ y ∧ y ≤ 30000) (bz : -30000 ≤ z ∧ z ≤ 30000) :
    ∃ v : Int32, f_X11_high F a b c e M = some v ∧ v.toInt ≤ e' ∧ -2000 ≤ v.toInt ∧ ∀ m : Nat, (m : Int) ≤ e' → (∀ U, x ≤ U → y ≤ U → z ≤ U → 16 * (m : Int) + 8 ≤ U) → (m : Int) ≤ v.toInt := by
  have h := a_maxl ha (a_maxl hb hc)
  obtain ⟨w, w1, w2⟩ := a_down F M h (show (16 : Int64).toInt = 16 from rfl) (by omega) (by omega) (by omega)
  have k := a_minl (a_64 he) (a_add64 w2 (show (1 : Int64).toInt = 1 from rfl) (by omega) (by omega))
  have k2 := a_32 k (by omega) (by omega)
  refine ⟨_, by unfold f_X11_high; rw [bndO_s _ w1], by rw [k2]; omega, by rw [k2]; omega, fun m h1 hm => ?_⟩
  have := hm (max x (max y z)) (by omega) (by omega) (by omega)
  rw [k2]; omega
theorem div_rc {x y : Nat} (hx : x < 40) : (y * 40 + x) / 40 = y ∧ (y * 40 + x) % 40 = x := by omega
theorem sPt_out {P : PM} {i k : Nat} {t : V × V × V} {p : Px} (h : ¬ sIn (sFoc P) t (k % 40 : Nat) (k / 40 : Nat)) : sPt P i t k p = p := by
  unfold sPt; rw [if_neg (fun q => h q.1)]
/-- what drawing may change of the reference's cells -/
def rdI (g k : Nat) : Prop := (141 ≤ g ∧ g ≤ 143) ∨ (g = 122 ∧ k = 39)
theorem rTri.to {P : PM} {M M' : GM} {t : V × V × V} (h : rTri P M t) (hi : ∀ g j, 150 ≤ g → g ≤ 152 → gI M' g j = gI M g j) (hl : ∀ g k, 153 ≤ g → g ≤ 156 → gL M' g k = gL M g k) (ha : gL M' 122 33 = gL M 122 33) : rTri P M' t :=
  ⟨h.1.to (fun j => hi _ j (by omega) (by omega)) (fun g a b => hl g _ a b), h.2.1.to (fun j => hi _ j (by omega) (by omega)) (fun g a b => hl g _ a b), h.2.2.1.to (fun j => hi _ j (by omega) (by omega)) (fun g a b => hl g _ a b), by rw [ha]; exact h.2.2.2⟩
/-- the state between the points of a piece: done says which have had their turn -/
def rMid (P : PM) (p : Nat) (t : V × V × V) (M0 M : GM) (done : Nat → Bool) : Prop :=
  rTri P M t ∧ (∀ k, k < 960 → rPx M k = if done k then sPt P p t k (rPx M0 k) else rPx M0 k) ∧
  (∀ kk, kk < 960 → gI M0 122 25 = nI kk → gI M 122 39 = if done kk ∧ sHit P t kk (rPx M0 kk) ∧ ¬ P 132 p = 0 then 1 else gI M0 122 39) ∧
  (∀ g k, ¬ rdI g k → gI M g k = gI M0 g k) ∧ (∀ g k, g ≠ 122 → gL M g k = gL M0 g k) ∧ M.2.2 = M0.2.2
theorem rMid.congr {P : PM} {p : Nat} {t : V × V × V} {M0 M : GM} {d e : Nat → Bool} (h : rMid P p t M0 M d) (hde : ∀ k, k < 960 → sIn (sFoc P) t (k % 40 : Nat) (k / 40 : Nat) → d k = e k) : rMid P p t M0 M e := by
  obtain ⟨a, b, c, d1, e1, f⟩ := h
  refine ⟨a, fun k hk => ?_, fun kk hk hg => ?_, d1, e1, f⟩
  · rw [b k hk]
    by_cases hi : sIn (sFoc P) t (k % 40 : Nat) (k / 40 : Nat)
    · rw [hde k hk hi]
    · rw [sPt_out hi, ite_self, ite_self]
  · rw [c kk hk hg]
    by_cases hi : sIn (sFoc P) t (kk % 40 : Nat) (kk / 40 : Nat)
    · rw [hde kk hk hi]
    · rw [if_neg (fun q => hi q.2.1.1), if_neg (fun q => hi q.2.1.1)]
/-- one point more -/
theorem r_point {P : PM} {M0 M : GM} {F p x y : Nat} {t : V × V × V} {d e : Nat → Bool} (hO : OK P) (hR : RV P M0) (hp : p < 30) (ht : tOK P t) (hx : x < 40) (hy : y < 24) (hm : rMid P p t M0 M d) (hpx : ∀ k, k < 960 → pxOK (rPx M0 k))
    (hd : d (y * 40 + x) = false) (he : ∀ k, k < 960 → e k = (d k || decide (k = y * 40 + x))) :
    ∃ M', (∀ rec : Int32 → GM → Option GM, (bndO (f_X11_isInPiece F (nI x) (nI y) M) (fun (v27, M28) => if v27 = 0 then (bnd (nI x + (1 : Int32)) (fun v29 => rec v29 M28)) else (bndO (f_X11_paintPoint F ((nI y * (40 : Int32)) + nI x) (nI p) M28) (fun M32 => bnd (nI x + (1 : Int32)) (fun v33 => rec v33 M32))))) = rec (nI (x + 1)) M') ∧ rMid P p t M0 M' e := by
  obtain ⟨hT, hP, hG, hI, hL, hQ⟩ := hm
  obtain ⟨v, M1, e1, e2, at1, f1, l1, p1⟩ := r_isInPiece (F := F) ht hT hx hy
  have g1 : ∀ g k, gI M1 g k = gI M g k := fun g k => by show M1.1 g k = M.1 g k; rw [f1]
  have kk9 : y * 40 + x < 960 := by omega
  obtain ⟨dv, md⟩ := div_rc (y := y) hx
  by_cases hi : sIn (sFoc P) t x y
  rotate_left
  · rw [if_neg hi] at e2
    subst e2
    refine ⟨M1, fun rec => by rw [bndO_s _ e1]; show (if (0 : Int32) = 0 then _ else _) = _; rw [if_pos rfl, bnd_d, i_1, n_a], ?_⟩
    refine rMid.congr (d := d) ⟨at1.1, fun k hk => ?_, fun kk hk hg => ?_, fun g k h => (g1 g k).trans (hI g k h), fun g k h => (l1 g k h).trans (hL g k h), p1.trans hQ⟩ ?_
    · rw [← hP k hk]; unfold rPx; rw [g1, g1, g1]
    · rw [g1]; exact hG kk hk hg
    · intro k hk hik
      rw [he k hk]
      have : k ≠ y * 40 + x := by
        rintro rfl
        rw [md, dv] at hik
        exact hi hik
      simp [this]
  · rw [if_pos hi] at e2
    subst e2
    have hR1 : RV P M1 := hR.to fun g k h => by rw [g1, hI g k (by unfold rdI; omega)]
    have px1 : rPx M1 (y * 40 + x) = rPx M0 (y * 40 + x) := by
      have := hP _ kk9
      rw [hd] at this
      rw [← this.trans (if_neg (by decide))]
      unfold rPx; rw [g1, g1, g1]
    obtain ⟨M2, t2, x2, gl2, i2, s2⟩ := r_paintPoint (F := F) hO hR1 hp ht hx hy rfl at1 hi (by rw [px1]; exact hpx _ kk9)
    refine ⟨M2, fun rec => ?_, ?_, fun k hk => ?_, fun kk hk hg => ?_, fun g k h => ?_, fun g k h => ?_, ?_⟩
    · rw [bndO_s _ e1]
      show (if (1 : Int32) = 0 then _ else _) = _
      rw [if_neg (by decide), i_40, n_m, n_a, bndO_s _ t2, bnd_d, i_1, n_a]
    · refine at1.1.to (fun g j a b => i2 g j (by omega) (by omega)) (fun g k _ _ => ?_) ?_
      · show M2.2.1 g k = M1.2.1 g k; rw [s2]
      · show M2.2.1 _ _ = M1.2.1 _ _; rw [s2]
    · rw [he k hk]
      by_cases hkk : k = y * 40 + x
      · subst hkk
        rw [x2, px1, decide_eq_true (rfl : y * 40 + x = y * 40 + x), Bool.or_true, if_pos rfl]
      · rw [decide_eq_false hkk, Bool.or_false, ← hP k hk]
        unfold rPx
        rw [i2 141 k (by omega) (by omega), i2 142 k (by omega) (by omega), i2 143 k (by omega) (by omega), g1, g1, g1]
    · have hg' : gI M1 122 25 = nI kk := by rw [g1, hI 122 25 (by unfold rdI; omega)]; exact hg
      rw [gl2 kk hk hg', he kk hk]
      by_cases hkk : y * 40 + x = kk
      · subst hkk
        rw [px1, g1, hG _ hk hg, hd, decide_eq_true (rfl : y * 40 + x = y * 40 + x), Bool.or_true]
        simp
      · rw [if_neg (fun h => hkk h.1), g1, hG kk hk hg, decide_eq_false (fun h => hkk h.symm), Bool.or_false]
    · unfold rdI at h
      rw [i2 g k (by omega) (by omega), g1, hI g k (by unfold rdI; omega)]
    · rw [← hL g k h, ← l1 g k h]; show M2.2.1 g k = M1.2.1 g k; rw [s2]
    · rw [s2, p1, hQ]
