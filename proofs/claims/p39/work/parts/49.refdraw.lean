/-! PURE PART: the reference draws -/
theorem bary_x (f : Int) (t : V × V × V) (x y : Int) : sWa f t x y * sX f t.1 + sWb f t x y * sX f t.2.1 + sWc f t x y * sX f t.2.2 = sArea f t * (16 * x + 8) := by
  unfold sWa sWb sWc sArea sTu sTurn
  generalize sX f t.1 = x0; generalize sY f t.1 = y0; generalize sX f t.2.1 = x1; generalize sY f t.2.1 = y1; generalize sX f t.2.2 = x2; generalize sY f t.2.2 = y2
  generalize 16 * x + 8 = m; generalize 16 * y + 8 = n
  grind
theorem bary_y (f : Int) (t : V × V × V) (x y : Int) : sWa f t x y * sY f t.1 + sWb f t x y * sY f t.2.1 + sWc f t x y * sY f t.2.2 = sArea f t * (16 * y + 8) := by
  unfold sWa sWb sWc sArea sTu sTurn
  generalize sX f t.1 = x0; generalize sY f t.1 = y0; generalize sX f t.2.1 = x1; generalize sY f t.2.1 = y1; generalize sX f t.2.2 = x2; generalize sY f t.2.2 = y2
  generalize 16 * x + 8 = m; generalize 16 * y + 8 = n
  grind
theorem cancel_le {a b s : Int} (h : 0 < s) (q : a * s ≤ s * b) : a ≤ b := by
  rw [Int.mul_comm s b] at q
  exact Int.le_of_mul_le_mul_right q h
theorem cancel_ge {a b s : Int} (h : 0 < s) (q : s * b ≤ a * s) : b ≤ a := by
  rw [Int.mul_comm s b] at q
  exact Int.le_of_mul_le_mul_right q h
/-- a point in a piece lies between the least and the most place of its corners -/
theorem box_x {P : PM} {t : V × V × V} {x y L U : Int} (ht : tOK P t) (hi : sIn (sFoc P) t x y) (a : L ≤ sX (sFoc P) t.1 ∧ sX (sFoc P) t.1 ≤ U) (b : L ≤ sX (sFoc P) t.2.1 ∧ sX (sFoc P) t.2.1 ≤ U) (c : L ≤ sX (sFoc P) t.2.2 ∧ sX (sFoc P) t.2.2 ≤ U) : L ≤ 16 * x + 8 ∧ 16 * x + 8 ≤ U := by
  obtain ⟨w1, w2, w3⟩ := sIn_w hi
  have m := mean_bd w1 w2 w3 (sW_sum _ _ _ _) ht.2.2.2.2.2.2 a b c
  rw [bary_x] at m
  exact ⟨cancel_le ht.2.2.2.2.2.2 m.1, cancel_ge ht.2.2.2.2.2.2 m.2.1⟩
theorem box_y {P : PM} {t : V × V × V} {x y L U : Int} (ht : tOK P t) (hi : sIn (sFoc P) t x y) (a : L ≤ sY (sFoc P) t.1 ∧ sY (sFoc P) t.1 ≤ U) (b : L ≤ sY (sFoc P) t.2.1 ∧ sY (sFoc P) t.2.1 ≤ U) (c : L ≤ sY (sFoc P) t.2.2 ∧ sY (sFoc P) t.2.2 ≤ U) : L ≤ 16 * y + 8 ∧ 16 * y + 8 ≤ U := by
  obtain ⟨w1, w2, w3⟩ := sIn_w hi
  have m := mean_bd w1 w2 w3 (sW_sum _ _ _ _) ht.2.2.2.2.2.2 a b c
  rw [bary_y] at m
  exact ⟨cancel_le ht.2.2.2.2.2.2 m.1, cancel_ge ht.2.2.2.2.2.2 m.2.1⟩
theorem a_minl {a b : Int64} {x y : Int} (ha : a.toInt = x) (hb : b.toInt = y) : (g_minl a b).toInt = min x y := by
  unfold g_minl
  rw [Int.min_def]
  have e := a_lt64 hb ha
  by_cases h : b < a
  · rw [if_pos h, hb, if_neg (by have := e.mp h; omega)]
  · rw [if_neg h, ha, if_pos (by rcases Int.lt_or_le y x with q | q; exact absurd (e.mpr q) h; exact q)]
theorem a_maxl {a b : Int64} {x y : Int} (ha : a.toInt = x) (hb : b.toInt = y) : (g_maxl a b).toInt = max x y := by
  unfold g_maxl
  rw [Int.max_def]
  have e := a_lt64 hb ha
  by_cases h : b < a
  · rw [if_pos h, ha, if_neg (by have := e.mp h; omega)]
  · rw [if_neg h, hb, if_pos (by rcases Int.lt_or_le y x with q | q; exact absurd (e.mpr q) h; exact q)]
theorem div_rc {x y : Nat} (hx : x < 40) : (y * 40 + x) / 40 = y ∧ (y * 40 + x) % 40 = x := by omega
theorem sPt_out {P : PM} {i k : Nat} {t : V × V × V} {p : Px} (h : ¬ sIn (sFoc P) t (k % 40 : Nat) (k / 40 : Nat)) : sPt P i t k p = p := by
  unfold sPt; rw [if_neg (fun q => h q.1)]
