/-! PURE PART: the class's pieces -/
theorem a_min {a b : Int32} {x y : Int} (ha : a.toInt = x) (hb : b.toInt = y) : (g_min a b).toInt = min x y := by
  unfold g_min
  rw [Int.min_def]
  have e := a_lt hb ha
  by_cases h : b < a
  · rw [if_pos h, hb, if_neg (by have := e.mp h; omega)]
  · rw [if_neg h, ha, if_pos (by rcases Int.lt_or_le y x with q | q; exact absurd (e.mpr q) h; exact q)]
theorem a_max {a b : Int32} {x y : Int} (ha : a.toInt = x) (hb : b.toInt = y) : (g_max a b).toInt = max x y := by
  unfold g_max
  rw [Int.max_def]
  have e := a_lt ha hb
  by_cases h : a < b
  · rw [if_pos h, hb, if_pos (by have := e.mp h; omega)]
  · rw [if_neg h, ha]
    by_cases q : x ≤ y
    · rw [if_pos q]
      rcases Int.lt_or_le x y with q2 | q2
      · exact absurd (e.mpr q2) h
      · omega
    · rw [if_neg q]
theorem a_abs {a : Int64} {x : Int} (ha : a.toInt = x) (h : -9223372036854775808 < x) : (g_abs a).toInt = if 0 < x then x else -x := by
  unfold g_abs
  have e := a_lt64 (show (0 : Int64).toInt = 0 from rfl) ha
  by_cases q : 0 < a
  · rw [if_pos q, if_pos (e.mp q), ha]
  · rw [if_neg q, if_neg (fun w => q (e.mpr w)), a_neg64 ha h]
theorem c_within {a b c : Int32} {x y z : Int} (ha : a.toInt = x) (hb : b.toInt = y) (hc : c.toInt = z) : f_X10_isWithin a b c = if y ≤ x ∧ x ≤ z then 1 else 0 := by
  unfold f_X10_isWithin
  have e1 := a_lt ha hb
  have e2 := a_lt hc ha
  by_cases h1 : x < y
  · rw [if_pos (e1.mpr h1), if_neg (by omega)]
  · rw [if_neg (fun q => h1 (e1.mp q))]
    by_cases h2 : z < x
    · rw [if_pos (e2.mpr h2), if_neg (by omega)]
    · rw [if_neg (fun q => h2 (e2.mp q)), if_pos (by omega)]
theorem c_farOut {P : PM} {M : GM} {o : Nat} {v : V} (h : cSp P M o v) : f_X9_isFarOut o M = if sFar (sFoc P) v then 1 else 0 := by
  unfold f_X9_isFarOut
  rw [c_within h.2.1 (show (-30000 : Int32).toInt = -30000 by decide) (show (30000 : Int32).toInt = 30000 from rfl), c_within h.2.2.1 (show (-30000 : Int32).toInt = -30000 by decide) (show (30000 : Int32).toInt = 30000 from rfl)]
  by_cases h1 : -30000 ≤ sX (sFoc P) v ∧ sX (sFoc P) v ≤ 30000
  · rw [if_pos h1, if_neg (by decide)]
    by_cases h2 : -30000 ≤ sY (sFoc P) v ∧ sY (sFoc P) v ≤ 30000
    · rw [if_pos h2, if_neg (by decide), if_neg (by unfold sFar; omega)]
    · rw [if_neg h2, if_pos rfl, if_pos (by unfold sFar; omega)]
  · rw [if_neg h1, if_pos rfl, if_pos (by unfold sFar; omega)]
theorem c_turn {P : PM} {M : GM} {o1 o2 : Nat} {a b : V} {X Y : Int32} {x y : Int} (ha : cSp P M o1 a) (hb : cSp P M o2 b) (na : ¬ sFar (sFoc P) a) (nb : ¬ sFar (sFoc P) b) (hX : X.toInt = x) (hY : Y.toInt = y) (bx : -30000 ≤ x ∧ x ≤ 30000) (byy : -30000 ≤ y ∧ y ≤ 30000) :
    (f_X6_turn o1 o2 X Y M).toInt = sTu (sFoc P) a b x y := by
  have na' := na
  have nb' := nb
  unfold sFar at na' nb'
  have m1 := a_mb (a := sX (sFoc P) b - sX (sFoc P) a) (b := y - sY (sFoc P) a) (A := 60000) (B := 60000) (by omega) (by omega) (by omega) (by omega)
  have m2 := a_mb (a := sY (sFoc P) b - sY (sFoc P) a) (b := x - sX (sFoc P) a) (A := 60000) (B := 60000) (by omega) (by omega) (by omega) (by omega)
  exact a_sub64 (a_mul64 (a_64 (a_sub hb.2.1 ha.2.1 (by omega) (by omega))) (a_64 (a_sub hY ha.2.2.1 (by omega) (by omega))) (by omega) (by omega)) (a_mul64 (a_64 (a_sub hb.2.2.1 ha.2.2.1 (by omega) (by omega))) (a_64 (a_sub hX ha.2.1 (by omega) (by omega))) (by omega) (by omega)) (by omega) (by omega)
/-- the box of a piece holds all its points -/
def cBox (P : PM) (M : GM) (id : Nat) (t : V × V × V) : Prop := ∃ l tt r b : Int, (gI M (id + 1) 0).toInt = l ∧ (gI M (id + 1) 1).toInt = tt ∧ (gI M (id + 1) 2).toInt = r ∧ (gI M (id + 1) 3).toInt = b ∧
  (0 ≤ l ∧ l ≤ 4000) ∧ (0 ≤ tt ∧ tt ≤ 4000) ∧ (-4000 ≤ r ∧ r ≤ 39) ∧ (-4000 ≤ b ∧ b ≤ 23) ∧ ∀ x y : Nat, x < 40 → y < 24 → sIn (sFoc P) t x y → (l ≤ x ∧ (x : Int) ≤ r) ∧ (tt ≤ y ∧ (y : Int) ≤ b)
def cPiece (P : PM) (M : GM) (id : Nat) (t : V × V × V) : Prop := gI M id 5 = 1 ∧ (12 ≤ gP M id 1 ∧ gP M id 1 ≤ 15 ∧ cSp P M (gP M id 1) t.1) ∧ (12 ≤ gP M id 2 ∧ gP M id 2 ≤ 15 ∧ cSp P M (gP M id 2) t.2.1) ∧ (12 ≤ gP M id 3 ∧ gP M id 3 ≤ 15 ∧ cSp P M (gP M id 3) t.2.2) ∧ (gL M id 4).toInt = sArea (sFoc P) t ∧ cBox P M id t
theorem cPiece.to {P : PM} {M M' : GM} {id : Nat} {t : V × V × V} (h : cPiece P M id t) (f1 : ∀ k, gI M' id k = gI M id k) (f2 : ∀ k, gI M' (id + 1) k = gI M (id + 1) k) (f3 : ∀ g k, 12 ≤ g → g ≤ 15 → gI M' g k = gI M g k) (f4 : ∀ k, gP M' id k = gP M id k) (f5 : gL M' id 4 = gL M id 4) : cPiece P M' id t := by
  obtain ⟨a, ⟨b1, b2, b3⟩, ⟨c1, c2, c3⟩, ⟨d1, d2, d3⟩, e, l, tt, r, b, g⟩ := h
  refine ⟨by rw [f1]; exact a, ⟨by rw [f4]; exact b1, by rw [f4]; exact b2, ?_⟩, ⟨by rw [f4]; exact c1, by rw [f4]; exact c2, ?_⟩, ⟨by rw [f4]; exact d1, by rw [f4]; exact d2, ?_⟩, by rw [f5]; exact e, l, tt, r, b, ?_⟩
  · rw [f4]; exact b3.to fun k => f3 _ k b1 b2
  · rw [f4]; exact c3.to fun k => f3 _ k c1 c2
  · rw [f4]; exact d3.to fun k => f3 _ k d1 d2
  · simp only [f2]; exact g
theorem c_min3 {a b c : Int32} {x y z : Int} (ha : a.toInt = x) (hb : b.toInt = y) (hc : c.toInt = z) (bx : -30000 ≤ x ∧ x ≤ 30000) (byy : -30000 ≤ y ∧ y ≤ 30000) (bz : -30000 ≤ z ∧ z ≤ 30000) :
    ∃ m, (g_min a (g_min b c)).toInt = m ∧ (-30000 ≤ m ∧ m ≤ 30000) ∧ m ≤ x ∧ m ≤ y ∧ m ≤ z := ⟨_, a_min ha (a_min hb hc), by omega, by omega, by omega, by omega⟩
theorem c_max3 {a b c : Int32} {x y z : Int} (ha : a.toInt = x) (hb : b.toInt = y) (hc : c.toInt = z) (bx : -30000 ≤ x ∧ x ≤ 30000) (byy : -30000 ≤ y ∧ y ≤ 30000) (bz : -30000 ≤ z ∧ z ≤ 30000) :
    ∃ m, (g_max a (g_max b c)).toInt = m ∧ (-30000 ≤ m ∧ m ≤ 30000) ∧ x ≤ m ∧ y ≤ m ∧ z ≤ m := ⟨_, a_max ha (a_max hb hc), by omega, by omega, by omega, by omega⟩
theorem c_lowM {F : Nat} {M : GM} {a : Int32} {m : Int} (ha : a.toInt = m) (bx : -30000 ≤ m ∧ m ≤ 30000) : ∃ v, f_X6_firstMiddle F a M = some v ∧ 0 ≤ (g_max 0 v).toInt ∧ (g_max 0 v).toInt ≤ 4000 ∧ ∀ x : Nat, m ≤ 16 * (x : Int) + 8 → (g_max 0 v).toInt ≤ x := by
  have s1 := a_sub (a_add ha (show (8 : Int32).toInt = 8 from rfl) (by omega) (by omega)) (show (1 : Int32).toInt = 1 from rfl) (by omega) (by omega)
  obtain ⟨q, q1, q2⟩ := a_fdiv32 F M s1 (show (16 : Int32).toInt = 16 from rfl) (by omega)
  have L := a_max (show (0 : Int32).toInt = 0 from rfl) q2
  exact ⟨q, by unfold f_X6_firstMiddle; rw [bndO_s _ q1], by omega, by omega, fun x h => by omega⟩
theorem c_highM {F : Nat} {M : GM} {a e : Int32} {m e' : Int} (he : e.toInt = e') (be : 0 ≤ e' ∧ e' ≤ 39) (ha : a.toInt = m) (bx : -30000 ≤ m ∧ m ≤ 30000) : ∃ v, f_X6_lastMiddle F a M = some v ∧ -4000 ≤ (g_min e v).toInt ∧ (g_min e v).toInt ≤ e' ∧ ∀ x : Nat, (x : Int) ≤ e' → 16 * (x : Int) + 8 ≤ m → (x : Int) ≤ (g_min e v).toInt := by
  have s1 := a_sub ha (show (8 : Int32).toInt = 8 from rfl) (by omega) (by omega)
  obtain ⟨q, q1, q2⟩ := a_fdiv32 F M s1 (show (16 : Int32).toInt = 16 from rfl) (by omega)
  have L := a_min he q2
  exact ⟨q, by unfold f_X6_lastMiddle; rw [bndO_s _ q1], by omega, by omega, fun x h h2 => by omega⟩
/-- what taking a piece may change -/
def tkI (id g k : Nat) : Prop := (g = id ∧ k = 5) ∨ g = id + 1
theorem c_box {P : PM} {M : GM} {F id a b c : Nat} {t : V × V × V} (ht : tOK P t) (ha : cSp P M a t.1) (hb : cSp P M b t.2.1) (hc : cSp P M c t.2.2) (e1 : gP M id 1 = a) (e2 : gP M id 2 = b) (hid : a ≠ id + 1 ∧ b ≠ id + 1 ∧ c ≠ id + 1) :
    ∃ M', bk_X6_take_105 F id c id M = some M' ∧ cBox P M' id t ∧ (∀ g k, g ≠ id + 1 → gI M' g k = gI M g k) ∧ M'.2.1 = M.2.1 ∧ gP M' id 1 = a ∧ gP M' id 2 = b ∧ gP M' id 3 = c ∧ (∀ g k, g ≠ id → gP M' g k = gP M g k) := by
  have n1 := ht.2.2.2.1
  have n2 := ht.2.2.2.2.1
  have n3 := ht.2.2.2.2.2.1
  unfold sFar at n1 n2 n3
  have r1 : gP (sP M id 3 c) id 1 = a := by rw [gP_sP, if_neg (by omega)]; exact e1
  have r2 : gP (sP M id 3 c) id 2 = b := by rw [gP_sP, if_neg (by omega)]; exact e2
  have r3 : gP (sP M id 3 c) id 3 = c := by rw [gP_sP, if_pos ⟨rfl, rfl⟩]
  obtain ⟨m1, x1, x2, x3, x4, x5⟩ := c_min3 ha.2.1 hb.2.1 hc.2.1 (by omega) (by omega) (by omega)
  obtain ⟨m2, y1, y2, y3, y4, y5⟩ := c_min3 ha.2.2.1 hb.2.2.1 hc.2.2.1 (by omega) (by omega) (by omega)
  obtain ⟨m3, p1, p2, p3, p4, p5⟩ := c_max3 ha.2.1 hb.2.1 hc.2.1 (by omega) (by omega) (by omega)
  obtain ⟨m4, q1, q2, q3, q4, q5⟩ := c_max3 ha.2.2.1 hb.2.2.1 hc.2.2.1 (by omega) (by omega) (by omega)
  obtain ⟨u1, u2, u3, u4, u5⟩ := c_lowM (F := F) (M := sP M id 3 c) x1 x2
  obtain ⟨v1, v2, v3, v4, v5⟩ := c_lowM (F := F) (M := sP M id 3 c) y1 y2
  obtain ⟨w1, w2, w3, w4, w5⟩ := c_highM (F := F) (M := sP M id 3 c) (show (39 : Int32).toInt = 39 from rfl) (by omega) p1 p2
  obtain ⟨z1, z2, z3, z4, z5⟩ := c_highM (F := F) (M := sP M id 3 c) (show (23 : Int32).toInt = 23 from rfl) (by omega) q1 q2
  refine ⟨f_X0_span (id + 1) u1 v1 w1 z1 (sP M id 3 c), ?_, ⟨(g_max 0 u1).toInt, (g_max 0 v1).toInt, (g_min 39 w1).toInt, (g_min 23 z1).toInt, ?_, ?_, ?_, ?_, ⟨u3, u4⟩, ⟨v3, v4⟩, ⟨w3, w4⟩, ⟨z3, z4⟩, fun x y hx hy hi => ?_⟩, fun g k h => ?_, rfl, r1, r2, r3, fun g k h => ?_⟩
  · unfold bk_X6_take_105
    rw [bnd_d, r1, r2, r3]
    simp only [gI_sP]
    rw [bndO_s _ u2, bndO_s _ v2, bndO_s _ w2, bndO_s _ z2, bnd_d]
  · unfold f_X0_span; simp only [bnd_d, gI_sI]; simp
  · unfold f_X0_span; simp only [bnd_d, gI_sI]; simp
  · unfold f_X0_span; simp only [bnd_d, gI_sI]; simp
  · unfold f_X0_span; simp only [bnd_d, gI_sI]; simp
  · have bx := box_lx ht hi
    have byy := box_ly ht hi
    exact ⟨⟨u5 x (bx.1 m1 x3 x4 x5), w5 x (by omega) (bx.2 m3 p3 p4 p5)⟩, ⟨v5 y (byy.1 m2 y3 y4 y5), z5 y (by omega) (byy.2 m4 q3 q4 q5)⟩⟩
  · unfold f_X0_span
    simp only [bnd_d, gI_sI, h, false_and, if_false, gI_sP]
  · show gP (sP M id 3 c) g k = _
    rw [gP_sP, if_neg (by omega)]
theorem c_take {P : PM} {M : GM} {F id o0 o1 o2 : Nat} {a b c : V} {two : Int32} (hid : 17 ≤ id) (h0 : 12 ≤ o0 ∧ o0 ≤ 15) (h1 : 12 ≤ o1 ∧ o1 ≤ 15) (h2 : 12 ≤ o2 ∧ o2 ≤ 15) (ha : cSp P M o0 a) (hb : cSp P M o1 b) (hc : cSp P M o2 c)
    (ga : gv (sNear P) a) (gb : gv (sNear P) b) (gc : gv (sNear P) c) (h5 : gI M id 5 = 0) :
    ∃ M', f_X6_take F id o0 o1 o2 two M = some M' ∧ (match sPiece (sFoc P) two a b c with | none => gI M' id 5 = 0 | some t => cPiece P M' id t) ∧ (∀ g k, ¬ tkI id g k → gI M' g k = gI M g k) ∧ (∀ g k, g ≠ id → gL M' g k = gL M g k) ∧ (∀ g k, g ≠ id → gP M' g k = gP M g k) := by
  have stay : sPiece (sFoc P) two a b c = none → f_X6_take F id o0 o1 o2 two M = some M → ∃ M', f_X6_take F id o0 o1 o2 two M = some M' ∧ (match sPiece (sFoc P) two a b c with | none => gI M' id 5 = 0 | some t => cPiece P M' id t) ∧ (∀ g k, ¬ tkI id g k → gI M' g k = gI M g k) ∧ (∀ g k, g ≠ id → gL M' g k = gL M g k) ∧ (∀ g k, g ≠ id → gP M' g k = gP M g k) := fun e1 e2 =>
    ⟨M, e2, by rw [e1]; exact h5, fun _ _ _ => rfl, fun _ _ _ => rfl, fun _ _ _ => rfl⟩
  have fa := c_farOut ha
  have fb := c_farOut hb
  have fc := c_farOut hc
  by_cases na : sFar (sFoc P) a
  · refine stay (by unfold sPiece; rw [if_pos (Or.inl na)]) ?_
    unfold f_X6_take
    rw [fa, if_pos na, if_neg (by decide)]
  by_cases nb : sFar (sFoc P) b
  · refine stay (by unfold sPiece; rw [if_pos (Or.inr (Or.inl nb))]) ?_
    unfold f_X6_take
    rw [fa, if_neg na, if_pos rfl, fb, if_pos nb, if_neg (by decide)]
  by_cases nc : sFar (sFoc P) c
  · refine stay (by unfold sPiece; rw [if_pos (Or.inr (Or.inr nc))]) ?_
    unfold f_X6_take
    rw [fa, if_neg na, if_pos rfl, fb, if_neg nb, if_pos rfl, fc, if_pos nc, if_neg (by decide)]
  have nc' := nc
  unfold sFar at nc'
  have tu := c_turn (M := M) ha hb na nb hc.2.1 hc.2.2.1 (by omega) (by omega)
  have bd := sTu_bd (x := sX (sFoc P) c) (y := sY (sFoc P) c) na nb (by omega) (by omega)
  have hnf : ¬ (sFar (sFoc P) a ∨ sFar (sFoc P) b ∨ sFar (sFoc P) c) := by
    rintro (h | h | h)
    · exact na h
    · exact nb h
    · exact nc h
  have head : f_X6_take F id o0 o1 o2 two M = if sTu (sFoc P) a b (sX (sFoc P) c) (sY (sFoc P) c) = 0 then some M else if 0 ≤ sTu (sFoc P) a b (sX (sFoc P) c) (sY (sFoc P) c) then bk_X6_take_57 F id o0 o1 o2 (f_X6_turn o0 o1 (gI M o2 8) (gI M o2 9) M) M else if two = 0 then some M else bk_X6_take_57 F id o0 o1 o2 (f_X6_turn o0 o1 (gI M o2 8) (gI M o2 9) M) M := by
    unfold f_X6_take
    rw [fa, if_neg na, if_pos rfl, fb, if_neg nb, if_pos rfl, fc, if_neg nc, if_pos rfl, bnd_d]
    have z0 : (0 : Int64).toInt = 0 := rfl
    have p1 : lg_cmp (f_X6_turn o0 o1 (gI M o2 8) (gI M o2 9) M) 0 = 0 ↔ sTu (sFoc P) a b (sX (sFoc P) c) (sY (sFoc P) c) = 0 := by rw [lg_cmp_eq]; exact a_eq64 tu z0
    have p2 : 0 ≤ lg_cmp (f_X6_turn o0 o1 (gI M o2 8) (gI M o2 9) M) 0 ↔ 0 ≤ sTu (sFoc P) a b (sX (sFoc P) c) (sY (sFoc P) c) := by rw [lg_cmp_ge]; exact a_le64 z0 tu
    simp only [p1, p2]
  by_cases hz : sTu (sFoc P) a b (sX (sFoc P) c) (sY (sFoc P) c) = 0
  · exact stay (by unfold sPiece; rw [if_neg hnf, if_pos hz]) (by rw [head, if_pos hz])
  have ab := a_abs tu (by omega)
  generalize f_X6_turn o0 o1 (gI M o2 8) (gI M o2 9) M = w at tu ab head
  have z0 : (0 : Int64).toInt = 0 := rfl
  have p2 : 0 ≤ lg_cmp w 0 ↔ 0 ≤ sTu (sFoc P) a b (sX (sFoc P) c) (sY (sFoc P) c) := by rw [lg_cmp_ge]; exact a_le64 z0 tu
  generalize hM1 : sP (sL (sI M id 5 1) id 4 (g_abs w)) id 1 o0 = M1
  have core : ∀ (t : V × V × V) (ob oc : Nat), tOK P t → t.1 = a → (12 ≤ ob ∧ ob ≤ 15) → (12 ≤ oc ∧ oc ≤ 15) → cSp P M ob t.2.1 → cSp P M oc t.2.2 → (g_abs w).toInt = sArea (sFoc P) t → bk_X6_take_57 F id o0 o1 o2 w M = bk_X6_take_105 F id oc id (sP M1 id 2 ob) → sPiece (sFoc P) two a b c = some t → f_X6_take F id o0 o1 o2 two M = bk_X6_take_57 F id o0 o1 o2 w M →
      ∃ M', f_X6_take F id o0 o1 o2 two M = some M' ∧ (match sPiece (sFoc P) two a b c with | none => gI M' id 5 = 0 | some t => cPiece P M' id t) ∧ (∀ g k, ¬ tkI id g k → gI M' g k = gI M g k) ∧ (∀ g k, g ≠ id → gL M' g k = gL M g k) ∧ (∀ g k, g ≠ id → gP M' g k = gP M g k) := by
    intro t ob oc ht ea hob hoc hsb hsc har e57 esp et
    have i1 : ∀ g k, ¬ (g = id ∧ k = 5) → gI (sP M1 id 2 ob) g k = gI M g k := fun g k q => by rw [← hM1]; simp only [gI_sP, gI_sL, gI_sI]; rw [if_neg q]
    have l1 : ∀ g k, ¬ (g = id ∧ k = 4) → gL (sP M1 id 2 ob) g k = gL M g k := fun g k q => by rw [← hM1]; simp only [gL_sP, gL_sL, gL_sI]; rw [if_neg q]
    have q1 : ∀ g k, g ≠ id → gP (sP M1 id 2 ob) g k = gP M g k := fun g k q => by rw [← hM1]; simp only [gP_sP, gP_sL, gP_sI]; rw [if_neg (by omega), if_neg (by omega)]
    have sp : ∀ o v, 12 ≤ o → o ≤ 15 → cSp P M o v → cSp P (sP M1 id 2 ob) o v := fun o v a b h => h.to fun k => i1 o k (by omega)
    obtain ⟨M', e, hbx, fi, fl, pa, pb, pc, fp⟩ := c_box (F := F) (id := id) (M := sP M1 id 2 ob) (a := o0) (b := ob) (c := oc) ht (by rw [ea]; exact sp o0 a h0.1 h0.2 ha) (sp ob _ hob.1 hob.2 hsb) (sp oc _ hoc.1 hoc.2 hsc) (by rw [← hM1]; simp only [gP_sP]; simp) (by simp only [gP_sP]; simp) ⟨by omega, by omega, by omega⟩
    have sp' : ∀ o v, 12 ≤ o → o ≤ 15 → cSp P M o v → cSp P M' o v := fun o v a b h => (sp o v a b h).to fun k => fi o k (by omega)
    have fl' : ∀ g k, gL M' g k = gL (sP M1 id 2 ob) g k := fun g k => by show M'.2.1 g k = _; rw [fl]; rfl
    refine ⟨M', by rw [et, e57, e], ?_, fun g k h => ?_, fun g k h => by rw [fl', l1 g k (by omega)], fun g k h => by rw [fp g k h, q1 g k h]⟩
    · rw [esp]
      refine ⟨?_, ⟨by rw [pa]; exact h0.1, by rw [pa]; exact h0.2, ?_⟩, ⟨by rw [pb]; exact hob.1, by rw [pb]; exact hob.2, ?_⟩, ⟨by rw [pc]; exact hoc.1, by rw [pc]; exact hoc.2, ?_⟩, ?_, hbx⟩
      · rw [fi id 5 (by omega), ← hM1]; simp only [gI_sP, gI_sL, gI_sI]; simp
      · rw [pa, ea]; exact sp' _ _ h0.1 h0.2 ha
      · rw [pb]; exact sp' _ _ hob.1 hob.2 hsb
      · rw [pc]; exact sp' _ _ hoc.1 hoc.2 hsc
      · rw [fl', ← hM1]; simp only [gL_sP, gL_sL]; simp; exact har
    · unfold tkI at h
      rw [fi g k (by omega), i1 g k (by omega)]
  have oks : ∀ t, sPiece (sFoc P) two a b c = some t → tOK P t := fun t h => sPiece_ok ga gb gc h
  by_cases hp : 0 < sTu (sFoc P) a b (sX (sFoc P) c) (sY (sFoc P) c)
  · have esp : sPiece (sFoc P) two a b c = some (a, b, c) := by unfold sPiece; rw [if_neg hnf, if_neg hz, if_pos hp]
    refine core (a, b, c) o1 o2 (oks _ esp) rfl h1 h2 hb hc (by rw [ab, if_pos hp]; rfl) ?_ esp (by rw [head, if_neg hz, if_pos (by omega)])
    unfold bk_X6_take_57
    rw [bnd_d, bnd_d, bnd_d, hM1, if_pos (p2.mpr (by omega))]
    unfold bk_X6_take_89
    rw [bnd_d, if_pos (p2.mpr (by omega))]
  · have hn : ¬ 0 ≤ sTu (sFoc P) a b (sX (sFoc P) c) (sY (sFoc P) c) := by omega
    by_cases h2s : two = 0
    · exact stay (by unfold sPiece; rw [if_neg hnf, if_neg hz, if_neg hp, if_pos h2s]) (by rw [head, if_neg hz, if_neg hn, if_pos h2s])
    · have esp : sPiece (sFoc P) two a b c = some (a, c, b) := by unfold sPiece; rw [if_neg hnf, if_neg hz, if_neg hp, if_neg h2s]
      refine core (a, c, b) o2 o1 (oks _ esp) rfl h2 h1 hc hb (by rw [ab, if_neg hp]; exact (sTu_flip _ _ _ _).symm) ?_ esp (by rw [head, if_neg hz, if_neg hn, if_neg h2s])
      unfold bk_X6_take_57
      rw [bnd_d, bnd_d, bnd_d, hM1, if_neg (fun q => hn (p2.mp q))]
      unfold bk_X6_take_89
      rw [bnd_d, if_neg (fun q => hn (p2.mp q))]
