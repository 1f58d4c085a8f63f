/-! PURE PART: the reference lays a piece -/
def tOK (P : PM) (t : V × V × V) : Prop := gv (sNear P) t.1 ∧ gv (sNear P) t.2.1 ∧ gv (sNear P) t.2.2 ∧ ¬ sFar (sFoc P) t.1 ∧ ¬ sFar (sFoc P) t.2.1 ∧ ¬ sFar (sFoc P) t.2.2 ∧ 0 < sArea (sFoc P) t
theorem sTu_flip (f : Int) (a b c : V) : sTu f a c (sX f b) (sY f b) = - sTu f a b (sX f c) (sY f c) := by
  unfold sTu sTurn
  generalize sX f a = x0; generalize sY f a = y0; generalize sX f b = x1; generalize sY f b = y1; generalize sX f c = x2; generalize sY f c = y2
  grind
theorem sPiece_ok {P : PM} {two : Int32} {a b c : V} {t : V × V × V} (ha : gv (sNear P) a) (hb : gv (sNear P) b) (hc : gv (sNear P) c) (h : sPiece (sFoc P) two a b c = some t) : tOK P t := by
  unfold sPiece at h
  split at h
  · cases h
  · rename_i hf
    split at h
    · cases h
    · split at h
      · rename_i h0 h1
        cases h
        exact ⟨ha, hb, hc, fun q => hf (Or.inl q), fun q => hf (Or.inr (Or.inl q)), fun q => hf (Or.inr (Or.inr q)), h1⟩
      · split at h
        · cases h
        · rename_i h0 h1 h2
          cases h
          refine ⟨ha, hc, hb, fun q => hf (Or.inl q), fun q => hf (Or.inr (Or.inr q)), fun q => hf (Or.inr (Or.inl q)), ?_⟩
          unfold sArea
          show 0 < sTu _ a c (sX _ b) (sY _ b)
          rw [sTu_flip]; omega
theorem sPcs_ok {P : PM} (hO : OK P) {p q : Nat} {t : V × V × V} (h : sPcs P p q = some t) : tOK P t := by
  unfold sPcs at h
  split at h
  · rename_i a b c e1 e2 e3
    exact sPiece_ok (sPane_at hO e1) (sPane_at hO e2) (sPane_at hO e3) h
  · cases h
theorem a_turn64 {X0 Y0 X1 Y1 X Y : Int64} {x0 y0 x1 y1 x y : Int} (hx0 : X0.toInt = x0) (hy0 : Y0.toInt = y0) (hx1 : X1.toInt = x1) (hy1 : Y1.toInt = y1) (hx : X.toInt = x) (hy : Y.toInt = y)
    (b0 : -30000 ≤ x0 ∧ x0 ≤ 30000) (b1 : -30000 ≤ y0 ∧ y0 ≤ 30000) (b2 : -30000 ≤ x1 ∧ x1 ≤ 30000) (b3 : -30000 ≤ y1 ∧ y1 ≤ 30000) (b4 : -30000 ≤ x ∧ x ≤ 30000) (b5 : -30000 ≤ y ∧ y ≤ 30000) :
    ((X1 - X0) * (Y - Y0) - (Y1 - Y0) * (X - X0)).toInt = sTurn x0 y0 x1 y1 x y := by
  have m1 := a_mb (a := x1 - x0) (b := y - y0) (A := 60000) (B := 60000) (by omega) (by omega) (by omega) (by omega)
  have m2 := a_mb (a := y1 - y0) (b := x - x0) (A := 60000) (B := 60000) (by omega) (by omega) (by omega) (by omega)
  exact a_sub64 (a_mul64 (a_sub64 hx1 hx0 (by omega) (by omega)) (a_sub64 hy hy0 (by omega) (by omega)) (by omega) (by omega)) (a_mul64 (a_sub64 hy1 hy0 (by omega) (by omega)) (a_sub64 hx hx0 (by omega) (by omega)) (by omega) (by omega)) (by omega) (by omega)
theorem sTu_bd {f : Int} {a b : V} {x y : Int} (ha : ¬ sFar f a) (hb : ¬ sFar f b) (hx : -30000 ≤ x ∧ x ≤ 30000) (hy : -30000 ≤ y ∧ y ≤ 30000) : -7200000000 ≤ sTu f a b x y ∧ sTu f a b x y ≤ 7200000000 := by
  unfold sFar at ha hb
  have m1 := a_mb (a := sX f b - sX f a) (b := y - sY f a) (A := 60000) (B := 60000) (by omega) (by omega) (by omega) (by omega)
  have m2 := a_mb (a := sY f b - sY f a) (b := x - sX f a) (A := 60000) (B := 60000) (by omega) (by omega) (by omega) (by omega)
  unfold sTu sTurn
  omega
