/-! PURE PART: the reference paints a point -/
theorem a_mean3 {a b c A B C s : Int64} {a' b' c' A' B' C' s' L U : Int} (ha : a.toInt = a') (hb : b.toInt = b') (hc : c.toInt = c') (hA : A.toInt = A') (hB : B.toInt = B') (hC : C.toInt = C') (hs : s.toInt = s')
    (a0 : 0 ≤ a') (b0 : 0 ≤ b') (c0 : 0 ≤ c') (e : a' + b' + c' = s') (s0 : 0 < s') (smax : s' ≤ 471866400000000) (L0 : 0 ≤ L) (U1 : U ≤ 65535) (UU : U * s' ≤ 1200000000000000000) (bA : L ≤ A' ∧ A' ≤ U) (bB : L ≤ B' ∧ B' ≤ U) (bC : L ≤ C' ∧ C' ≤ U) :
    (((a * A + b * B + c * C) / s).toInt32).toInt = (a' * A' + b' * B' + c' * C') / s' := by
  have m := mean_bd a0 b0 c0 e s0 bA bB bC
  have mA := a_mn a0 (show a' ≤ s' by omega) (show 0 ≤ A' by omega) bA.2
  have mB := a_mn b0 (show b' ≤ s' by omega) (show 0 ≤ B' by omega) bB.2
  have mC := a_mn c0 (show c' ≤ s' by omega) (show 0 ≤ C' by omega) bC.2
  have cm : s' * U = U * s' := Int.mul_comm _ _
  have x1 := a_mul64 ha hA (by omega) (by omega)
  have x2 := a_mul64 hb hB (by omega) (by omega)
  have x3 := a_mul64 hc hC (by omega) (by omega)
  have x4 := a_add64 (a_add64 x1 x2 (by omega) (by omega)) x3 (by omega) (by omega)
  exact a_32 (a_div64 x4 hs (by omega) s0) (by omega) (by omega)
