/-! PURE PART: weights, means and colours; the reference at a point -/
theorem sW_sum (f : Int) (t : V × V × V) (x y : Int) : sWa f t x y + sWb f t x y + sWc f t x y = sArea f t := by
  unfold sWa sWb sWc sArea sTu sTurn
  generalize sX f t.1 = x0; generalize sY f t.1 = y0; generalize sX f t.2.1 = x1; generalize sY f t.2.1 = y1; generalize sX f t.2.2 = x2; generalize sY f t.2.2 = y2
  grind
theorem sArea_hi {P : PM} {t : V × V × V} (h : tOK P t) : sArea (sFoc P) t ≤ 7200000000 := by
  have h3 := h.2.2.2.2.2.1
  unfold sFar at h3
  exact (sTu_bd h.2.2.2.1 h.2.2.2.2.1 (by omega) (by omega)).2
theorem sIn_w {f : Int} {t : V × V × V} {x y : Int} (h : sIn f t x y) : 0 ≤ sWa f t x y ∧ 0 ≤ sWb f t x y ∧ 0 ≤ sWc f t x y := by
  obtain ⟨h1, h2, h3⟩ := h
  refine ⟨?_, ?_, ?_⟩
  · rcases h1 with h | h <;> omega
  · rcases h2 with h | h <;> omega
  · rcases h3 with h | h <;> omega
theorem mean_bd {a b c A B C L U s : Int} (ha : 0 ≤ a) (hb : 0 ≤ b) (hc : 0 ≤ c) (hs : a + b + c = s) (h0 : 0 < s) (hA : L ≤ A ∧ A ≤ U) (hB : L ≤ B ∧ B ≤ U) (hC : L ≤ C ∧ C ≤ U) :
    L * s ≤ a * A + b * B + c * C ∧ a * A + b * B + c * C ≤ U * s ∧ L ≤ (a * A + b * B + c * C) / s ∧ (a * A + b * B + c * C) / s ≤ U := by
  have a1 := Int.mul_le_mul_of_nonneg_left hA.1 ha
  have a2 := Int.mul_le_mul_of_nonneg_left hA.2 ha
  have b1 := Int.mul_le_mul_of_nonneg_left hB.1 hb
  have b2 := Int.mul_le_mul_of_nonneg_left hB.2 hb
  have c1 := Int.mul_le_mul_of_nonneg_left hC.1 hc
  have c2 := Int.mul_le_mul_of_nonneg_left hC.2 hc
  have e1 : a * L + b * L + c * L = L * s := by rw [← hs]; grind
  have e2 : a * U + b * U + c * U = U * s := by rw [← hs]; grind
  have k1 : L * s ≤ a * A + b * B + c * C := by omega
  have k2 : a * A + b * B + c * C ≤ U * s := by omega
  exact ⟨k1, k2, Int.le_ediv_of_mul_le h0 k1, Int.ediv_le_of_le_mul h0 k2⟩
theorem sMean_rg {P : PM} {t : V × V × V} {x y A B C L U : Int} (ht : tOK P t) (hi : sIn (sFoc P) t x y) (hA : L ≤ A ∧ A ≤ U) (hB : L ≤ B ∧ B ≤ U) (hC : L ≤ C ∧ C ≤ U) : L ≤ sMean (sFoc P) t x y A B C ∧ sMean (sFoc P) t x y A B C ≤ U := by
  obtain ⟨w1, w2, w3⟩ := sIn_w hi
  exact (mean_bd w1 w2 w3 (sW_sum _ _ _ _) ht.2.2.2.2.2.2 hA hB hC).2.2
theorem sDp_in {near : Int} {v : V} (hn : 1 ≤ near) (h : gv near v) : 0 ≤ sDp near v ∧ sDp near v ≤ 65535 := by
  have := sDp_rg hn h
  unfold sDp; omega
theorem sWt_in {near : Int} {v : V} (hn : 1 ≤ near) (h : gv near v) : 1 ≤ sWt v ∧ sWt v ≤ 65537 := by
  have := sWt_rg hn h
  unfold sWt; omega
theorem sDep_rg {P : PM} {t : V × V × V} {x y : Int} (hO : OK P) (ht : tOK P t) (hi : sIn (sFoc P) t x y) : 0 ≤ sDep P t x y ∧ sDep P t x y ≤ 65535 :=
  have hn : 1 ≤ sNear P := hO.2.1.1
  sMean_rg ht hi (sDp_in hn ht.1) (sDp_in hn ht.2.1) (sDp_in hn ht.2.2.1)
theorem sNum_rg {P : PM} {t : V × V × V} {x y : Int} {k : Nat} (ht : tOK P t) (hi : sIn (sFoc P) t x y) (h5 : 5 ≤ k) (h8 : k < 8) : 0 ≤ sNum P t x y k ∧ sNum P t x y k ≤ 255 :=
  sMean_rg ht hi (ht.1.1.2.2 k h5 h8) (ht.2.1.1.2.2 k h5 h8) (ht.2.2.1.1.2.2 k h5 h8)
/-- weights times the corners' weights -/
theorem sWw {P : PM} {t : V × V × V} {x y : Int} (hO : OK P) (ht : tOK P t) (hi : sIn (sFoc P) t x y) :
    (0 ≤ sWa (sFoc P) t x y * sWt t.1 ∧ sWa (sFoc P) t x y * sWt t.1 ≤ 471866400000000) ∧ (0 ≤ sWb (sFoc P) t x y * sWt t.2.1 ∧ sWb (sFoc P) t x y * sWt t.2.1 ≤ 471866400000000) ∧ (0 ≤ sWc (sFoc P) t x y * sWt t.2.2 ∧ sWc (sFoc P) t x y * sWt t.2.2 ≤ 471866400000000) ∧
    (0 < sWa (sFoc P) t x y * sWt t.1 + sWb (sFoc P) t x y * sWt t.2.1 + sWc (sFoc P) t x y * sWt t.2.2 ∧ sWa (sFoc P) t x y * sWt t.1 + sWb (sFoc P) t x y * sWt t.2.1 + sWc (sFoc P) t x y * sWt t.2.2 ≤ 471866400000000) := by
  have hn : 1 ≤ sNear P := hO.2.1.1
  obtain ⟨w1, w2, w3⟩ := sIn_w hi
  have hs := sW_sum (sFoc P) t x y
  have h0 := ht.2.2.2.2.2.2
  have hh := sArea_hi ht
  have A := sWt_in hn ht.1
  have B := sWt_in hn ht.2.1
  have C := sWt_in hn ht.2.2.1
  have a := a_mn (A := 7200000000) (B := 65537) w1 (by omega) (by omega) A.2
  have b := a_mn (A := 7200000000) (B := 65537) w2 (by omega) (by omega) B.2
  have c := a_mn (A := 7200000000) (B := 65537) w3 (by omega) (by omega) C.2
  have m := mean_bd w1 w2 w3 hs h0 A B C
  omega
theorem sWm_rg {P : PM} {t : V × V × V} {x y : Int} {k : Nat} (hO : OK P) (ht : tOK P t) (hi : sIn (sFoc P) t x y) (h5 : 3 ≤ k) (h8 : k < 5) : 0 ≤ sWm (sFoc P) t x y k ∧ sWm (sFoc P) t x y k ≤ 2047 := by
  obtain ⟨a, b, c, d⟩ := sWw hO ht hi
  exact (mean_bd a.1 b.1 c.1 rfl d.1 (ht.1.1.2.1 k h5 h8) (ht.2.1.1.2.1 k h5 h8) (ht.2.2.1.1.2.1 k h5 h8)).2.2
theorem sStep_rg {P : PM} {its : Nat} {a : Int} (h0 : 0 ≤ a) : 0 ≤ sStep P its a ∧ sStep P its a ≤ 7 := by
  unfold sStep
  split
  · omega
  · split <;> omega
theorem sTint_rg {P : PM} (hO : OK P) (its : Nat) (u v : Int) : 0 ≤ sTint P its u v ∧ sTint P its u v ≤ 16777215 := hO.2.2.2.2.2.2.2.2.2.2.2.2.1 _
theorem q255 {c r : Int} (h0 : 0 ≤ c) (h1 : c ≤ 255) (h2 : 0 ≤ r) (h3 : r ≤ 255) : 0 ≤ c * r ∧ c * r ≤ 65025 ∧ 0 ≤ c * r / 255 ∧ c * r / 255 ≤ 255 := by
  have := a_mn h0 h1 h2 h3
  omega
theorem sMix_rg {r g b : Int} (h0 : 0 ≤ r ∧ r ≤ 255) (h1 : 0 ≤ g ∧ g ≤ 255) (h2 : 0 ≤ b ∧ b ≤ 255) : 0 ≤ sMix r g b ∧ sMix r g b ≤ 16777215 := by
  unfold sMix; omega
theorem sCol_rg {P : PM} {t : V × V × V} {x y : Int} (hO : OK P) (ht : tOK P t) (hi : sIn (sFoc P) t x y) (i : Nat) : 0 ≤ sCol P i t x y ∧ sCol P i t x y ≤ 16777215 := by
  have r := sNum_rg ht hi (k := 5) (by omega) (by omega)
  have g := sNum_rg ht hi (k := 6) (by omega) (by omega)
  have b := sNum_rg ht hi (k := 7) (by omega) (by omega)
  unfold sCol
  simp only
  split
  · exact sMix_rg r g b
  · have c := sTint_rg hO (P 131 i).toNatClampNeg (sWm (sFoc P) t x y 3) (sWm (sFoc P) t x y 4)
    generalize sTint P (P 131 i).toNatClampNeg (sWm (sFoc P) t x y 3) (sWm (sFoc P) t x y 4) = c at *
    exact sMix_rg (q255 (by omega) (by omega) r.1 r.2).2.2 (q255 (by omega) (by omega) g.1 g.2).2.2 (q255 (by omega) (by omega) b.1 b.2).2.2
theorem sHalf_rg {c d : Int} (hc : 0 ≤ c ∧ c ≤ 16777215) (hd : 0 ≤ d ∧ d ≤ 16777215) : 0 ≤ sHalf c d ∧ sHalf c d ≤ 16777215 := by
  unfold sHalf
  exact sMix_rg (by omega) (by omega) (by omega)
def pxOK (p : Px) : Prop := 0 ≤ p.1.toInt ∧ p.1.toInt ≤ 16777215
theorem sPt_OK {P : PM} {t : V × V × V} {i k : Nat} {p : Px} (hO : OK P) (ht : tOK P t) (hp : pxOK p) : pxOK (sPt P i t k p) := by
  unfold sPt
  split
  · rename_i h
    have c := sCol_rg hO ht h.1 i
    split
    · show 0 ≤ (Int32.ofInt _).toInt ∧ (Int32.ofInt _).toInt ≤ _
      rw [a_ofI (by omega) (by omega)]; exact c
    · have d := sHalf_rg hp c
      show 0 ≤ (Int32.ofInt _).toInt ∧ (Int32.ofInt _).toInt ≤ _
      rw [a_ofI (by omega) (by omega)]; exact d
  · exact hp
theorem sPq_OK {P : PM} {i q k : Nat} {p : Px} (hO : OK P) (hp : pxOK p) : pxOK (sPq P i q k p) := by
  unfold sPq
  split
  · rename_i t h; exact sPt_OK hO (sPcs_ok hO h) hp
  · exact hp
theorem sPix_OK {P : PM} (hO : OK P) (wo : Int32) : ∀ i k, pxOK (sPix P wo i k) := by
  intro i
  induction i with
  | zero => intro k; exact hO.2.2.2.1
  | succ i ih =>
    intro k
    unfold sPix
    split
    · exact ih k
    · exact sPq_OK hO (sPq_OK hO (ih k))
theorem in_chain {X : Type} (A B C : Int) (ca cb cc : Prop) [Decidable ca] [Decidable cb] [Decidable cc] (r1 r0 : X) :
    (if A < 0 then r0 else if B < 0 then r0 else if 0 ≤ C then (if 0 < A then (if 0 < B then (if 0 < C then r1 else if cc then r1 else r0) else if cb then (if 0 < C then r1 else if cc then r1 else r0) else r0) else if ca then (if 0 < B then (if 0 < C then r1 else if cc then r1 else r0) else if cb then (if 0 < C then r1 else if cc then r1 else r0) else r0) else r0) else r0)
      = if ((0 < A ∨ (A = 0 ∧ ca)) ∧ (0 < B ∨ (B = 0 ∧ cb)) ∧ (0 < C ∨ (C = 0 ∧ cc))) then r1 else r0 := by
  have tr : ∀ A : Int, (A < 0 ∧ ¬ 0 < A ∧ ¬ A = 0 ∧ ¬ 0 ≤ A) ∨ (¬ A < 0 ∧ ¬ 0 < A ∧ A = 0 ∧ 0 ≤ A) ∨ (¬ A < 0 ∧ 0 < A ∧ ¬ A = 0 ∧ 0 ≤ A) := fun A => by omega
  rcases tr A with ⟨a1, a2, a3, a4⟩ | ⟨a1, a2, a3, a4⟩ | ⟨a1, a2, a3, a4⟩ <;> rcases tr B with ⟨b1, b2, b3, b4⟩ | ⟨b1, b2, b3, b4⟩ | ⟨b1, b2, b3, b4⟩ <;> rcases tr C with ⟨c1, c2, c3, c4⟩ | ⟨c1, c2, c3, c4⟩ | ⟨c1, c2, c3, c4⟩ <;>
    simp only [a1, a2, a3, a4, b1, b2, b3, b4, c1, c2, c3, c4, if_true, if_false, true_and, and_true, false_and, and_false, true_or, or_true, false_or, or_false, Int.lt_irrefl, Int.le_refl] <;>
    by_cases ha : ca <;> by_cases hb : cb <;> by_cases hc : cc <;> simp only [ha, hb, hc, if_true, if_false, true_and, and_true, false_and, and_false]
