/-! PURE PART: the class at a point of a piece -/
/-- the class's piece, asked at a point -/
def cAt (P : PM) (M : GM) (id : Nat) (t : V × V × V) (x y : Int) : Prop := cPiece P M id t ∧ (gL M id 6).toInt = sWa (sFoc P) t x y ∧ (gL M id 7).toInt = sWb (sFoc P) t x y ∧ (gL M id 8).toInt = sWc (sFoc P) t x y
theorem c_isInside {P : PM} {M : GM} {o1 o2 : Nat} {a b : V} {w : Int64} {w' : Int} (hw : w.toInt = w') (ha : cSp P M o1 a) (hb : cSp P M o2 b) : f_X6_isInside w o1 o2 M = if sSide (sFoc P) w' a b then 1 else 0 := by
  unfold f_X6_isInside
  have z0 : (0 : Int64).toInt = 0 := rfl
  have e1 : 0 < lg_cmp w 0 ↔ 0 < w' := by rw [lg_cmp_gt]; exact a_lt64 z0 hw
  have e2 : lg_cmp w 0 = 0 ↔ w' = 0 := by rw [lg_cmp_eq]; exact a_eq64 hw z0
  have e3 : gI M o2 9 < gI M o1 9 ↔ sY (sFoc P) b < sY (sFoc P) a := a_lt hb.2.2.1 ha.2.2.1
  have e4 : gI M o2 9 = gI M o1 9 ↔ sY (sFoc P) b = sY (sFoc P) a := a_eq hb.2.2.1 ha.2.2.1
  have e5 : gI M o2 8 ≤ gI M o1 8 ↔ sX (sFoc P) b ≤ sX (sFoc P) a := a_le hb.2.1 ha.2.1
  by_cases h1 : 0 < w'
  · rw [if_pos (e1.mpr h1), if_pos (Or.inl h1)]
  · rw [if_neg (fun q => h1 (e1.mp q))]
    by_cases h2 : w' = 0
    · rw [if_pos (e2.mpr h2)]
      by_cases h3 : sY (sFoc P) b < sY (sFoc P) a
      · rw [if_pos (e3.mpr h3), if_pos (Or.inr ⟨h2, Or.inl h3⟩)]
      · rw [if_neg (fun q => h3 (e3.mp q))]
        by_cases h4 : sY (sFoc P) b = sY (sFoc P) a
        · rw [if_pos (e4.mpr h4)]
          by_cases h5 : sX (sFoc P) b ≤ sX (sFoc P) a
          · rw [if_pos (e5.mpr h5), if_neg]
            rintro (h | ⟨-, h | h⟩) <;> omega
          · rw [if_neg (fun q => h5 (e5.mp q)), if_pos (Or.inr ⟨h2, Or.inr ⟨h4, by omega⟩⟩)]
        · rw [if_neg (fun q => h4 (e4.mp q)), if_neg]
          rintro (h | ⟨-, h | h⟩) <;> omega
    · rw [if_neg (fun q => h2 (e2.mp q)), if_neg]
      rintro (h | ⟨h, -⟩) <;> omega
theorem c_mid {x : Nat} (hx : x < 40) : ((16 : Int32) * nI x + 8).toInt = 16 * (x : Int) + 8 :=
  a_add (a_mul (show (16 : Int32).toInt = 16 from rfl) (n_int (by omega)) (by omega) (by omega)) (show (8 : Int32).toInt = 8 from rfl) (by omega) (by omega)
theorem c_holds {P : PM} {M : GM} {F id x y : Nat} {t : V × V × V} (ht : tOK P t) (hp : cPiece P M id t) (hx : x < 40) (hy : y < 24) :
    ∃ v M', f_X6_holds F id (nI x) (nI y) M = some (v, M') ∧ v = (if sIn (sFoc P) t x y then 1 else 0) ∧ (sIn (sFoc P) t x y → cAt P M' id t x y) ∧ cPiece P M' id t ∧ M'.1 = M.1 ∧ (∀ g k, g ≠ id → gL M' g k = gL M g k) ∧ M'.2.2 = M.2.2 := by
  have hp0 := hp
  obtain ⟨hd, ⟨a1, a2, ha⟩, ⟨b1, b2, hb⟩, ⟨c1, c2, hc⟩, har, hbx⟩ := hp
  obtain ⟨-, -, -, na, nb, nc, -⟩ := ht
  have mx := c_mid hx
  have my := c_mid (x := y) (by omega)
  obtain ⟨X, hX⟩ : ∃ X, X = (16 : Int32) * nI x + 8 := ⟨_, rfl⟩
  obtain ⟨Y, hY⟩ : ∃ Y, Y = (16 : Int32) * nI y + 8 := ⟨_, rfl⟩
  rw [← hX] at mx
  rw [← hY] at my
  have wa : (f_X6_turn (gP M id 2) (gP M id 3) X Y M).toInt = sWa (sFoc P) t x y := c_turn hb hc nb nc mx my (by omega) (by omega)
  obtain ⟨M1, hM1⟩ : ∃ M1, M1 = sL M id 6 (f_X6_turn (gP M id 2) (gP M id 3) X Y M) := ⟨_, rfl⟩
  have i1 : M1.1 = M.1 := by rw [hM1]; rfl
  have p1 : M1.2.2 = M.2.2 := by rw [hM1]; rfl
  have q1 : ∀ k, gP M1 id k = gP M id k := fun k => by rw [hM1]; rfl
  have l1 : ∀ g k, ¬ (g = id ∧ k = 6) → gL M1 g k = gL M g k := fun g k h => by rw [hM1, gL_sL, if_neg h]
  have w1 : (gL M1 id 6).toInt = sWa (sFoc P) t x y := by rw [hM1, gL_sL, if_pos ⟨rfl, rfl⟩]; exact wa
  have g1 : ∀ g k, gI M1 g k = gI M g k := fun g k => by rw [hM1]; rfl
  have ha1 : cSp P M1 (gP M id 1) t.1 := ha.to fun k => g1 _ _
  have hb1 : cSp P M1 (gP M id 2) t.2.1 := hb.to fun k => g1 _ _
  have hc1 : cSp P M1 (gP M id 3) t.2.2 := hc.to fun k => g1 _ _
  have pc1 : cPiece P M1 id t := hp0.to (fun k => g1 _ _) (fun k => g1 _ _) (fun g k _ _ => g1 _ _) q1 (l1 _ _ (by omega))
  have n0 : ∀ c : Prop, ¬ sIn (sFoc P) t x y → sIn (sFoc P) t x y → c := fun c h q => absurd q h
  unfold f_X6_holds
  rw [← hX, ← hY, bnd_d, bnd_d, bnd_d, ← hM1, q1 2, q1 3, c_isInside w1 hb1 hc1]
  by_cases h1 : sSide (sFoc P) (sWa (sFoc P) t x y) t.2.1 t.2.2
  rotate_left
  · have hn : ¬ sIn (sFoc P) t x y := fun q => h1 q.1
    rw [if_neg h1, if_pos rfl]
    exact ⟨0, M1, rfl, (if_neg hn).symm, n0 _ hn, pc1, i1, fun g k h => l1 g k (by omega), p1⟩
  rw [if_pos h1, if_neg (by decide), bnd_d, q1 1]
  have wb : (f_X6_turn (gP M id 3) (gP M id 1) X Y M1).toInt = sWb (sFoc P) t x y := c_turn hc1 ha1 nc na mx my (by omega) (by omega)
  obtain ⟨M2, hM2⟩ : ∃ M2, M2 = sL M1 id 7 (f_X6_turn (gP M id 3) (gP M id 1) X Y M1) := ⟨_, rfl⟩
  have i2 : M2.1 = M.1 := by rw [hM2]; exact i1
  have p2 : M2.2.2 = M.2.2 := by rw [hM2]; exact p1
  have q2 : ∀ k, gP M2 id k = gP M id k := fun k => by rw [hM2]; exact q1 k
  have l2 : ∀ g k, ¬ (g = id ∧ k = 7) → gL M2 g k = gL M1 g k := fun g k h => by rw [hM2, gL_sL, if_neg h]
  have w2 : (gL M2 id 7).toInt = sWb (sFoc P) t x y := by rw [hM2, gL_sL, if_pos ⟨rfl, rfl⟩]; exact wb
  have w21 : (gL M2 id 6).toInt = sWa (sFoc P) t x y := by rw [l2 _ _ (by omega)]; exact w1
  have g2 : ∀ g k, gI M2 g k = gI M g k := fun g k => by rw [hM2]; exact g1 g k
  have ha2 : cSp P M2 (gP M id 1) t.1 := ha.to fun k => g2 _ _
  have hb2 : cSp P M2 (gP M id 2) t.2.1 := hb.to fun k => g2 _ _
  have hc2 : cSp P M2 (gP M id 3) t.2.2 := hc.to fun k => g2 _ _
  have pc2 : cPiece P M2 id t := pc1.to (fun k => (g2 _ _).trans (g1 _ _).symm) (fun k => (g2 _ _).trans (g1 _ _).symm) (fun g k _ _ => (g2 _ _).trans (g1 _ _).symm) (fun k => (q2 k).trans (q1 k).symm) (l2 _ _ (by omega))
  rw [← hM2, q2 3, q2 1, c_isInside w2 hc2 ha2]
  by_cases h2 : sSide (sFoc P) (sWb (sFoc P) t x y) t.2.2 t.1
  rotate_left
  · have hn : ¬ sIn (sFoc P) t x y := fun q => h2 q.2.1
    rw [if_neg h2, if_pos rfl]
    exact ⟨0, M2, rfl, (if_neg hn).symm, n0 _ hn, pc2, i2, fun g k h => by rw [l2 g k (by omega), l1 g k (by omega)], p2⟩
  rw [if_pos h2, if_neg (by decide), bnd_d, q2 2]
  have wc : (f_X6_turn (gP M id 1) (gP M id 2) X Y M2).toInt = sWc (sFoc P) t x y := c_turn ha2 hb2 na nb mx my (by omega) (by omega)
  obtain ⟨M3, hM3⟩ : ∃ M3, M3 = sL M2 id 8 (f_X6_turn (gP M id 1) (gP M id 2) X Y M2) := ⟨_, rfl⟩
  have i3 : M3.1 = M.1 := by rw [hM3]; exact i2
  have p3 : M3.2.2 = M.2.2 := by rw [hM3]; exact p2
  have q3 : ∀ k, gP M3 id k = gP M id k := fun k => by rw [hM3]; exact q2 k
  have l3 : ∀ g k, ¬ (g = id ∧ k = 8) → gL M3 g k = gL M2 g k := fun g k h => by rw [hM3, gL_sL, if_neg h]
  have w3 : (gL M3 id 8).toInt = sWc (sFoc P) t x y := by rw [hM3, gL_sL, if_pos ⟨rfl, rfl⟩]; exact wc
  have g3 : ∀ g k, gI M3 g k = gI M g k := fun g k => by rw [hM3]; exact g2 g k
  have ha3 : cSp P M3 (gP M id 1) t.1 := ha.to fun k => g3 _ _
  have hb3 : cSp P M3 (gP M id 2) t.2.1 := hb.to fun k => g3 _ _
  have pc3 : cPiece P M3 id t := pc2.to (fun k => (g3 _ _).trans (g2 _ _).symm) (fun k => (g3 _ _).trans (g2 _ _).symm) (fun g k _ _ => (g3 _ _).trans (g2 _ _).symm) (fun k => (q3 k).trans (q2 k).symm) (l3 _ _ (by omega))
  rw [← hM3, q3 1, q3 2, c_isInside w3 ha3 hb3]
  refine ⟨_, M3, rfl, ?_, fun _ => ⟨pc3, by rw [l3 _ _ (by omega)]; exact w21, by rw [l3 _ _ (by omega)]; exact w2, w3⟩, pc3, i3, fun g k h => by rw [l3 g k (by omega), l2 g k (by omega), l1 g k (by omega)], p3⟩
  by_cases h3 : sSide (sFoc P) (sWc (sFoc P) t x y) t.1 t.2.1
  · rw [if_pos h3, if_pos ⟨h1, h2, h3⟩]
  · rw [if_neg h3, if_neg (fun q => h3 q.2.2)]
theorem c_mean {P : PM} {M : GM} {F id : Nat} {t : V × V × V} {x y : Int} {A B C : Int32} {A' B' C' U : Int} (ht : tOK P t) (hM : cAt P M id t x y) (hi : sIn (sFoc P) t x y) (hA : A.toInt = A') (hB : B.toInt = B') (hC : C.toInt = C') (U1 : U ≤ 65535) (bA : 0 ≤ A' ∧ A' ≤ U) (bB : 0 ≤ B' ∧ B' ≤ U) (bC : 0 ≤ C' ∧ C' ≤ U) :
    ∃ v, f_X6_mean F id A B C M = some v ∧ v.toInt = sMean (sFoc P) t x y A' B' C' := by
  obtain ⟨⟨-, -, -, -, har, -⟩, wa, wb, wc⟩ := hM
  obtain ⟨w1, w2, w3⟩ := sIn_w hi
  have h0 := ht.2.2.2.2.2.2
  have hh := sArea_hi ht
  have z0 : (0 : Int64).toInt = 0 := rfl
  have nz : ¬ (gL M id 4) = 0 := by rw [a_eq64 har z0]; omega
  have mu := a_mn (a := U) (A := 65535) (b := sArea (sFoc P) t) (B := 7200000000) (by omega) U1 (by omega) hh
  refine ⟨_, ?_, a_mean3 wa wb wc (a_64 hA) (a_64 hB) (a_64 hC) har w1 w2 w3 (sW_sum _ _ _ _) h0 (by omega) (Int.le_refl 0) U1 (by omega) bA bB bC⟩
  unfold f_X6_mean
  rw [if_neg (by rw [lg_cmp_eq]; exact nz), grd_t (decide_eq_true nz)]
theorem c_depthHere {P : PM} {M : GM} {F id : Nat} {t : V × V × V} {x y : Int} (hO : OK P) (ht : tOK P t) (hM : cAt P M id t x y) (hi : sIn (sFoc P) t x y) : ∃ v, f_X6_depthHere F id M = some v ∧ v.toInt = sDep P t x y := by
  have hn : 1 ≤ sNear P := hO.2.1.1
  obtain ⟨-, ⟨-, -, ha⟩, ⟨-, -, hb⟩, ⟨-, -, hc⟩, -, -⟩ := hM.1
  obtain ⟨v, v1, v2⟩ := c_mean (F := F) ht hM hi ha.2.2.2.1 hb.2.2.2.1 hc.2.2.2.1 (Int.le_refl _) (sDp_in hn ht.1) (sDp_in hn ht.2.1) (sDp_in hn ht.2.2.1)
  refine ⟨v, ?_, v2⟩
  unfold f_X6_depthHere
  rw [bndO_s _ v1]
theorem c_number {P : PM} {M : GM} {F id k : Nat} {t : V × V × V} {x y : Int} (ht : tOK P t) (hM : cAt P M id t x y) (hi : sIn (sFoc P) t x y) (h5 : 5 ≤ k) (h8 : k < 8) : ∃ v, f_X6_mean F id (gI M (gP M id 1) k) (gI M (gP M id 2) k) (gI M (gP M id 3) k) M = some v ∧ v.toInt = sNum P t x y k := by
  obtain ⟨-, ⟨-, -, ha⟩, ⟨-, -, hb⟩, ⟨-, -, hc⟩, -, -⟩ := hM.1
  exact c_mean ht hM hi (ha.1 k h8) (hb.1 k h8) (hc.1 k h8) (U := 255) (by omega) (ht.1.1.2.2 k h5 h8) (ht.2.1.1.2.2 k h5 h8) (ht.2.2.1.1.2.2 k h5 h8)
theorem c_weighted {P : PM} {M : GM} {F id k : Nat} {t : V × V × V} {x y : Int} (hO : OK P) (ht : tOK P t) (hM : cAt P M id t x y) (hi : sIn (sFoc P) t x y) (h5 : 3 ≤ k) (h8 : k < 5) : ∃ v, f_X6_weightedMean F id (gI M (gP M id 1) k) (gI M (gP M id 2) k) (gI M (gP M id 3) k) M = some v ∧ v.toInt = sWm (sFoc P) t x y k := by
  obtain ⟨⟨-, ⟨-, -, ha⟩, ⟨-, -, hb⟩, ⟨-, -, hc⟩, -, -⟩, wa, wb, wc⟩ := hM
  obtain ⟨a, b, c, d⟩ := sWw hO ht hi
  have ea := a_mul64 wa (a_64 ha.2.2.2.2) (by omega) (by omega)
  have eb := a_mul64 wb (a_64 hb.2.2.2.2) (by omega) (by omega)
  have ec := a_mul64 wc (a_64 hc.2.2.2.2) (by omega) (by omega)
  have es := a_add64 (a_add64 ea eb (by omega) (by omega)) ec (by omega) (by omega)
  have z0 : (0 : Int64).toInt = 0 := rfl
  have nz : ¬ ((((gL M id 6) * ((gI M (gP M id 1) 11).toInt64)) + ((gL M id 7) * ((gI M (gP M id 2) 11).toInt64))) + ((gL M id 8) * ((gI M (gP M id 3) 11).toInt64))) = 0 := by
    rw [a_eq64 es z0]; omega
  refine ⟨_, ?_, a_mean3 ea eb ec (a_64 (ha.1 k (by omega))) (a_64 (hb.1 k (by omega))) (a_64 (hc.1 k (by omega))) es a.1 b.1 c.1 rfl d.1 d.2 (L := 0) (U := 2047) (by omega) (by omega) (by omega) (ht.1.1.2.1 k h5 h8) (ht.2.1.1.2.1 k h5 h8) (ht.2.2.1.1.2.1 k h5 h8)⟩
  unfold f_X6_weightedMean
  rw [bnd_d, bnd_d, bnd_d, bnd_d, if_neg (by rw [lg_cmp_eq]; exact nz), grd_t (decide_eq_true nz)]
theorem c_placeOf {P : PM} {M : GM} {o its : Nat} {a : Int32} {x : Int} (hr : gI M o 1 = P 136 its) (ha : a.toInt = x) (h0 : 0 ≤ x) : (f_X5_placeOf o a M).toInt = sStep P its x := by
  have e1 : ((a.toUInt32 >>> ((7 : Int32).toUInt32 &&& Int32.toUInt32 31)).toInt32).toInt = x / 128 := by rw [a_ushr7 (by omega), ha]
  unfold f_X5_placeOf sStep
  rw [bnd_d]
  generalize (a.toUInt32 >>> ((7 : Int32).toUInt32 &&& Int32.toUInt32 31)).toInt32 = w at e1 ⊢
  have e8 : (8 : Int32) ≤ w ↔ 8 ≤ x / 128 := a_le rfl e1
  by_cases h7 : 8 ≤ x / 128
  · rw [if_pos (e8.mpr h7), if_neg (show ¬ x / 128 ≤ 7 by omega), hr]
    by_cases hz : P 136 its = 0
    · rw [if_pos hz, if_pos hz]; rfl
    · rw [if_neg hz, if_neg hz]
      exact a_mod e1 (show (8 : Int32).toInt = 8 from rfl) (by omega) (by omega)
  · rw [if_neg (fun h => h7 (e8.mp h)), if_pos (by omega)]
    exact e1
theorem c_tintAt {P : PM} {M : GM} {F its : Nat} {u v : Int32} {u' v' : Int} (hR : CV P M) (hi : its < 4) (hu : u.toInt = u') (hv : v.toInt = v') (u0 : 0 ≤ u') (v0 : 0 ≤ v') : ∃ c, f_X5_tintAt F (114 + 2 * its) u v M = some c ∧ c.toInt = sTint P its u' v' := by
  obtain ⟨r1, r2⟩ := hR.2.2.2.2.1 its hi
  have eu := c_placeOf r1 hu u0
  have ev := c_placeOf r1 hv v0
  have ru := sStep_rg (P := P) (its := its) u0
  have rv := sStep_rg (P := P) (its := its) v0
  have ei := a_add (a_mul ev (show (8 : Int32).toInt = 8 from rfl) (by omega) (by omega)) eu (by omega) (by omega)
  have gl : gN (114 + 2 * its + 1) = 64 := by rcases (show its = 0 ∨ its = 1 ∨ its = 2 ∨ its = 3 by omega) with rfl | rfl | rfl | rfl <;> decide +kernel
  unfold f_X5_tintAt
  rw [grd_t (by rw [gl]; exact a_gIn ei (by omega) (by omega)), a_nat32 ei, show 114 + 2 * its + 1 = 115 + 2 * its by omega, r2 _ (by omega)]
  refine ⟨_, rfl, ?_⟩
  unfold sTint
  rw [show 64 * its + (sStep P its v' * 8 + sStep P its u').toNat = 64 * its + 8 * (sStep P its v').toNat + (sStep P its u').toNat by omega]
theorem c_colourHere {P : PM} {M : GM} {F p id : Nat} {t : V × V × V} {x y : Int} (hO : OK P) (hR : CV P M) (hp : p < 30) (ht : tOK P t) (hM : cAt P M id t x y) (hi : sIn (sFoc P) t x y) : ∃ v, f_X10_colourHere F (84 + p) id M = some v ∧ v.toInt = sCol P p t x y := by
  obtain ⟨r, r1, r2⟩ := c_number (F := F) (k := 5) ht hM hi (by omega) (by omega)
  obtain ⟨g, g1, g2⟩ := c_number (F := F) (k := 6) ht hM hi (by omega) (by omega)
  obtain ⟨b, b1, b2⟩ := c_number (F := F) (k := 7) ht hM hi (by omega) (by omega)
  have br := sNum_rg ht hi (k := 5) (by omega) (by omega)
  have bg := sNum_rg ht hi (k := 6) (by omega) (by omega)
  have bb := sNum_rg ht hi (k := 7) (by omega) (by omega)
  obtain ⟨-, -, -, ep, -⟩ := hR.2.2.2.1 p hp
  have bp := hO.2.2.2.2.2.2.2.2.2.1 p
  have w := c_within (a := P 131 p) (b := 0) (c := 3) rfl (show (0 : Int32).toInt = 0 from rfl) (show (3 : Int32).toInt = 3 from rfl)
  unfold f_X10_colourHere sCol
  simp only
  rw [bndO_s _ r1, bnd_d, bndO_s _ g1, bnd_d, bndO_s _ b1, bnd_d, ep, w]
  by_cases hm : P 131 p = -1
  · have hm2 : (P 131 p).toInt = -1 := by rw [hm]; decide
    rw [if_neg (show ¬ (0 ≤ (P 131 p).toInt ∧ (P 131 p).toInt ≤ 3) by omega), if_pos rfl, if_pos hm]
    exact ⟨_, rfl, a_mixC r2 g2 b2 br.1 br.2 bg.1 bg.2 bb.1 bb.2⟩
  · have hm2 : (P 131 p).toInt ≠ -1 := fun h => hm (a_ext h)
    rw [if_pos (show 0 ≤ (P 131 p).toInt ∧ (P 131 p).toInt ≤ 3 by omega), if_neg (by decide), if_neg hm]
    have hn4 : (P 131 p).toNatClampNeg < 4 := by rw [a_nat32 rfl]; omega
    have eits : P 131 p = nI (P 131 p).toNatClampNeg := n_of (by rw [a_nat32 rfl]; omega)
    generalize (P 131 p).toNatClampNeg = its at hn4 eits ⊢
    rw [eits]
    obtain ⟨u, u1, u2⟩ := c_weighted (F := F) (k := 3) hO ht hM hi (by omega) (by omega)
    obtain ⟨v, v1, v2⟩ := c_weighted (F := F) (k := 4) hO ht hM hi (by omega) (by omega)
    have bv := sWm_rg hO ht hi (k := 4) (by omega) (by omega)
    have bu := sWm_rg hO ht hi (k := 3) (by omega) (by omega)
    obtain ⟨c, c1, c2⟩ := c_tintAt (F := F) hR hn4 u2 v2 bu.1 bv.1
    have bt := sTint_rg hO its (sWm (sFoc P) t x y 3) (sWm (sFoc P) t x y 4)
    rw [bndO_s _ u1, bnd_d, bndO_s _ v1, bnd_d, gn_3, grd_t (n_in hn4 (by omega)), bnd_d, gr_3, bndO_s _ c1, bnd_d]
    refine ⟨_, rfl, ?_⟩
    generalize sTint P its (sWm (sFoc P) t x y 3) (sWm (sFoc P) t x y 4) = c' at c2 bt ⊢
    have x1 := a_redC c (by omega) (by omega)
    have x2 := a_greenC c
    have x3 := a_blueC c
    rw [c2] at x1 x2 x3
    have k255 : (255 : Int32).toInt = 255 := rfl
    have q1 := q255 (c := c' / 65536) (by omega) (by omega) br.1 br.2
    have q2 := q255 (c := c' / 256 % 256) (by omega) (by omega) bg.1 bg.2
    have q3 := q255 (c := c' % 256) (by omega) (by omega) bb.1 bb.2
    exact a_mixC (a_div (a_mul x1 r2 (by omega) (by omega)) k255 q1.1 (by omega)) (a_div (a_mul x2 g2 (by omega) (by omega)) k255 q2.1 (by omega)) (a_div (a_mul x3 b2 (by omega) (by omega)) k255 q3.1 (by omega)) q1.2.2.1 q1.2.2.2 q2.2.2.1 q2.2.2.2 q3.2.2.1 q3.2.2.2
theorem c_half {c d : Int32} {c' d' : Int} (hc : c.toInt = c') (hd : d.toInt = d') (bc : 0 ≤ c' ∧ c' ≤ 16777215) (bd : 0 ≤ d' ∧ d' ≤ 16777215) : (f_X10_halfOfBoth c d).toInt = sHalf c' d' := by
  have c1 := a_redC c (by omega) (by omega)
  have c2 := a_greenC c
  have c3 := a_blueC c
  have d1 := a_redC d (by omega) (by omega)
  have d2 := a_greenC d
  have d3 := a_blueC d
  rw [hc] at c1 c2 c3
  rw [hd] at d1 d2 d3
  have k2 : (2 : Int32).toInt = 2 := rfl
  exact a_mixC (a_div (a_add c1 d1 (by omega) (by omega)) k2 (by omega) (by omega)) (a_div (a_add c2 d2 (by omega) (by omega)) k2 (by omega) (by omega)) (a_div (a_add c3 d3 (by omega) (by omega)) k2 (by omega) (by omega)) (by omega) (by omega) (by omega) (by omega) (by omega) (by omega)
