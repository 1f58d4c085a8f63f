/-! PURE PART: the reference's pieces -/
theorem r_offs {P : PM} {M : GM} {F : Nat} {i0 i1 : Int32} {a b c : V} (hF : 3000 ≤ F) (ha : rLay P M 0 a) (hb : rLay P M 1 b) (hc : rLay P M 2 c) :
    lp_X11_layPiece_51 F i0 i1 F (nI 0) M = if sFar (sFoc P) a ∨ sFar (sFoc P) b ∨ sFar (sFoc P) c then some (.inr (0, M)) else some (.inl M) := by
  obtain ⟨m, rfl⟩ : ∃ m, F = m + 3000 := ⟨F - 3000, by omega⟩
  have z1 : ((1 : Int32) = 0) = False := eq_false (by decide)
  have x0 := r_isOff ha.2.1
  have y0 := r_isOff ha.2.2.1
  have x1 := r_isOff hb.2.1
  have y1 := r_isOff hb.2.2.1
  have x2 := r_isOff hc.2.1
  have y2 := r_isOff hc.2.2.1
  have e : ∀ (w : Int64) (q : Prop) [Decidable q], f_X11_isOff w = (if q then 1 else 0) → ((f_X11_isOff w = nI 0) = ¬ q) := fun w q _ h => by
    rw [h]
    by_cases hq : q
    · rw [if_pos hq]; simp [hq]; decide
    · rw [if_neg hq]; simp [hq]; rfl
  replace x0 := e _ _ x0
  replace y0 := e _ _ y0
  replace x1 := e _ _ x1
  replace y1 := e _ _ y1
  replace x2 := e _ _ x2
  replace y2 := e _ _ y2
  rw [el_X11_layPiece_51]
  unfold st_X11_layPiece_51
  rw [if_neg (by decide), grd_t (by decide +kernel), n_cl (by omega), i_0, ite_congr x0 (fun _ => rfl) (fun _ => rfl)]
  by_cases h0 : sX (sFoc P) a < -30000 ∨ 30000 < sX (sFoc P) a
  · rw [if_neg (fun q => q h0), if_pos (by unfold sFar; omega)]
  rw [if_pos h0, grd_t (by decide +kernel), ite_congr y0 (fun _ => rfl) (fun _ => rfl)]
  by_cases h1 : sY (sFoc P) a < -30000 ∨ 30000 < sY (sFoc P) a
  · rw [if_neg (fun q => q h1), if_pos (by unfold sFar; omega)]
  rw [if_pos h1, bnd_d, i_1, n_a, el_X11_layPiece_51]
  unfold st_X11_layPiece_51
  rw [if_neg (by decide), grd_t (by decide +kernel), n_cl (by omega), i_0, ite_congr x1 (fun _ => rfl) (fun _ => rfl)]
  by_cases h2 : sX (sFoc P) b < -30000 ∨ 30000 < sX (sFoc P) b
  · rw [if_neg (fun q => q h2), if_pos (by unfold sFar; omega)]
  rw [if_pos h2, grd_t (by decide +kernel), ite_congr y1 (fun _ => rfl) (fun _ => rfl)]
  by_cases h3 : sY (sFoc P) b < -30000 ∨ 30000 < sY (sFoc P) b
  · rw [if_neg (fun q => q h3), if_pos (by unfold sFar; omega)]
  rw [if_pos h3, bnd_d, i_1, n_a, el_X11_layPiece_51]
  unfold st_X11_layPiece_51
  rw [if_neg (by decide), grd_t (by decide +kernel), n_cl (by omega), i_0, ite_congr x2 (fun _ => rfl) (fun _ => rfl)]
  by_cases h4 : sX (sFoc P) c < -30000 ∨ 30000 < sX (sFoc P) c
  · rw [if_neg (fun q => q h4), if_pos (by unfold sFar; omega)]
  rw [if_pos h4, grd_t (by decide +kernel), ite_congr y2 (fun _ => rfl) (fun _ => rfl)]
  by_cases h5 : sY (sFoc P) c < -30000 ∨ 30000 < sY (sFoc P) c
  · rw [if_neg (fun q => q h5), if_pos (by unfold sFar; omega)]
  rw [if_pos h5, bnd_d, i_1, n_a, el_X11_layPiece_51]
  unfold st_X11_layPiece_51
  rw [if_pos (by decide), if_neg (by unfold sFar; omega)]
theorem r_layPiece {P : PM} {M : GM} {F p q : Nat} (hF : 3000 ≤ F) (hO : OK P) (hR : RV P M) (hp : p < 30) (hq : q < 2) (hl : rPoly M (sPane P p)) :
    ∃ v M', f_X11_layPiece F (nI p) (nI q) M = some (v, M') ∧ ((sPcs P p q = none ∧ v = 0) ∨ (∃ t, sPcs P p q = some t ∧ v = 1 ∧ rTri P M' t)) ∧ (∀ g k, ¬ lpS g → gI M' g k = gI M g k) ∧ (∀ g k, ¬ lpL g → gL M' g k = gL M g k) ∧ M'.2.2 = M.2.2 := by
  have len4 := sPane_len P p
  have ec : nI q ≤ gI M 122 27 - nI 3 ↔ q + 3 ≤ (sPane P p).length := by
    rw [hl.1, a_le (n_int (by omega)) (a_sub (n_int (by omega)) (n_int (by omega)) (by omega) (by omega))]; omega
  by_cases hc : q + 3 ≤ (sPane P p).length
  rotate_left
  · refine ⟨0, M, ?_, Or.inl ⟨?_, rfl⟩, fun _ _ _ => rfl, fun _ _ _ => rfl, rfl⟩
    · unfold f_X11_layPiece
      rw [if_neg (show ¬ nI q ≤ gI M 122 27 - 3 from fun h => hc (ec.mp h))]
    · unfold sPcs
      rw [show (sPane P p)[q + 2]? = none from List.getElem?_eq_none (by omega)]
      split
      · rename_i e1 e2 e3; cases e3
      · rfl
  obtain ⟨a, ea⟩ : ∃ a, (sPane P p)[0]? = some a := ⟨_, List.getElem?_eq_getElem (by omega)⟩
  obtain ⟨b, eb⟩ : ∃ b, (sPane P p)[q + 1]? = some b := ⟨_, List.getElem?_eq_getElem (by omega)⟩
  obtain ⟨c, ecc⟩ : ∃ c, (sPane P p)[q + 2]? = some c := ⟨_, List.getElem?_eq_getElem (by omega)⟩
  have eP : sPcs P p q = sPiece (sFoc P) (P 133 p) a b c := by unfold sPcs; rw [ea, eb, ecc]
  have ga := sPane_at hO ea
  have gb := sPane_at hO eb
  have gc := sPane_at hO ecc
  have da := hl.2 0 a ea
  have db := hl.2 (q + 1) b eb
  have dc := hl.2 (q + 2) c ecc
  obtain ⟨M1, t1, y1, i1, l1, p1⟩ := r_lay (F := F) (k := 0) (o := 145) hO hR (by omega) (by omega) da ga
  have hR1 : RV P M1 := hR.to fun g j h => i1 g j (by omega)
  obtain ⟨M2, t2, y2, i2, l2, p2⟩ := r_lay (F := F) (k := 1) (o := 145 + (q + 1)) hO hR1 (by omega) (by omega) (fun j hj => by rw [i1 _ j (by omega)]; exact db j hj) gb
  have hR2 : RV P M2 := hR1.to fun g j h => i2 g j (by omega)
  obtain ⟨M3, t3, y3, i3, l3, p3⟩ := r_lay (F := F) (k := 2) (o := 145 + (q + 2)) hO hR2 (by omega) (by omega) (fun j hj => by rw [i2 _ j (by omega), i1 _ j (by omega)]; exact dc j hj) gc
  have hR3 : RV P M3 := hR2.to fun g j h => i3 g j (by omega)
  have y1' : rLay P M3 0 a := (y1.to (fun j => i2 _ j (by omega)) (fun g _ _ => l2 g 0 (by omega))).to (fun j => i3 _ j (by omega)) (fun g _ _ => l3 g 0 (by omega))
  have y2' : rLay P M3 1 b := y2.to (fun j => i3 _ j (by omega)) (fun g _ _ => l3 g 1 (by omega))
  have fI : ∀ g k, ¬ lpS g → gI M3 g k = gI M g k := fun g k h => by unfold lpS at h; rw [i3 g k (by omega), i2 g k (by omega), i1 g k (by omega)]
  have fL : ∀ g k, ¬ lpL g → gL M3 g k = gL M g k := fun g k h => by unfold lpL at h; rw [l3 g k (by omega), l2 g k (by omega), l1 g k (by omega)]
  have fP : M3.2.2 = M.2.2 := by rw [p3, p2, p1]
  have ofs := r_offs (i0 := nI p) (i1 := nI q) hF y1' y2' y3
  have hcq : nI q ≤ gI M 122 27 - nI 3 := ec.mpr hc
  have q1 : q + 1 < 4 := by omega
  have q2 : q + 2 < 4 := by omega
  have head : f_X11_layPiece F (nI p) (nI q) M = bndT (lp_X11_layPiece_51 F (nI p) (nI q) F (nI 0) M3) (fun M24 => bndO (f_X11_turn F (0 : Int32) (1 : Int32) (gL M24 153 2) (gL M24 154 2) M24) (fun w28 => bnd (sL M24 122 33 w28) (fun M29 => if (lg_cmp (gL M29 122 33) (0 : Int64)) < 0 then (grd (gIn (nI q + (2 : Int32)) (gN 144)) (bnd (gR 144 (nI q + (2 : Int32)).toNatClampNeg) (fun o32 => bndO (f_X11_lay F (1 : Int32) o32 M29) (fun M36 => grd (gIn (nI q + (1 : Int32)) (gN 144)) (bnd (gR 144 (nI q + (1 : Int32)).toNatClampNeg) (fun o38 => bndO (f_X11_lay F (2 : Int32) o38 M36) (fun M42 => bnd (sL M42 122 33 (-(gL M42 122 33))) (fun M43 => grd (gIn (nI p) (gN 133)) (grd (gTf (gI M43 133 (nI p).toNatClampNeg)) (some ((gI M43 133 (nI p).toNatClampNeg), M43))))))))))) else (if (lg_cmp (gL M29 122 33) (0 : Int64)) ≤ 0 then (some ((0 : Int32), M29)) else (some ((1 : Int32), M29)))))) (fun r26 => some r26) := by
    unfold f_X11_layPiece
    rw [if_pos (show nI q ≤ gI M 122 27 - 3 from hcq), bndO_s _ (show f_X11_lay F 0 145 M = some M1 from t1)]
    rw [i_1, i_2, n_a, n_a, grd_t (by rw [gn_144]; exact n_in q1 (by omega)), bnd_d, n_cl (by omega), gr_144, bndO_s _ t2]
    rw [grd_t (by rw [gn_144]; exact n_in q2 (by omega)), bnd_d, n_cl (by omega), gr_144, bndO_s _ t3, bnd_d]
    rfl
  rw [head, ofs]
  by_cases hf : sFar (sFoc P) a ∨ sFar (sFoc P) b ∨ sFar (sFoc P) c
  · rw [if_pos hf]
    refine ⟨0, M3, rfl, Or.inl ⟨?_, rfl⟩, fI, fL, fP⟩
    rw [eP]; unfold sPiece; rw [if_pos hf]
  rw [if_neg hf, bndTl]
  have na : ¬ sFar (sFoc P) a := fun h => hf (Or.inl h)
  have nb : ¬ sFar (sFoc P) b := fun h => hf (Or.inr (Or.inl h))
  have nc : ¬ sFar (sFoc P) c := fun h => hf (Or.inr (Or.inr h))
  have nc' := nc
  unfold sFar at nc'
  obtain ⟨w, w1, w2⟩ := r_turn (F := F) (i := 0) (j := 1) (by omega) (by omega) y1' y2' na nb y3.2.1 y3.2.2.1 (by omega) (by omega)
  have bd := sTu_bd (x := sX (sFoc P) c) (y := sY (sFoc P) c) na nb (by omega) (by omega)
  rw [bndO_s _ (show f_X11_turn F 0 1 (gL M3 153 2) (gL M3 154 2) M3 = some w from w1), bnd_d]
  generalize hM4 : sL M3 122 33 w = M4
  have g4 : gL M4 122 33 = w := by rw [← hM4, gL_sL, if_pos ⟨rfl, rfl⟩]
  have i4 : ∀ g k, gI M4 g k = gI M3 g k := fun g k => by rw [← hM4]; rfl
  have l4 : ∀ g k, ¬ (g = 122 ∧ k = 33) → gL M4 g k = gL M3 g k := fun g k h => by rw [← hM4, gL_sL, if_neg h]
  have p4 : M4.2.2 = M3.2.2 := by rw [← hM4]; rfl
  rw [g4]
  have cl : lg_cmp w 0 < 0 ↔ sTu (sFoc P) a b (sX (sFoc P) c) (sY (sFoc P) c) < 0 := by rw [lg_cmp_lt]; exact a_lt64 w2 rfl
  have cl2 : lg_cmp w 0 ≤ 0 ↔ sTu (sFoc P) a b (sX (sFoc P) c) (sY (sFoc P) c) ≤ 0 := by rw [lg_cmp_le]; exact a_le64 w2 rfl
  by_cases h0 : sTu (sFoc P) a b (sX (sFoc P) c) (sY (sFoc P) c) < 0
  · rw [if_pos (cl.mpr h0)]
    have hR4 : RV P M4 := hR3.to fun g j _ => i4 g j
    obtain ⟨M5, t5, y5, i5, l5, p5⟩ := r_lay (F := F) (k := 1) (o := 145 + (q + 2)) (v := c) hO hR4 (by omega) (by omega) (fun j hj => by rw [i4, fI _ j (by unfold lpS; omega)]; exact dc j hj) gc
    have hR5 : RV P M5 := hR4.to fun g j h => i5 g j (by omega)
    obtain ⟨M6, t6, y6, i6, l6, p6⟩ := r_lay (F := F) (k := 2) (o := 145 + (q + 1)) (v := b) hO hR5 (by omega) (by omega) (fun j hj => by rw [i5 _ j (by omega), i4, fI _ j (by unfold lpS; omega)]; exact db j hj) gb
    have e33 : (-(gL M6 122 33)).toInt = - sTu (sFoc P) a b (sX (sFoc P) c) (sY (sFoc P) c) := by
      rw [l6 122 33 (by omega), l5 122 33 (by omega), g4]; exact a_neg64 w2 (by omega)
    have y1c : rLay P M6 0 a := ((y1'.to (fun j => i4 _ j) (fun g h1 h2 => l4 g 0 (by omega))).to (fun j => i5 _ j (by omega)) (fun g _ _ => l5 g 0 (by omega))).to (fun j => i6 _ j (by omega)) (fun g _ _ => l6 g 0 (by omega))
    have y5c : rLay P M6 1 c := y5.to (fun j => i6 _ j (by omega)) (fun g _ _ => l6 g 1 (by omega))
    have hM6 : gI M6 133 p = P 133 p := by rw [i6 133 p (by omega), i5 133 p (by omega), i4]; exact hR3.2 133 p (by omega) (by omega)
    have two := hO.2.2.2.2.2.2.2.2.2.2.1 133 p (by omega) (by omega)
    refine ⟨P 133 p, sL M6 122 33 (-(gL M6 122 33)), ?_, ?_, fun g k h => ?_, fun g k h => ?_, ?_⟩
    · rw [i_1, i_2, n_a, n_a, grd_t (by rw [gn_144]; exact n_in q2 (by omega)), bnd_d, n_cl (by omega), gr_144, bndO_s _ t5]
      rw [grd_t (by rw [gn_144]; exact n_in q1 (by omega)), bnd_d, n_cl (by omega), gr_144, bndO_s _ t6, bnd_d]
      rw [grd_t (by rw [gn_133]; exact n_in hp (by omega)), n_cl (by omega), gI_sL, hM6, grd_t (by rcases two with h | h <;> rw [h] <;> decide)]
    · rw [eP]
      unfold sPiece
      rw [if_neg hf, if_neg (by omega), if_neg (by omega)]
      rcases two with h | h
      · left; rw [if_pos h]; exact ⟨rfl, h⟩
      · right
        rw [if_neg (by rw [h]; decide)]
        refine ⟨_, rfl, h, y1c.to (fun _ => rfl) (fun g h1 h2 => by rw [gL_sL, if_neg (by omega)]), y5c.to (fun _ => rfl) (fun g h1 h2 => by rw [gL_sL, if_neg (by omega)]), y6.to (fun _ => rfl) (fun g h1 h2 => by rw [gL_sL, if_neg (by omega)]), ?_⟩
        rw [gL_sL, if_pos ⟨rfl, rfl⟩, e33]
        unfold sArea
        exact (sTu_flip _ _ _ _).symm
    · unfold lpS at h; rw [gI_sL, i6 g k (by omega), i5 g k (by omega), i4, fI g k (by unfold lpS; omega)]
    · unfold lpL at h; rw [gL_sL, if_neg (by omega), l6 g k (by omega), l5 g k (by omega), l4 g k (by omega), fL g k (by unfold lpL; omega)]
    · show M6.2.2 = _; rw [p6, p5, p4, fP]
  · rw [if_neg (fun h => h0 (cl.mp h))]
    have fI4 : ∀ g k, ¬ lpS g → gI M4 g k = gI M g k := fun g k h => by rw [i4, fI g k h]
    have fL4 : ∀ g k, ¬ lpL g → gL M4 g k = gL M g k := fun g k h => by rw [l4 g k (by unfold lpL at h; omega), fL g k h]
    by_cases h1 : sTu (sFoc P) a b (sX (sFoc P) c) (sY (sFoc P) c) ≤ 0
    · rw [if_pos (cl2.mpr h1)]
      refine ⟨0, M4, rfl, Or.inl ⟨?_, rfl⟩, fI4, fL4, p4.trans fP⟩
      rw [eP]; unfold sPiece; rw [if_neg hf, if_pos (by omega)]
    · rw [if_neg (fun h => h1 (cl2.mp h))]
      refine ⟨1, M4, rfl, Or.inr ⟨(a, b, c), ?_, rfl, y1'.to (fun j => i4 _ j) (fun g _ _ => l4 g 0 (by omega)), y2'.to (fun j => i4 _ j) (fun g _ _ => l4 g 1 (by omega)), y3.to (fun j => i4 _ j) (fun g _ _ => l4 g 2 (by omega)), ?_⟩, fI4, fL4, p4.trans fP⟩
      · rw [eP]; unfold sPiece; rw [if_neg hf, if_neg (by omega), if_pos (by omega)]
      · rw [g4]; exact w2
