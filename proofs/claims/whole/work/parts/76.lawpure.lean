/-! PURE PART: the law's calls, one by one -/
theorem tail_I {rec : Int32 → GM → Option (GM ⊕ (Int32 × GM))} {k b a : Int32} {M2 : GM} (h1 : f_X11_thrown M2 = k) (h2 : k = 0 → gL M2 162 0 = WI b) :
    (if f_X11_thrown M2 = k then (if k = 0 then (if lg_cmp (gL M2 162 0) b.toInt64 = 0 then bnd (a + (7 : Int32)) (fun v => rec v M2) else some (Sum.inr ((0 : Int32), M2))) else bnd (a + (7 : Int32)) (fun v => rec v M2)) else some (Sum.inr ((0 : Int32), M2))) = rec (a + 7) M2 := by
  rw [if_pos h1]
  by_cases hk : k = 0
  · rw [if_pos hk, if_pos ((lg_cmp_eq _ _).mpr (h2 hk)), bnd_d]
  · rw [if_neg hk, bnd_d]
theorem tail_B {rec : Int32 → GM → Option (GM ⊕ (Int32 × GM))} {k b a : Int32} {M2 : GM} (h1 : f_X11_thrown M2 = k) (h2 : k = 0 → gL M2 162 0 = WB b) :
    (if f_X11_thrown M2 = k then (if k = 0 then (if b = 0 then (if lg_cmp (gL M2 162 0) (0 : Int64) = 0 then bnd (a + (7 : Int32)) (fun v => rec v M2) else some (Sum.inr ((0 : Int32), M2))) else (if lg_cmp (gL M2 162 0) (1 : Int64) = 0 then bnd (a + (7 : Int32)) (fun v => rec v M2) else some (Sum.inr ((0 : Int32), M2)))) else bnd (a + (7 : Int32)) (fun v => rec v M2)) else some (Sum.inr ((0 : Int32), M2))) = rec (a + 7) M2 := by
  rw [if_pos h1]
  by_cases hk : k = 0
  · have h3 := h2 hk
    unfold WB at h3
    rw [if_pos hk]
    by_cases hb : b = 0
    · rw [if_pos hb] at h3
      rw [if_pos hb, if_pos ((lg_cmp_eq _ _).mpr h3), bnd_d]
    · rw [if_neg hb] at h3
      rw [if_neg hb, if_pos ((lg_cmp_eq _ _).mpr h3), bnd_d]
  · rw [if_neg hk, bnd_d]
/-- the next call's numbers lie in the script -/
def scIn (L9 i : Nat) : Prop := gIn (nI i + (1 : Int32)) L9 = true ∧ gIn (nI i + (2 : Int32)) L9 = true ∧ gIn (nI i + (3 : Int32)) L9 = true ∧ gIn (nI i + (4 : Int32)) L9 = true ∧ gIn (nI i + (5 : Int32)) L9 = true ∧ gIn (nI i + (6 : Int32)) L9 = true
theorem scIn_of {L9 i : Nat} (h : i + 7 ≤ L9) (hL : L9 ≤ 3584) : scIn L9 i := by
  have e : ∀ j : Nat, j < 7 → gIn (nI i + nI j) L9 = true := fun j hj => by rw [n_a]; exact n_in (by omega) (by omega)
  exact ⟨e 1 (by omega), e 2 (by omega), e 3 (by omega), e 4 (by omega), e 5 (by omega), e 6 (by omega)⟩
/-- a call of the law's goes on -/
def LGoes (f : (Int32 → GM → Option (GM ⊕ (Int32 × GM))) → Option (GM ⊕ (Int32 × GM))) (i : Nat) : Prop := ∃ M2 P', (∀ rec, f rec = rec (nI i + 7) M2) ∧ Inv P' M2
theorem tfi (c : Prop) [Decidable c] : (if c then (0 : Int32) else 1) = 0 ∨ (if c then (0 : Int32) else 1) = 1 := by
  by_cases h : c
  · rw [if_pos h]; exact Or.inl rfl
  · rw [if_neg h]; exact Or.inr rfl
section
variable {P : PM} {M : GM} {F L9 i : Nat} {xs9 : Nat → Int32}
theorem lc_addCorner (hF : 3000 ≤ F) (hI : Inv P M) (hs : scIn L9 i) : LGoes (fun rec => bk_L_law_200_23 F L9 xs9 rec (nI i) M) i := by
  obtain ⟨h1, h2, h3, h4, h5, h6⟩ := hs
  obtain ⟨k, M1, b, M2, P', e1, e2, e3, e4, e5⟩ := op_addCorner (F := F) hI (xs9 (nI i + (1 : Int32)).toNatClampNeg) (xs9 (nI i + (2 : Int32)).toNatClampNeg) (xs9 (nI i + (3 : Int32)).toNatClampNeg) (xs9 (nI i + (4 : Int32)).toNatClampNeg) (xs9 (nI i + (5 : Int32)).toNatClampNeg) (xs9 (nI i + (6 : Int32)).toNatClampNeg)
  refine ⟨M2, P', fun rec => ?_, e5⟩
  show bk_L_law_200_23 F L9 xs9 rec (nI i) M = _
  unfold bk_L_law_200_23
  rw [h1, h2, h3, h4, h5, h6]
  simp only [grdT]
  rw [bndO_s _ e1]
  show bnd k _ = _
  rw [bnd_d, bndO_s _ e2]
  show bnd b _ = _
  rw [bnd_d]
  exact tail_I e3 e4
theorem lc_moveCorner (hF : 3000 ≤ F) (hI : Inv P M) (hs : scIn L9 i) : LGoes (fun rec => bk_L_law_318_23 F L9 xs9 rec (nI i) M) i := by
  obtain ⟨h1, h2, h3, h4, h5, h6⟩ := hs
  obtain ⟨k, M1, b, M2, P', e1, e2, e3, e4, e5⟩ := op_moveCorner (F := F) hF hI (xs9 (nI i + (1 : Int32)).toNatClampNeg) (xs9 (nI i + (2 : Int32)).toNatClampNeg) (xs9 (nI i + (3 : Int32)).toNatClampNeg) (xs9 (nI i + (4 : Int32)).toNatClampNeg)
  refine ⟨M2, P', fun rec => ?_, e5⟩
  show bk_L_law_318_23 F L9 xs9 rec (nI i) M = _
  unfold bk_L_law_318_23
  rw [h1, h2, h3, h4]
  simp only [grdT]
  rw [bndO_s _ e1]
  show bnd k _ = _
  rw [bnd_d, bndO_s _ e2]
  show bnd b _ = _
  rw [bnd_d]
  exact tail_I e3 e4
theorem lc_setColour (hF : 3000 ≤ F) (hI : Inv P M) (hs : scIn L9 i) : LGoes (fun rec => bk_L_law_410_23 F L9 xs9 rec (nI i) M) i := by
  obtain ⟨h1, h2, h3, h4, h5, h6⟩ := hs
  obtain ⟨k, M1, b, M2, P', e1, e2, e3, e4, e5⟩ := op_setColour (F := F) hI (xs9 (nI i + (1 : Int32)).toNatClampNeg) (xs9 (nI i + (2 : Int32)).toNatClampNeg)
  refine ⟨M2, P', fun rec => ?_, e5⟩
  show bk_L_law_410_23 F L9 xs9 rec (nI i) M = _
  unfold bk_L_law_410_23
  rw [h1, h2]
  simp only [grdT]
  rw [bndO_s _ e1]
  show bnd k _ = _
  rw [bnd_d, bndO_s _ e2]
  show bnd b _ = _
  rw [bnd_d]
  exact tail_I e3 e4
theorem lc_addPane (hF : 3000 ≤ F) (hI : Inv P M) (hs : scIn L9 i) : LGoes (fun rec => bk_L_law_478_23 F L9 xs9 rec (nI i) M) i := by
  obtain ⟨h1, h2, h3, h4, h5, h6⟩ := hs
  obtain ⟨k, M1, b, M2, P', e1, e2, e3, e4, e5⟩ := op_addPane (F := F) hI (xs9 (nI i + (1 : Int32)).toNatClampNeg) (xs9 (nI i + (2 : Int32)).toNatClampNeg) (xs9 (nI i + (3 : Int32)).toNatClampNeg) (xs9 (nI i + (4 : Int32)).toNatClampNeg) (if (xs9 (nI i + (5 : Int32)).toNatClampNeg) = 0 then 0 else 1) (if (xs9 (nI i + (6 : Int32)).toNatClampNeg) = 0 then 0 else 1) (tfi _) (tfi _)
  refine ⟨M2, P', fun rec => ?_, e5⟩
  show bk_L_law_478_23 F L9 xs9 rec (nI i) M = _
  unfold bk_L_law_478_23
  rw [h1, h2, h3, h4, h5]
  simp only [grdT]
  by_cases c5 : (xs9 (nI i + (5 : Int32)).toNatClampNeg) = 0 <;> by_cases c6 : (xs9 (nI i + (6 : Int32)).toNatClampNeg) = 0
  · rw [if_pos c5, if_pos c6] at e1 e2
    rw [if_pos c5]
    unfold bk_L_law_517_23
    rw [h6, grdT, if_pos c6]
    unfold bk_L_law_532_23
    rw [bndO_s _ e1]
    show bnd k _ = _
    rw [bnd_d, h1, h2, h3, h4, h5, grdT, grdT, grdT, grdT, grdT, if_pos c5]
    unfold bk_L_law_577_23c
    rw [h6, grdT, if_pos c6]
    unfold bk_L_law_592_23c
    rw [bndO_s _ e2]
    show bnd b _ = _
    rw [bnd_d]
    exact tail_I e3 e4
  · rw [if_pos c5, if_neg c6] at e1 e2
    rw [if_pos c5]
    unfold bk_L_law_517_23
    rw [h6, grdT, if_neg c6]
    unfold bk_L_law_532_23
    rw [bndO_s _ e1]
    show bnd k _ = _
    rw [bnd_d, h1, h2, h3, h4, h5, grdT, grdT, grdT, grdT, grdT, if_pos c5]
    unfold bk_L_law_577_23c
    rw [h6, grdT, if_neg c6]
    unfold bk_L_law_592_23c
    rw [bndO_s _ e2]
    show bnd b _ = _
    rw [bnd_d]
    exact tail_I e3 e4
  · rw [if_neg c5, if_pos c6] at e1 e2
    rw [if_neg c5]
    unfold bk_L_law_517_23
    rw [h6, grdT, if_pos c6]
    unfold bk_L_law_532_23
    rw [bndO_s _ e1]
    show bnd k _ = _
    rw [bnd_d, h1, h2, h3, h4, h5, grdT, grdT, grdT, grdT, grdT, if_neg c5]
    unfold bk_L_law_577_23c
    rw [h6, grdT, if_pos c6]
    unfold bk_L_law_592_23c
    rw [bndO_s _ e2]
    show bnd b _ = _
    rw [bnd_d]
    exact tail_I e3 e4
  · rw [if_neg c5, if_neg c6] at e1 e2
    rw [if_neg c5]
    unfold bk_L_law_517_23
    rw [h6, grdT, if_neg c6]
    unfold bk_L_law_532_23
    rw [bndO_s _ e1]
    show bnd k _ = _
    rw [bnd_d, h1, h2, h3, h4, h5, grdT, grdT, grdT, grdT, grdT, if_neg c5]
    unfold bk_L_law_577_23c
    rw [h6, grdT, if_neg c6]
    unfold bk_L_law_592_23c
    rw [bndO_s _ e2]
    show bnd b _ = _
    rw [bnd_d]
    exact tail_I e3 e4
theorem lc_show (hF : 3000 ≤ F) (hI : Inv P M) (hs : scIn L9 i) : LGoes (fun rec => bk_L_law_628_23 F L9 xs9 rec (nI i) M) i := by
  obtain ⟨h1, h2, h3, h4, h5, h6⟩ := hs
  obtain ⟨k, M1, b, M2, P', e1, e2, e3, e4, e5⟩ := op_show (F := F) hI (xs9 (nI i + (1 : Int32)).toNatClampNeg) (if (xs9 (nI i + (2 : Int32)).toNatClampNeg) = 0 then 0 else 1) (tfi _)
  refine ⟨M2, P', fun rec => ?_, e5⟩
  show bk_L_law_628_23 F L9 xs9 rec (nI i) M = _
  unfold bk_L_law_628_23
  rw [h1, h2, grdT, grdT]
  by_cases c2 : (xs9 (nI i + (2 : Int32)).toNatClampNeg) = 0
  · rw [if_pos c2] at e1 e2
    rw [if_pos c2]
    unfold bk_L_law_649_23
    rw [bndO_s _ e1]
    show bnd k _ = _
    rw [bnd_d, h1, h2, grdT, grdT, if_pos c2]
    unfold bk_L_law_676_23c
    rw [bndO_s _ e2]
    show bnd b _ = _
    rw [bnd_d]
    exact tail_B e3 e4
  · rw [if_neg c2] at e1 e2
    rw [if_neg c2]
    unfold bk_L_law_649_23
    rw [bndO_s _ e1]
    show bnd k _ = _
    rw [bnd_d, h1, h2, grdT, grdT, if_neg c2]
    unfold bk_L_law_676_23c
    rw [bndO_s _ e2]
    show bnd b _ = _
    rw [bnd_d]
    exact tail_B e3 e4
theorem lc_setPattern (hF : 3000 ≤ F) (hI : Inv P M) (hs : scIn L9 i) : LGoes (fun rec => bk_L_law_719_23 F L9 xs9 rec (nI i) M) i := by
  obtain ⟨h1, h2, h3, h4, h5, h6⟩ := hs
  obtain ⟨k, M1, b, M2, P', e1, e2, e3, e4, e5⟩ := op_setPattern (F := F) hI (xs9 (nI i + (1 : Int32)).toNatClampNeg) (xs9 (nI i + (2 : Int32)).toNatClampNeg) (xs9 (nI i + (3 : Int32)).toNatClampNeg) (xs9 (nI i + (4 : Int32)).toNatClampNeg)
  refine ⟨M2, P', fun rec => ?_, e5⟩
  show bk_L_law_719_23 F L9 xs9 rec (nI i) M = _
  unfold bk_L_law_719_23
  rw [h1, h2, h3, h4]
  simp only [grdT]
  rw [bndO_s _ e1]
  show bnd k _ = _
  rw [bnd_d, bndO_s _ e2]
  show bnd b _ = _
  rw [bnd_d]
  exact tail_I e3 e4
theorem lc_setRepeats (hF : 3000 ≤ F) (hI : Inv P M) (hs : scIn L9 i) : LGoes (fun rec => bk_L_law_811_23 F L9 xs9 rec (nI i) M) i := by
  obtain ⟨h1, h2, h3, h4, h5, h6⟩ := hs
  obtain ⟨k, M1, b, M2, P', e1, e2, e3, e4, e5⟩ := op_setRepeats (F := F) hI (xs9 (nI i + (1 : Int32)).toNatClampNeg) (if (xs9 (nI i + (2 : Int32)).toNatClampNeg) = 0 then 0 else 1) (tfi _)
  refine ⟨M2, P', fun rec => ?_, e5⟩
  show bk_L_law_811_23 F L9 xs9 rec (nI i) M = _
  unfold bk_L_law_811_23
  rw [h1, h2, grdT, grdT]
  by_cases c2 : (xs9 (nI i + (2 : Int32)).toNatClampNeg) = 0
  · rw [if_pos c2] at e1 e2
    rw [if_pos c2]
    unfold bk_L_law_832_23
    rw [bndO_s _ e1]
    show bnd k _ = _
    rw [bnd_d, h1, h2, grdT, grdT, if_pos c2]
    unfold bk_L_law_859_23c
    rw [bndO_s _ e2]
    show bnd b _ = _
    rw [bnd_d]
    exact tail_B e3 e4
  · rw [if_neg c2] at e1 e2
    rw [if_neg c2]
    unfold bk_L_law_832_23
    rw [bndO_s _ e1]
    show bnd k _ = _
    rw [bnd_d, h1, h2, grdT, grdT, if_neg c2]
    unfold bk_L_law_859_23c
    rw [bndO_s _ e2]
    show bnd b _ = _
    rw [bnd_d]
    exact tail_B e3 e4
theorem lc_setCamera (hF : 3000 ≤ F) (hI : Inv P M) (hs : scIn L9 i) : LGoes (fun rec => bk_L_law_902_23 F L9 xs9 rec (nI i) M) i := by
  obtain ⟨h1, h2, h3, h4, h5, h6⟩ := hs
  obtain ⟨k, M1, b, M2, P', e1, e2, e3, e4, e5⟩ := op_setCamera (F := F) hF hI (xs9 (nI i + (1 : Int32)).toNatClampNeg) (xs9 (nI i + (2 : Int32)).toNatClampNeg) (xs9 (nI i + (3 : Int32)).toNatClampNeg) (xs9 (nI i + (4 : Int32)).toNatClampNeg) (xs9 (nI i + (5 : Int32)).toNatClampNeg)
  refine ⟨M2, P', fun rec => ?_, e5⟩
  show bk_L_law_902_23 F L9 xs9 rec (nI i) M = _
  unfold bk_L_law_902_23
  rw [h1, h2, h3, h4, h5]
  simp only [grdT]
  rw [bndO_s _ e1]
  show bnd k _ = _
  rw [bnd_d, bndO_s _ e2]
  show bnd b _ = _
  rw [bnd_d]
  exact tail_I e3 e4
theorem lc_setLens (hF : 3000 ≤ F) (hI : Inv P M) (hs : scIn L9 i) : LGoes (fun rec => bk_L_law_1006_23 F L9 xs9 rec (nI i) M) i := by
  obtain ⟨h1, h2, h3, h4, h5, h6⟩ := hs
  obtain ⟨k, M1, b, M2, P', e1, e2, e3, e4, e5⟩ := op_setLens (F := F) hF hI (xs9 (nI i + (1 : Int32)).toNatClampNeg) (xs9 (nI i + (2 : Int32)).toNatClampNeg)
  refine ⟨M2, P', fun rec => ?_, e5⟩
  show bk_L_law_1006_23 F L9 xs9 rec (nI i) M = _
  unfold bk_L_law_1006_23
  rw [h1, h2]
  simp only [grdT]
  rw [bndO_s _ e1]
  show bnd k _ = _
  rw [bnd_d, bndO_s _ e2]
  show bnd b _ = _
  rw [bnd_d]
  exact tail_I e3 e4
theorem lc_setBackground (hF : 3000 ≤ F) (hI : Inv P M) (hs : scIn L9 i) : LGoes (fun rec => bk_L_law_1074_23 F L9 xs9 rec (nI i) M) i := by
  obtain ⟨h1, h2, h3, h4, h5, h6⟩ := hs
  obtain ⟨k, M1, b, M2, P', e1, e2, e3, e4, e5⟩ := op_setBackground (F := F) hI (xs9 (nI i + (1 : Int32)).toNatClampNeg)
  refine ⟨M2, P', fun rec => ?_, e5⟩
  show bk_L_law_1074_23 F L9 xs9 rec (nI i) M = _
  unfold bk_L_law_1074_23
  rw [h1]
  simp only [grdT]
  rw [bndO_s _ e1]
  show bnd k _ = _
  rw [bnd_d, bndO_s _ e2]
  show bnd b _ = _
  rw [bnd_d]
  exact tail_I e3 e4
theorem lc_corners (hF : 3000 ≤ F) (hI : Inv P M) (hs : scIn L9 i) : LGoes (fun rec => bk_L_law_1130_23 F L9 xs9 rec (nI i) M) i := by
  obtain ⟨h1, h2, h3, h4, h5, h6⟩ := hs
  obtain ⟨v, M1, M2, P', e1, e2, e5⟩ := op_corners (F := F) hI
  refine ⟨M2, P', fun rec => ?_, e5⟩
  have e3 : M = M1 := congrArg Prod.snd (Option.some.inj e1)
  have e4 : f_X10_corners M = v := congrArg Prod.fst (Option.some.inj e1)
  subst e3
  show bk_L_law_1130_23 F L9 xs9 rec (nI i) M = _
  unfold bk_L_law_1130_23
  rw [bndO_s _ e2]
  show (if f_X10_corners M = v then _ else _) = _
  rw [if_pos e4, bnd_d]
theorem lc_panes (hF : 3000 ≤ F) (hI : Inv P M) (hs : scIn L9 i) : LGoes (fun rec => bk_L_law_1143_23 F L9 xs9 rec (nI i) M) i := by
  obtain ⟨h1, h2, h3, h4, h5, h6⟩ := hs
  obtain ⟨v, M1, M2, P', e1, e2, e5⟩ := op_panes (F := F) hI
  refine ⟨M2, P', fun rec => ?_, e5⟩
  have e3 : M = M1 := congrArg Prod.snd (Option.some.inj e1)
  have e4 : f_X10_panes M = v := congrArg Prod.fst (Option.some.inj e1)
  subst e3
  show bk_L_law_1143_23 F L9 xs9 rec (nI i) M = _
  unfold bk_L_law_1143_23
  rw [bndO_s _ e2]
  show (if f_X10_panes M = v then _ else _) = _
  rw [if_pos e4, bnd_d]
theorem lc_seen (hF : 3000 ≤ F) (hI : Inv P M) (hs : scIn L9 i) : LGoes (fun rec => bk_L_law_1156_23 F L9 xs9 rec (nI i) M) i := by
  obtain ⟨h1, h2, h3, h4, h5, h6⟩ := hs
  obtain ⟨k, M1, b, M2, P', e1, e2, e3, e4, e5⟩ := op_seen (F := F) hF hI (xs9 (nI i + (1 : Int32)).toNatClampNeg) (xs9 (nI i + (2 : Int32)).toNatClampNeg)
  refine ⟨M2, P', fun rec => ?_, e5⟩
  show bk_L_law_1156_23 F L9 xs9 rec (nI i) M = _
  unfold bk_L_law_1156_23
  rw [h1, h2]
  simp only [grdT]
  rw [bndO_s _ e1]
  show bnd k _ = _
  rw [bnd_d, bndO_s _ e2]
  show bnd b _ = _
  rw [bnd_d]
  exact tail_I e3 e4
theorem lc_polygonOf (hF : 3000 ≤ F) (hI : Inv P M) (hs : scIn L9 i) : LGoes (fun rec => bk_L_law_1224_23 F L9 xs9 rec (nI i) M) i := by
  obtain ⟨h1, h2, h3, h4, h5, h6⟩ := hs
  obtain ⟨k, M1, b, M2, P', e1, e2, e3, e4, e5⟩ := op_polygonOf (F := F) hF hI (xs9 (nI i + (1 : Int32)).toNatClampNeg)
  refine ⟨M2, P', fun rec => ?_, e5⟩
  show bk_L_law_1224_23 F L9 xs9 rec (nI i) M = _
  unfold bk_L_law_1224_23
  rw [h1]
  simp only [grdT]
  rw [bndO_s _ e1]
  show bnd k _ = _
  rw [bnd_d, bndO_s _ e2]
  show bnd b _ = _
  rw [bnd_d]
  exact tail_I e3 e4
theorem lc_cornerOf (hF : 3000 ≤ F) (hI : Inv P M) (hs : scIn L9 i) : LGoes (fun rec => bk_L_law_1280_23 F L9 xs9 rec (nI i) M) i := by
  obtain ⟨h1, h2, h3, h4, h5, h6⟩ := hs
  obtain ⟨k, M1, b, M2, P', e1, e2, e3, e4, e5⟩ := op_cornerOf (F := F) hF hI (xs9 (nI i + (1 : Int32)).toNatClampNeg) (xs9 (nI i + (2 : Int32)).toNatClampNeg) (xs9 (nI i + (3 : Int32)).toNatClampNeg)
  refine ⟨M2, P', fun rec => ?_, e5⟩
  show bk_L_law_1280_23 F L9 xs9 rec (nI i) M = _
  unfold bk_L_law_1280_23
  rw [h1, h2, h3]
  simp only [grdT]
  rw [bndO_s _ e1]
  show bnd k _ = _
  rw [bnd_d, bndO_s _ e2]
  show bnd b _ = _
  rw [bnd_d]
  exact tail_I e3 e4
theorem lc_screenOf (hF : 3000 ≤ F) (hI : Inv P M) (hs : scIn L9 i) : LGoes (fun rec => bk_L_law_1360_23 F L9 xs9 rec (nI i) M) i := by
  obtain ⟨h1, h2, h3, h4, h5, h6⟩ := hs
  obtain ⟨k, M1, b, M2, P', e1, e2, e3, e4, e5⟩ := op_screenOf (F := F) hF hI (xs9 (nI i + (1 : Int32)).toNatClampNeg) (xs9 (nI i + (2 : Int32)).toNatClampNeg) (xs9 (nI i + (3 : Int32)).toNatClampNeg)
  refine ⟨M2, P', fun rec => ?_, e5⟩
  show bk_L_law_1360_23 F L9 xs9 rec (nI i) M = _
  unfold bk_L_law_1360_23
  rw [h1, h2, h3]
  simp only [grdT]
  rw [bndO_s _ e1]
  show bnd k _ = _
  rw [bnd_d, bndO_s _ e2]
  show bnd b _ = _
  rw [bnd_d]
  exact tail_I e3 e4
theorem lc_piecesOf (hF : 3000 ≤ F) (hI : Inv P M) (hs : scIn L9 i) : LGoes (fun rec => bk_L_law_1440_23 F L9 xs9 rec (nI i) M) i := by
  obtain ⟨h1, h2, h3, h4, h5, h6⟩ := hs
  obtain ⟨k, M1, b, M2, P', e1, e2, e3, e4, e5⟩ := op_piecesOf (F := F) hF hI (xs9 (nI i + (1 : Int32)).toNatClampNeg)
  refine ⟨M2, P', fun rec => ?_, e5⟩
  show bk_L_law_1440_23 F L9 xs9 rec (nI i) M = _
  unfold bk_L_law_1440_23
  rw [h1]
  simp only [grdT]
  rw [bndO_s _ e1]
  show bnd k _ = _
  rw [bnd_d, bndO_s _ e2]
  show bnd b _ = _
  rw [bnd_d]
  exact tail_I e3 e4
theorem lc_pointsOf (hF : 3000 ≤ F) (hI : Inv P M) (hs : scIn L9 i) : LGoes (fun rec => bk_L_law_1496_23 F L9 xs9 rec (nI i) M) i := by
  obtain ⟨h1, h2, h3, h4, h5, h6⟩ := hs
  obtain ⟨k, M1, b, M2, P', e1, e2, e3, e4, e5⟩ := op_pointsOf (F := F) hF hI (xs9 (nI i + (1 : Int32)).toNatClampNeg)
  refine ⟨M2, P', fun rec => ?_, e5⟩
  show bk_L_law_1496_23 F L9 xs9 rec (nI i) M = _
  unfold bk_L_law_1496_23
  rw [h1]
  simp only [grdT]
  rw [bndO_s _ e1]
  show bnd k _ = _
  rw [bnd_d, bndO_s _ e2]
  show bnd b _ = _
  rw [bnd_d]
  exact tail_I e3 e4
theorem lc_liesIn (hF : 3000 ≤ F) (hI : Inv P M) (hs : scIn L9 i) : LGoes (fun rec => bk_L_law_1552_23 F L9 xs9 rec (nI i) M) i := by
  obtain ⟨h1, h2, h3, h4, h5, h6⟩ := hs
  obtain ⟨k, M1, b, M2, P', e1, e2, e3, e4, e5⟩ := op_liesIn (F := F) hF hI (xs9 (nI i + (1 : Int32)).toNatClampNeg) (xs9 (nI i + (2 : Int32)).toNatClampNeg) (xs9 (nI i + (3 : Int32)).toNatClampNeg)
  refine ⟨M2, P', fun rec => ?_, e5⟩
  show bk_L_law_1552_23 F L9 xs9 rec (nI i) M = _
  unfold bk_L_law_1552_23
  rw [h1, h2, h3]
  simp only [grdT]
  rw [bndO_s _ e1]
  show bnd k _ = _
  rw [bnd_d, bndO_s _ e2]
  show bnd b _ = _
  rw [bnd_d]
  exact tail_B e3 e4
theorem lc_depthOf (hF : 3000 ≤ F) (hI : Inv P M) (hs : scIn L9 i) : LGoes (fun rec => bk_L_law_1639_23 F L9 xs9 rec (nI i) M) i := by
  obtain ⟨h1, h2, h3, h4, h5, h6⟩ := hs
  obtain ⟨k, M1, b, M2, P', e1, e2, e3, e4, e5⟩ := op_depthOf (F := F) hF hI (xs9 (nI i + (1 : Int32)).toNatClampNeg) (xs9 (nI i + (2 : Int32)).toNatClampNeg) (xs9 (nI i + (3 : Int32)).toNatClampNeg)
  refine ⟨M2, P', fun rec => ?_, e5⟩
  show bk_L_law_1639_23 F L9 xs9 rec (nI i) M = _
  unfold bk_L_law_1639_23
  rw [h1, h2, h3]
  simp only [grdT]
  rw [bndO_s _ e1]
  show bnd k _ = _
  rw [bnd_d, bndO_s _ e2]
  show bnd b _ = _
  rw [bnd_d]
  exact tail_I e3 e4
theorem lc_colourOf (hF : 3000 ≤ F) (hI : Inv P M) (hs : scIn L9 i) : LGoes (fun rec => bk_L_law_1719_23 F L9 xs9 rec (nI i) M) i := by
  obtain ⟨h1, h2, h3, h4, h5, h6⟩ := hs
  obtain ⟨k, M1, b, M2, P', e1, e2, e3, e4, e5⟩ := op_colourOf (F := F) hF hI (xs9 (nI i + (1 : Int32)).toNatClampNeg) (xs9 (nI i + (2 : Int32)).toNatClampNeg) (xs9 (nI i + (3 : Int32)).toNatClampNeg)
  refine ⟨M2, P', fun rec => ?_, e5⟩
  show bk_L_law_1719_23 F L9 xs9 rec (nI i) M = _
  unfold bk_L_law_1719_23
  rw [h1, h2, h3]
  simp only [grdT]
  rw [bndO_s _ e1]
  show bnd k _ = _
  rw [bnd_d, bndO_s _ e2]
  show bnd b _ = _
  rw [bnd_d]
  exact tail_I e3 e4
theorem lc_clear (hF : 3000 ≤ F) (hI : Inv P M) (hs : scIn L9 i) : LGoes (fun rec => bk_L_law_1799_23 F L9 xs9 rec (nI i) M) i := by
  obtain ⟨h1, h2, h3, h4, h5, h6⟩ := hs
  obtain ⟨v, M1, M2, P', e1, e2, e5⟩ := op_clear (F := F) hF hI
  refine ⟨M2, P', fun rec => ?_, e5⟩
  show bk_L_law_1799_23 F L9 xs9 rec (nI i) M = _
  unfold bk_L_law_1799_23
  rw [bndO_s _ e1]
  show bndO (f_X11_clear F M1) _ = _
  rw [bndO_s _ e2]
  show (if v = v then _ else _) = _
  rw [if_pos rfl, bnd_d]
theorem lc_paint (hF : 3000 ≤ F) (hI : Inv P M) (hs : scIn L9 i) : LGoes (fun rec => bk_L_law_1812_23 F L9 xs9 rec (nI i) M) i := by
  obtain ⟨h1, h2, h3, h4, h5, h6⟩ := hs
  obtain ⟨v, M1, M2, P', e1, e2, e5⟩ := op_paint (F := F) hF hI
  refine ⟨M2, P', fun rec => ?_, e5⟩
  show bk_L_law_1812_23 F L9 xs9 rec (nI i) M = _
  unfold bk_L_law_1812_23
  rw [bndO_s _ e1]
  show bndO (f_X11_paint F M1) _ = _
  rw [bndO_s _ e2]
  show (if v = v then _ else _) = _
  rw [if_pos rfl, bnd_d]
theorem lc_stale (hF : 3000 ≤ F) (hI : Inv P M) (hs : scIn L9 i) : LGoes (fun rec => bk_L_law_1825_23 F L9 xs9 rec (nI i) M) i := by
  obtain ⟨h1, h2, h3, h4, h5, h6⟩ := hs
  obtain ⟨v, M1, M2, P', e1, e2, e5⟩ := op_stale (F := F) hF hI
  refine ⟨M2, P', fun rec => ?_, e5⟩
  show bk_L_law_1825_23 F L9 xs9 rec (nI i) M = _
  unfold bk_L_law_1825_23
  rw [bndO_s _ e1]
  show bndO (f_X11_stale F M1) _ = _
  rw [bndO_s _ e2]
  show (if v = v then _ else _) = _
  rw [if_pos rfl, bnd_d]
theorem lc_isStale (hF : 3000 ≤ F) (hI : Inv P M) (hs : scIn L9 i) : LGoes (fun rec => bk_L_law_1838_23 F L9 xs9 rec (nI i) M) i := by
  obtain ⟨h1, h2, h3, h4, h5, h6⟩ := hs
  obtain ⟨k, M1, b, M2, P', e1, e2, e3, e4, e5⟩ := op_isStale (F := F) hF hI (xs9 (nI i + (1 : Int32)).toNatClampNeg)
  refine ⟨M2, P', fun rec => ?_, e5⟩
  show bk_L_law_1838_23 F L9 xs9 rec (nI i) M = _
  unfold bk_L_law_1838_23
  rw [h1]
  simp only [grdT]
  rw [bndO_s _ e1]
  show bnd k _ = _
  rw [bnd_d, bndO_s _ e2]
  show bnd b _ = _
  rw [bnd_d]
  exact tail_B e3 e4
theorem lc_colourAt (hF : 3000 ≤ F) (hI : Inv P M) (hs : scIn L9 i) : LGoes (fun rec => bk_L_law_1901_23 F L9 xs9 rec (nI i) M) i := by
  obtain ⟨h1, h2, h3, h4, h5, h6⟩ := hs
  obtain ⟨k, M1, b, M2, P', e1, e2, e3, e4, e5⟩ := op_colourAt (F := F) hI (xs9 (nI i + (1 : Int32)).toNatClampNeg) (xs9 (nI i + (2 : Int32)).toNatClampNeg)
  refine ⟨M2, P', fun rec => ?_, e5⟩
  show bk_L_law_1901_23 F L9 xs9 rec (nI i) M = _
  unfold bk_L_law_1901_23
  rw [h1, h2]
  simp only [grdT]
  rw [bndO_s _ e1]
  show bnd k _ = _
  rw [bnd_d, bndO_s _ e2]
  show bnd b _ = _
  rw [bnd_d]
  exact tail_I e3 e4
theorem lc_depthAt (hF : 3000 ≤ F) (hI : Inv P M) (hs : scIn L9 i) : LGoes (fun rec => bk_L_law_1969_23 F L9 xs9 rec (nI i) M) i := by
  obtain ⟨h1, h2, h3, h4, h5, h6⟩ := hs
  obtain ⟨k, M1, b, M2, P', e1, e2, e3, e4, e5⟩ := op_depthAt (F := F) hI (xs9 (nI i + (1 : Int32)).toNatClampNeg) (xs9 (nI i + (2 : Int32)).toNatClampNeg)
  refine ⟨M2, P', fun rec => ?_, e5⟩
  show bk_L_law_1969_23 F L9 xs9 rec (nI i) M = _
  unfold bk_L_law_1969_23
  rw [h1, h2]
  simp only [grdT]
  rw [bndO_s _ e1]
  show bnd k _ = _
  rw [bnd_d, bndO_s _ e2]
  show bnd b _ = _
  rw [bnd_d]
  exact tail_I e3 e4
theorem lc_paneAt (hF : 3000 ≤ F) (hI : Inv P M) (hs : scIn L9 i) : LGoes (fun rec => bk_L_law_2037_23 F L9 xs9 rec (nI i) M) i := by
  obtain ⟨h1, h2, h3, h4, h5, h6⟩ := hs
  obtain ⟨k, M1, b, M2, P', e1, e2, e3, e4, e5⟩ := op_paneAt (F := F) hI (xs9 (nI i + (1 : Int32)).toNatClampNeg) (xs9 (nI i + (2 : Int32)).toNatClampNeg)
  refine ⟨M2, P', fun rec => ?_, e5⟩
  show bk_L_law_2037_23 F L9 xs9 rec (nI i) M = _
  unfold bk_L_law_2037_23
  rw [h1, h2]
  simp only [grdT]
  rw [bndO_s _ e1]
  show bnd k _ = _
  rw [bnd_d, bndO_s _ e2]
  show bnd b _ = _
  rw [bnd_d]
  exact tail_I e3 e4
theorem lc_pointsWith (hF : 3000 ≤ F) (hI : Inv P M) (hs : scIn L9 i) : LGoes (fun rec => bk_L_law_2105_23 F L9 xs9 rec (nI i) M) i := by
  obtain ⟨h1, h2, h3, h4, h5, h6⟩ := hs
  obtain ⟨k, M1, b, M2, P', e1, e2, e3, e4, e5⟩ := op_pointsWith (F := F) hF hI (xs9 (nI i + (1 : Int32)).toNatClampNeg)
  refine ⟨M2, P', fun rec => ?_, e5⟩
  show bk_L_law_2105_23 F L9 xs9 rec (nI i) M = _
  unfold bk_L_law_2105_23
  rw [h1]
  simp only [grdT]
  rw [bndO_s _ e1]
  show bnd k _ = _
  rw [bnd_d, bndO_s _ e2]
  show bnd b _ = _
  rw [bnd_d]
  exact tail_I e3 e4
theorem lc_colours (hF : 3000 ≤ F) (hI : Inv P M) (hs : scIn L9 i) : LGoes (fun rec => bk_L_law_2161_23 F L9 xs9 rec (nI i) M) i := by
  obtain ⟨h1, h2, h3, h4, h5, h6⟩ := hs
  obtain ⟨v, M1, M2, P', e1, e2, e5⟩ := op_colours (F := F) hF hI
  refine ⟨M2, P', fun rec => ?_, e5⟩
  show bk_L_law_2161_23 F L9 xs9 rec (nI i) M = _
  unfold bk_L_law_2161_23
  rw [bndO_s _ e1]
  show bndO (f_X11_colours F M1) _ = _
  rw [bndO_s _ e2]
  show (if v = v then _ else _) = _
  rw [if_pos rfl, bnd_d]
theorem lc_colourNow (hF : 3000 ≤ F) (hI : Inv P M) (hs : scIn L9 i) : LGoes (fun rec => bk_L_law_2174_23 F L9 xs9 rec (nI i) M) i := by
  obtain ⟨h1, h2, h3, h4, h5, h6⟩ := hs
  obtain ⟨k, M1, b, M2, P', e1, e2, e3, e4, e5⟩ := op_colourNow (F := F) hF hI (xs9 (nI i + (1 : Int32)).toNatClampNeg) (xs9 (nI i + (2 : Int32)).toNatClampNeg)
  refine ⟨M2, P', fun rec => ?_, e5⟩
  show bk_L_law_2174_23 F L9 xs9 rec (nI i) M = _
  unfold bk_L_law_2174_23
  rw [h1, h2]
  simp only [grdT]
  rw [bndO_s _ e1]
  show bnd k _ = _
  rw [bnd_d, bndO_s _ e2]
  show bnd b _ = _
  rw [bnd_d]
  exact tail_I e3 e4
theorem lc_seenOf (hF : 3000 ≤ F) (hI : Inv P M) (hs : scIn L9 i) : LGoes (fun rec => bk_L_law_2242_23 F L9 xs9 rec (nI i) M) i := by
  obtain ⟨h1, h2, h3, h4, h5, h6⟩ := hs
  obtain ⟨k, M1, b, M2, P', e1, e2, e3, e4, e5⟩ := op_seenOf (F := F) hF hI (xs9 (nI i + (1 : Int32)).toNatClampNeg)
  refine ⟨M2, P', fun rec => ?_, e5⟩
  show bk_L_law_2242_23 F L9 xs9 rec (nI i) M = _
  unfold bk_L_law_2242_23
  rw [h1]
  simp only [grdT]
  rw [bndO_s _ e1]
  show bnd k _ = _
  rw [bnd_d, bndO_s _ e2]
  show bnd b _ = _
  rw [bnd_d]
  exact tail_I e3 e4
theorem lc_greatest (hF : 3000 ≤ F) (hI : Inv P M) (hs : scIn L9 i) : LGoes (fun rec => bk_L_law_2298_23 F L9 xs9 rec (nI i) M) i := by
  obtain ⟨h1, h2, h3, h4, h5, h6⟩ := hs
  obtain ⟨v, M1, M2, P', e1, e2, e5⟩ := op_greatest (F := F) hF hI
  refine ⟨M2, P', fun rec => ?_, e5⟩
  show bk_L_law_2298_23 F L9 xs9 rec (nI i) M = _
  unfold bk_L_law_2298_23
  rw [bndO_s _ e1]
  show bndO (f_X11_greatest F M1) _ = _
  rw [bndO_s _ e2]
  show (if v = v then _ else _) = _
  rw [if_pos rfl, bnd_d]
theorem lc_glassAt (hF : 3000 ≤ F) (hI : Inv P M) (hs : scIn L9 i) : LGoes (fun rec => bk_L_law_2311_23 F L9 xs9 rec (nI i) M) i := by
  obtain ⟨h1, h2, h3, h4, h5, h6⟩ := hs
  obtain ⟨k, M1, b, M2, P', e1, e2, e3, e4, e5⟩ := op_glassAt (F := F) hF hI (xs9 (nI i + (1 : Int32)).toNatClampNeg) (xs9 (nI i + (2 : Int32)).toNatClampNeg)
  refine ⟨M2, P', fun rec => ?_, e5⟩
  show bk_L_law_2311_23 F L9 xs9 rec (nI i) M = _
  unfold bk_L_law_2311_23
  rw [h1, h2]
  simp only [grdT]
  rw [bndO_s _ e1]
  show bnd k _ = _
  rw [bnd_d, bndO_s _ e2]
  show bnd b _ = _
  rw [bnd_d]
  exact tail_I e3 e4
theorem lc_brightness (hF : 3000 ≤ F) (hI : Inv P M) (hs : scIn L9 i) : LGoes (fun rec => bk_L_law_2379_23 F L9 xs9 rec (nI i) M) i := by
  obtain ⟨h1, h2, h3, h4, h5, h6⟩ := hs
  obtain ⟨y, M2, e1, e2, e5⟩ := op_brightness (F := F) hF hI
  refine ⟨M2, P, fun rec => ?_, e5⟩
  show bk_L_law_2379_23 F L9 xs9 rec (nI i) M = _
  unfold bk_L_law_2379_23
  rw [bndO_s _ e1, bnd_d, bndO_s _ e2]
  show bnd y _ = _
  rw [bnd_d, bnd_d]
  by_cases c : Op.cmpValue (FP.dcmp y y) CmpOp.l = 0
  · rw [if_pos c]
  · rw [if_neg c, if_neg c, if_neg c]
theorem lc_digest (hF : 3000 ≤ F) (hI : Inv P M) (hs : scIn L9 i) : LGoes (fun rec => bk_L_law_2420_23 F L9 xs9 rec (nI i) M) i := by
  obtain ⟨h1, h2, h3, h4, h5, h6⟩ := hs
  obtain ⟨w, M1, M2, e1, e2, e5⟩ := op_digest (F := F) hF hI
  refine ⟨M2, P, fun rec => ?_, e5⟩
  show bk_L_law_2420_23 F L9 xs9 rec (nI i) M = _
  unfold bk_L_law_2420_23
  rw [bndT_r _ _ e1]
  show bndO (f_X11_digest F M1) _ = _
  rw [bndO_s _ e2]
  show (if lg_cmp w w = 0 then _ else _) = _
  rw [if_pos ((lg_cmp_eq _ _).mpr rfl), bnd_d]
end
