/-! PURE PART: the law's loop answers with its end -/
set_option maxHeartbeats 4000000 in
theorem law_step {P : PM} {M : GM} {F L9 i : Nat} {xs9 : Nat → Int32} (hF : 3000 ≤ F) (hI : Inv P M) (hL : L9 ≤ 3584) (hi : i + 7 ≤ L9) : LGoes (fun rec => st_L_law F L9 xs9 rec (nI i) M) i := by
  have hs := scIn_of hi hL
  have hb : ¬ (Int32.ofNat L9) - (7 : Int32) < nI i := by
    show ¬ nI L9 - (7 : Int32) < nI i
    rw [a_lt (a_sub (n_int (n := L9) (by omega)) tv_7 (by omega) (by omega)) (n_int (n := i) (by omega))]; omega
  have hg : gIn (nI i) L9 = true := n_in (by omega) (by omega)
  generalize hx : (xs9 (nI i).toNatClampNeg) &&& (63 : Int32) = w
  have head : ∀ rec, st_L_law F L9 xs9 rec (nI i) M = (if w = (0 : Int32) then (bk_L_law_200_23 F L9 xs9 rec (nI i) M) else if w = (1 : Int32) then (bk_L_law_318_23 F L9 xs9 rec (nI i) M) else if w = (2 : Int32) then (bk_L_law_410_23 F L9 xs9 rec (nI i) M) else if w = (3 : Int32) then (bk_L_law_478_23 F L9 xs9 rec (nI i) M) else if w = (4 : Int32) then (bk_L_law_628_23 F L9 xs9 rec (nI i) M) else if w = (5 : Int32) then (bk_L_law_719_23 F L9 xs9 rec (nI i) M) else if w = (6 : Int32) then (bk_L_law_811_23 F L9 xs9 rec (nI i) M) else if w = (7 : Int32) then (bk_L_law_902_23 F L9 xs9 rec (nI i) M) else if w = (8 : Int32) then (bk_L_law_1006_23 F L9 xs9 rec (nI i) M) else if w = (9 : Int32) then (bk_L_law_1074_23 F L9 xs9 rec (nI i) M) else if w = (10 : Int32) then (bk_L_law_1130_23 F L9 xs9 rec (nI i) M) else if w = (11 : Int32) then (bk_L_law_1143_23 F L9 xs9 rec (nI i) M) else if w = (12 : Int32) then (bk_L_law_1156_23 F L9 xs9 rec (nI i) M) else if w = (13 : Int32) then (bk_L_law_1224_23 F L9 xs9 rec (nI i) M) else if w = (14 : Int32) then (bk_L_law_1280_23 F L9 xs9 rec (nI i) M) else if w = (15 : Int32) then (bk_L_law_1360_23 F L9 xs9 rec (nI i) M) else if w = (16 : Int32) then (bk_L_law_1440_23 F L9 xs9 rec (nI i) M) else if w = (17 : Int32) then (bk_L_law_1496_23 F L9 xs9 rec (nI i) M) else if w = (18 : Int32) then (bk_L_law_1552_23 F L9 xs9 rec (nI i) M) else if w = (19 : Int32) then (bk_L_law_1639_23 F L9 xs9 rec (nI i) M) else if w = (20 : Int32) then (bk_L_law_1719_23 F L9 xs9 rec (nI i) M) else if w = (21 : Int32) then (bk_L_law_1799_23 F L9 xs9 rec (nI i) M) else if w = (22 : Int32) then (bk_L_law_1812_23 F L9 xs9 rec (nI i) M) else if w = (23 : Int32) then (bk_L_law_1825_23 F L9 xs9 rec (nI i) M) else if w = (24 : Int32) then (bk_L_law_1838_23 F L9 xs9 rec (nI i) M) else if w = (25 : Int32) then (bk_L_law_1901_23 F L9 xs9 rec (nI i) M) else if w = (26 : Int32) then (bk_L_law_1969_23 F L9 xs9 rec (nI i) M) else if w = (27 : Int32) then (bk_L_law_2037_23 F L9 xs9 rec (nI i) M) else if w = (28 : Int32) then (bk_L_law_2105_23 F L9 xs9 rec (nI i) M) else if w = (29 : Int32) then (bk_L_law_2161_23 F L9 xs9 rec (nI i) M) else if w = (30 : Int32) then (bk_L_law_2174_23 F L9 xs9 rec (nI i) M) else if w = (31 : Int32) then (bk_L_law_2242_23 F L9 xs9 rec (nI i) M) else if w = (32 : Int32) then (bk_L_law_2298_23 F L9 xs9 rec (nI i) M) else if w = (33 : Int32) then (bk_L_law_2311_23 F L9 xs9 rec (nI i) M) else if w = (34 : Int32) then (bk_L_law_2379_23 F L9 xs9 rec (nI i) M) else if w = (35 : Int32) then (bk_L_law_2420_23 F L9 xs9 rec (nI i) M) else (bnd (nI i + (7 : Int32)) (fun v671 => rec v671 M))) := fun rec => by
    unfold st_L_law
    rw [if_neg hb, hg, grdT, hx]
  by_cases s0 : w = (0 : Int32)
  · obtain ⟨M2, P', e, h⟩ := lc_addCorner (xs9 := xs9) hF hI hs
    exact ⟨M2, P', fun rec => (head rec).trans (by rw [if_pos s0]; exact e rec), h⟩
  by_cases s1 : w = (1 : Int32)
  · obtain ⟨M2, P', e, h⟩ := lc_moveCorner (xs9 := xs9) hF hI hs
    exact ⟨M2, P', fun rec => (head rec).trans (by rw [if_neg s0, if_pos s1]; exact e rec), h⟩
  by_cases s2 : w = (2 : Int32)
  · obtain ⟨M2, P', e, h⟩ := lc_setColour (xs9 := xs9) hF hI hs
    exact ⟨M2, P', fun rec => (head rec).trans (by rw [if_neg s0, if_neg s1, if_pos s2]; exact e rec), h⟩
  by_cases s3 : w = (3 : Int32)
  · obtain ⟨M2, P', e, h⟩ := lc_addPane (xs9 := xs9) hF hI hs
    exact ⟨M2, P', fun rec => (head rec).trans (by rw [if_neg s0, if_neg s1, if_neg s2, if_pos s3]; exact e rec), h⟩
  by_cases s4 : w = (4 : Int32)
  · obtain ⟨M2, P', e, h⟩ := lc_show (xs9 := xs9) hF hI hs
    exact ⟨M2, P', fun rec => (head rec).trans (by rw [if_neg s0, if_neg s1, if_neg s2, if_neg s3, if_pos s4]; exact e rec), h⟩
  by_cases s5 : w = (5 : Int32)
  · obtain ⟨M2, P', e, h⟩ := lc_setPattern (xs9 := xs9) hF hI hs
    exact ⟨M2, P', fun rec => (head rec).trans (by rw [if_neg s0, if_neg s1, if_neg s2, if_neg s3, if_neg s4, if_pos s5]; exact e rec), h⟩
  by_cases s6 : w = (6 : Int32)
  · obtain ⟨M2, P', e, h⟩ := lc_setRepeats (xs9 := xs9) hF hI hs
    exact ⟨M2, P', fun rec => (head rec).trans (by rw [if_neg s0, if_neg s1, if_neg s2, if_neg s3, if_neg s4, if_neg s5, if_pos s6]; exact e rec), h⟩
  by_cases s7 : w = (7 : Int32)
  · obtain ⟨M2, P', e, h⟩ := lc_setCamera (xs9 := xs9) hF hI hs
    exact ⟨M2, P', fun rec => (head rec).trans (by rw [if_neg s0, if_neg s1, if_neg s2, if_neg s3, if_neg s4, if_neg s5, if_neg s6, if_pos s7]; exact e rec), h⟩
  by_cases s8 : w = (8 : Int32)
  · obtain ⟨M2, P', e, h⟩ := lc_setLens (xs9 := xs9) hF hI hs
    exact ⟨M2, P', fun rec => (head rec).trans (by rw [if_neg s0, if_neg s1, if_neg s2, if_neg s3, if_neg s4, if_neg s5, if_neg s6, if_neg s7, if_pos s8]; exact e rec), h⟩
  by_cases s9 : w = (9 : Int32)
  · obtain ⟨M2, P', e, h⟩ := lc_setBackground (xs9 := xs9) hF hI hs
    exact ⟨M2, P', fun rec => (head rec).trans (by rw [if_neg s0, if_neg s1, if_neg s2, if_neg s3, if_neg s4, if_neg s5, if_neg s6, if_neg s7, if_neg s8, if_pos s9]; exact e rec), h⟩
  by_cases s10 : w = (10 : Int32)
  · obtain ⟨M2, P', e, h⟩ := lc_corners (xs9 := xs9) hF hI hs
    exact ⟨M2, P', fun rec => (head rec).trans (by rw [if_neg s0, if_neg s1, if_neg s2, if_neg s3, if_neg s4, if_neg s5, if_neg s6, if_neg s7, if_neg s8, if_neg s9, if_pos s10]; exact e rec), h⟩
  by_cases s11 : w = (11 : Int32)
  · obtain ⟨M2, P', e, h⟩ := lc_panes (xs9 := xs9) hF hI hs
    exact ⟨M2, P', fun rec => (head rec).trans (by rw [if_neg s0, if_neg s1, if_neg s2, if_neg s3, if_neg s4, if_neg s5, if_neg s6, if_neg s7, if_neg s8, if_neg s9, if_neg s10, if_pos s11]; exact e rec), h⟩
  by_cases s12 : w = (12 : Int32)
  · obtain ⟨M2, P', e, h⟩ := lc_seen (xs9 := xs9) hF hI hs
    exact ⟨M2, P', fun rec => (head rec).trans (by rw [if_neg s0, if_neg s1, if_neg s2, if_neg s3, if_neg s4, if_neg s5, if_neg s6, if_neg s7, if_neg s8, if_neg s9, if_neg s10, if_neg s11, if_pos s12]; exact e rec), h⟩
  by_cases s13 : w = (13 : Int32)
  · obtain ⟨M2, P', e, h⟩ := lc_polygonOf (xs9 := xs9) hF hI hs
    exact ⟨M2, P', fun rec => (head rec).trans (by rw [if_neg s0, if_neg s1, if_neg s2, if_neg s3, if_neg s4, if_neg s5, if_neg s6, if_neg s7, if_neg s8, if_neg s9, if_neg s10, if_neg s11, if_neg s12, if_pos s13]; exact e rec), h⟩
  by_cases s14 : w = (14 : Int32)
  · obtain ⟨M2, P', e, h⟩ := lc_cornerOf (xs9 := xs9) hF hI hs
    exact ⟨M2, P', fun rec => (head rec).trans (by rw [if_neg s0, if_neg s1, if_neg s2, if_neg s3, if_neg s4, if_neg s5, if_neg s6, if_neg s7, if_neg s8, if_neg s9, if_neg s10, if_neg s11, if_neg s12, if_neg s13, if_pos s14]; exact e rec), h⟩
  by_cases s15 : w = (15 : Int32)
  · obtain ⟨M2, P', e, h⟩ := lc_screenOf (xs9 := xs9) hF hI hs
    exact ⟨M2, P', fun rec => (head rec).trans (by rw [if_neg s0, if_neg s1, if_neg s2, if_neg s3, if_neg s4, if_neg s5, if_neg s6, if_neg s7, if_neg s8, if_neg s9, if_neg s10, if_neg s11, if_neg s12, if_neg s13, if_neg s14, if_pos s15]; exact e rec), h⟩
  by_cases s16 : w = (16 : Int32)
  · obtain ⟨M2, P', e, h⟩ := lc_piecesOf (xs9 := xs9) hF hI hs
    exact ⟨M2, P', fun rec => (head rec).trans (by rw [if_neg s0, if_neg s1, if_neg s2, if_neg s3, if_neg s4, if_neg s5, if_neg s6, if_neg s7, if_neg s8, if_neg s9, if_neg s10, if_neg s11, if_neg s12, if_neg s13, if_neg s14, if_neg s15, if_pos s16]; exact e rec), h⟩
  by_cases s17 : w = (17 : Int32)
  · obtain ⟨M2, P', e, h⟩ := lc_pointsOf (xs9 := xs9) hF hI hs
    exact ⟨M2, P', fun rec => (head rec).trans (by rw [if_neg s0, if_neg s1, if_neg s2, if_neg s3, if_neg s4, if_neg s5, if_neg s6, if_neg s7, if_neg s8, if_neg s9, if_neg s10, if_neg s11, if_neg s12, if_neg s13, if_neg s14, if_neg s15, if_neg s16, if_pos s17]; exact e rec), h⟩
  by_cases s18 : w = (18 : Int32)
  · obtain ⟨M2, P', e, h⟩ := lc_liesIn (xs9 := xs9) hF hI hs
    exact ⟨M2, P', fun rec => (head rec).trans (by rw [if_neg s0, if_neg s1, if_neg s2, if_neg s3, if_neg s4, if_neg s5, if_neg s6, if_neg s7, if_neg s8, if_neg s9, if_neg s10, if_neg s11, if_neg s12, if_neg s13, if_neg s14, if_neg s15, if_neg s16, if_neg s17, if_pos s18]; exact e rec), h⟩
  by_cases s19 : w = (19 : Int32)
  · obtain ⟨M2, P', e, h⟩ := lc_depthOf (xs9 := xs9) hF hI hs
    exact ⟨M2, P', fun rec => (head rec).trans (by rw [if_neg s0, if_neg s1, if_neg s2, if_neg s3, if_neg s4, if_neg s5, if_neg s6, if_neg s7, if_neg s8, if_neg s9, if_neg s10, if_neg s11, if_neg s12, if_neg s13, if_neg s14, if_neg s15, if_neg s16, if_neg s17, if_neg s18, if_pos s19]; exact e rec), h⟩
  by_cases s20 : w = (20 : Int32)
  · obtain ⟨M2, P', e, h⟩ := lc_colourOf (xs9 := xs9) hF hI hs
    exact ⟨M2, P', fun rec => (head rec).trans (by rw [if_neg s0, if_neg s1, if_neg s2, if_neg s3, if_neg s4, if_neg s5, if_neg s6, if_neg s7, if_neg s8, if_neg s9, if_neg s10, if_neg s11, if_neg s12, if_neg s13, if_neg s14, if_neg s15, if_neg s16, if_neg s17, if_neg s18, if_neg s19, if_pos s20]; exact e rec), h⟩
  by_cases s21 : w = (21 : Int32)
  · obtain ⟨M2, P', e, h⟩ := lc_clear (xs9 := xs9) hF hI hs
    exact ⟨M2, P', fun rec => (head rec).trans (by rw [if_neg s0, if_neg s1, if_neg s2, if_neg s3, if_neg s4, if_neg s5, if_neg s6, if_neg s7, if_neg s8, if_neg s9, if_neg s10, if_neg s11, if_neg s12, if_neg s13, if_neg s14, if_neg s15, if_neg s16, if_neg s17, if_neg s18, if_neg s19, if_neg s20, if_pos s21]; exact e rec), h⟩
  by_cases s22 : w = (22 : Int32)
  · obtain ⟨M2, P', e, h⟩ := lc_paint (xs9 := xs9) hF hI hs
    exact ⟨M2, P', fun rec => (head rec).trans (by rw [if_neg s0, if_neg s1, if_neg s2, if_neg s3, if_neg s4, if_neg s5, if_neg s6, if_neg s7, if_neg s8, if_neg s9, if_neg s10, if_neg s11, if_neg s12, if_neg s13, if_neg s14, if_neg s15, if_neg s16, if_neg s17, if_neg s18, if_neg s19, if_neg s20, if_neg s21, if_pos s22]; exact e rec), h⟩
  by_cases s23 : w = (23 : Int32)
  · obtain ⟨M2, P', e, h⟩ := lc_stale (xs9 := xs9) hF hI hs
    exact ⟨M2, P', fun rec => (head rec).trans (by rw [if_neg s0, if_neg s1, if_neg s2, if_neg s3, if_neg s4, if_neg s5, if_neg s6, if_neg s7, if_neg s8, if_neg s9, if_neg s10, if_neg s11, if_neg s12, if_neg s13, if_neg s14, if_neg s15, if_neg s16, if_neg s17, if_neg s18, if_neg s19, if_neg s20, if_neg s21, if_neg s22, if_pos s23]; exact e rec), h⟩
  by_cases s24 : w = (24 : Int32)
  · obtain ⟨M2, P', e, h⟩ := lc_isStale (xs9 := xs9) hF hI hs
    exact ⟨M2, P', fun rec => (head rec).trans (by rw [if_neg s0, if_neg s1, if_neg s2, if_neg s3, if_neg s4, if_neg s5, if_neg s6, if_neg s7, if_neg s8, if_neg s9, if_neg s10, if_neg s11, if_neg s12, if_neg s13, if_neg s14, if_neg s15, if_neg s16, if_neg s17, if_neg s18, if_neg s19, if_neg s20, if_neg s21, if_neg s22, if_neg s23, if_pos s24]; exact e rec), h⟩
  by_cases s25 : w = (25 : Int32)
  · obtain ⟨M2, P', e, h⟩ := lc_colourAt (xs9 := xs9) hF hI hs
    exact ⟨M2, P', fun rec => (head rec).trans (by rw [if_neg s0, if_neg s1, if_neg s2, if_neg s3, if_neg s4, if_neg s5, if_neg s6, if_neg s7, if_neg s8, if_neg s9, if_neg s10, if_neg s11, if_neg s12, if_neg s13, if_neg s14, if_neg s15, if_neg s16, if_neg s17, if_neg s18, if_neg s19, if_neg s20, if_neg s21, if_neg s22, if_neg s23, if_neg s24, if_pos s25]; exact e rec), h⟩
  by_cases s26 : w = (26 : Int32)
  · obtain ⟨M2, P', e, h⟩ := lc_depthAt (xs9 := xs9) hF hI hs
    exact ⟨M2, P', fun rec => (head rec).trans (by rw [if_neg s0, if_neg s1, if_neg s2, if_neg s3, if_neg s4, if_neg s5, if_neg s6, if_neg s7, if_neg s8, if_neg s9, if_neg s10, if_neg s11, if_neg s12, if_neg s13, if_neg s14, if_neg s15, if_neg s16, if_neg s17, if_neg s18, if_neg s19, if_neg s20, if_neg s21, if_neg s22, if_neg s23, if_neg s24, if_neg s25, if_pos s26]; exact e rec), h⟩
  by_cases s27 : w = (27 : Int32)
  · obtain ⟨M2, P', e, h⟩ := lc_paneAt (xs9 := xs9) hF hI hs
    exact ⟨M2, P', fun rec => (head rec).trans (by rw [if_neg s0, if_neg s1, if_neg s2, if_neg s3, if_neg s4, if_neg s5, if_neg s6, if_neg s7, if_neg s8, if_neg s9, if_neg s10, if_neg s11, if_neg s12, if_neg s13, if_neg s14, if_neg s15, if_neg s16, if_neg s17, if_neg s18, if_neg s19, if_neg s20, if_neg s21, if_neg s22, if_neg s23, if_neg s24, if_neg s25, if_neg s26, if_pos s27]; exact e rec), h⟩
  by_cases s28 : w = (28 : Int32)
  · obtain ⟨M2, P', e, h⟩ := lc_pointsWith (xs9 := xs9) hF hI hs
    exact ⟨M2, P', fun rec => (head rec).trans (by rw [if_neg s0, if_neg s1, if_neg s2, if_neg s3, if_neg s4, if_neg s5, if_neg s6, if_neg s7, if_neg s8, if_neg s9, if_neg s10, if_neg s11, if_neg s12, if_neg s13, if_neg s14, if_neg s15, if_neg s16, if_neg s17, if_neg s18, if_neg s19, if_neg s20, if_neg s21, if_neg s22, if_neg s23, if_neg s24, if_neg s25, if_neg s26, if_neg s27, if_pos s28]; exact e rec), h⟩
  by_cases s29 : w = (29 : Int32)
  · obtain ⟨M2, P', e, h⟩ := lc_colours (xs9 := xs9) hF hI hs
    exact ⟨M2, P', fun rec => (head rec).trans (by rw [if_neg s0, if_neg s1, if_neg s2, if_neg s3, if_neg s4, if_neg s5, if_neg s6, if_neg s7, if_neg s8, if_neg s9, if_neg s10, if_neg s11, if_neg s12, if_neg s13, if_neg s14, if_neg s15, if_neg s16, if_neg s17, if_neg s18, if_neg s19, if_neg s20, if_neg s21, if_neg s22, if_neg s23, if_neg s24, if_neg s25, if_neg s26, if_neg s27, if_neg s28, if_pos s29]; exact e rec), h⟩
  by_cases s30 : w = (30 : Int32)
  · obtain ⟨M2, P', e, h⟩ := lc_colourNow (xs9 := xs9) hF hI hs
    exact ⟨M2, P', fun rec => (head rec).trans (by rw [if_neg s0, if_neg s1, if_neg s2, if_neg s3, if_neg s4, if_neg s5, if_neg s6, if_neg s7, if_neg s8, if_neg s9, if_neg s10, if_neg s11, if_neg s12, if_neg s13, if_neg s14, if_neg s15, if_neg s16, if_neg s17, if_neg s18, if_neg s19, if_neg s20, if_neg s21, if_neg s22, if_neg s23, if_neg s24, if_neg s25, if_neg s26, if_neg s27, if_neg s28, if_neg s29, if_pos s30]; exact e rec), h⟩
  by_cases s31 : w = (31 : Int32)
  · obtain ⟨M2, P', e, h⟩ := lc_seenOf (xs9 := xs9) hF hI hs
    exact ⟨M2, P', fun rec => (head rec).trans (by rw [if_neg s0, if_neg s1, if_neg s2, if_neg s3, if_neg s4, if_neg s5, if_neg s6, if_neg s7, if_neg s8, if_neg s9, if_neg s10, if_neg s11, if_neg s12, if_neg s13, if_neg s14, if_neg s15, if_neg s16, if_neg s17, if_neg s18, if_neg s19, if_neg s20, if_neg s21, if_neg s22, if_neg s23, if_neg s24, if_neg s25, if_neg s26, if_neg s27, if_neg s28, if_neg s29, if_neg s30, if_pos s31]; exact e rec), h⟩
  by_cases s32 : w = (32 : Int32)
  · obtain ⟨M2, P', e, h⟩ := lc_greatest (xs9 := xs9) hF hI hs
    exact ⟨M2, P', fun rec => (head rec).trans (by rw [if_neg s0, if_neg s1, if_neg s2, if_neg s3, if_neg s4, if_neg s5, if_neg s6, if_neg s7, if_neg s8, if_neg s9, if_neg s10, if_neg s11, if_neg s12, if_neg s13, if_neg s14, if_neg s15, if_neg s16, if_neg s17, if_neg s18, if_neg s19, if_neg s20, if_neg s21, if_neg s22, if_neg s23, if_neg s24, if_neg s25, if_neg s26, if_neg s27, if_neg s28, if_neg s29, if_neg s30, if_neg s31, if_pos s32]; exact e rec), h⟩
  by_cases s33 : w = (33 : Int32)
  · obtain ⟨M2, P', e, h⟩ := lc_glassAt (xs9 := xs9) hF hI hs
    exact ⟨M2, P', fun rec => (head rec).trans (by rw [if_neg s0, if_neg s1, if_neg s2, if_neg s3, if_neg s4, if_neg s5, if_neg s6, if_neg s7, if_neg s8, if_neg s9, if_neg s10, if_neg s11, if_neg s12, if_neg s13, if_neg s14, if_neg s15, if_neg s16, if_neg s17, if_neg s18, if_neg s19, if_neg s20, if_neg s21, if_neg s22, if_neg s23, if_neg s24, if_neg s25, if_neg s26, if_neg s27, if_neg s28, if_neg s29, if_neg s30, if_neg s31, if_neg s32, if_pos s33]; exact e rec), h⟩
  by_cases s34 : w = (34 : Int32)
  · obtain ⟨M2, P', e, h⟩ := lc_brightness (xs9 := xs9) hF hI hs
    exact ⟨M2, P', fun rec => (head rec).trans (by rw [if_neg s0, if_neg s1, if_neg s2, if_neg s3, if_neg s4, if_neg s5, if_neg s6, if_neg s7, if_neg s8, if_neg s9, if_neg s10, if_neg s11, if_neg s12, if_neg s13, if_neg s14, if_neg s15, if_neg s16, if_neg s17, if_neg s18, if_neg s19, if_neg s20, if_neg s21, if_neg s22, if_neg s23, if_neg s24, if_neg s25, if_neg s26, if_neg s27, if_neg s28, if_neg s29, if_neg s30, if_neg s31, if_neg s32, if_neg s33, if_pos s34]; exact e rec), h⟩
  by_cases s35 : w = (35 : Int32)
  · obtain ⟨M2, P', e, h⟩ := lc_digest (xs9 := xs9) hF hI hs
    exact ⟨M2, P', fun rec => (head rec).trans (by rw [if_neg s0, if_neg s1, if_neg s2, if_neg s3, if_neg s4, if_neg s5, if_neg s6, if_neg s7, if_neg s8, if_neg s9, if_neg s10, if_neg s11, if_neg s12, if_neg s13, if_neg s14, if_neg s15, if_neg s16, if_neg s17, if_neg s18, if_neg s19, if_neg s20, if_neg s21, if_neg s22, if_neg s23, if_neg s24, if_neg s25, if_neg s26, if_neg s27, if_neg s28, if_neg s29, if_neg s30, if_neg s31, if_neg s32, if_neg s33, if_neg s34, if_pos s35]; exact e rec), h⟩
  exact ⟨M, P, fun rec => (head rec).trans (by rw [if_neg s0, if_neg s1, if_neg s2, if_neg s3, if_neg s4, if_neg s5, if_neg s6, if_neg s7, if_neg s8, if_neg s9, if_neg s10, if_neg s11, if_neg s12, if_neg s13, if_neg s14, if_neg s15, if_neg s16, if_neg s17, if_neg s18, if_neg s19, if_neg s20, if_neg s21, if_neg s22, if_neg s23, if_neg s24, if_neg s25, if_neg s26, if_neg s27, if_neg s28, if_neg s29, if_neg s30, if_neg s31, if_neg s32, if_neg s33, if_neg s34, if_neg s35, bnd_d]), hI⟩
theorem law_pure {F L9 : Nat} {xs9 : Nat → Int32} (hF : 3000 ≤ F) (hL : L9 ≤ 3584) : ∀ (n i : Nat) (P : PM) (M : GM), Inv P M → i ≤ L9 → L9 < i + 7 * n → ∃ M', lp_L_law F L9 xs9 n (nI i) M = some (.inl M') := by
  intro n
  induction n with
  | zero => intro i P M _ h1 h2; omega
  | succ n ih =>
    intro i P M hI h1 h2
    show ∃ M', st_L_law F L9 xs9 (lp_L_law F L9 xs9 n) (nI i) M = _
    by_cases hi : i + 7 ≤ L9
    · obtain ⟨M2, P', e, h⟩ := law_step (xs9 := xs9) hF hI hL hi
      have e : ∀ rec, st_L_law F L9 xs9 rec (nI i) M = rec (nI i + 7) M2 := e
      rw [e, show nI i + (7 : Int32) = nI (i + 7) from n_a i 7]
      exact ih (i + 7) P' M2 h hi (by omega)
    · refine ⟨M, ?_⟩
      unfold st_L_law
      rw [if_pos]
      show nI L9 - (7 : Int32) < nI i
      rw [a_lt (a_sub (n_int (n := L9) (by omega)) tv_7 (by omega) (by omega)) (n_int (n := i) (by omega))]; omega
