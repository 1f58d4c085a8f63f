/-! PURE PART: corners of a polygon, asked for -/
theorem at_some {α : Type} {l : List α} {j : Nat} (h : j < l.length) : ∃ v, l[j]? = some v := ⟨_, List.getElem?_eq_getElem h⟩
theorem len_in {n : Nat} {a : Int32} (hn : n ≤ 4) (h : inR a 0 ((n : Int) - 1)) : ∃ k, a = nI k ∧ k < n ∧ k < 4 := by
  obtain ⟨k, e, hk⟩ := in_nat h
  exact ⟨k, e, hk, by omega⟩
theorem len_m1 {M : GM} {g k n : Nat} (h : gI M g k = nI n) (hn : n ≤ 4) : (gI M g k - 1).toInt = (n : Int) - 1 := by rw [h]; exact a_sub (n_int (by omega)) tv_1 (by omega) (by omega)
def sCor (v : V) (w : Nat) : Int := if w = 5 then sMix (v 5) (v 6) (v 7) else v w
theorem c_reqSpot {P : PM} {M : GM} {p : Nat} (hS : cShape P M p) (F : Nat) (a : Int32) : f_X10_requireSpot F a M = if inR a 0 (((sPane P p).length : Int) - 1) then some (.inr ()) else some (.inl 3) := by
  unfold f_X10_requireSpot
  rw [w_in a tv_0 (len_m1 hS.1 (sPane_len P p)), one_if]
theorem op_cornerOf {P : PM} {M : GM} {F : Nat} (hF : 3000 ≤ F) (hI : Inv P M) (a b c : Int32) : Both WI (f_L_cornerOf F a b c M) (f_X11_cornerOf F a b c) := by
  obtain ⟨⟨hO, hD⟩, hC, hR⟩ := id hI
  by_cases h1 : inR a 0 ((sN P : Int) - 1)
  rotate_left
  · refine op_fail (c := 1) hI (by unfold f_L_cornerOf f_X10_cornerOf; rw [c_reqPane hO hC.1, if_neg h1]; rfl) (by omega) hC (fun _ _ _ => rfl) fun M1 hR1 => rEnd_no hR1 (by omega) ?_
    unfold f_X11_cornerOf; rw [bnd_d, r_isPane hO (RV_thr hR1 _), one_if, if_neg h1]; rfl
  have h1' := h1
  obtain ⟨p, rfl, hp, p30⟩ := pane_in hO h1
  obtain ⟨M', e, s, f, -⟩ := c_formShape (F := F) hF hO hC.1 p30
  have q := cQ.fs hC f
  have len4 := sPane_len P p
  have lm : (nI (sPane P p).length - 1).toInt = ((sPane P p).length : Int) - 1 := a_sub (n_int (by omega)) tv_1 (by omega) (by omega)
  by_cases h2 : inR b 0 (((sPane P p).length : Int) - 1)
  rotate_left
  · refine op_fail (c := 1) (M' := M') hI (by unfold f_L_cornerOf f_X10_cornerOf; rw [c_reqPane hO hC.1, if_pos h1', bndTr, bndO_s _ e, c_reqSpot s, if_neg h2]; rfl) (by omega) q.1 q.2 fun M1 hR1 => ?_
    obtain ⟨M2, e2, y2, q2⟩ := rq_sidesOf (F := F) hF hO (RV_thr hR1 0) p30
    refine rQ.no (M' := M2) (by omega) ?_ q2
    unfold f_X11_cornerOf; rw [bnd_d, r_isPane hO (RV_thr hR1 _), one_if, if_pos h1', bndO_s _ e2]
    show (if f_X11_isIn b 0 (nI (sPane P p).length - 1) = 0 then _ else _) = _
    rw [w_in' b tv_0 lm, one_if, if_neg h2]; rfl
  by_cases h3 : inR c 0 5
  rotate_left
  · refine op_fail (c := 1) (M' := M') hI (by unfold f_L_cornerOf f_X10_cornerOf; rw [c_reqPane hO hC.1, if_pos h1', bndTr, bndO_s _ e, c_reqSpot s, if_pos h2, bndTr, w_in c tv_0 tv_5, one_if, if_neg h3]; rfl) (by omega) q.1 q.2 fun M1 hR1 => ?_
    obtain ⟨M2, e2, y2, q2⟩ := rq_sidesOf (F := F) hF hO (RV_thr hR1 0) p30
    refine rQ.no (M' := M2) (by omega) ?_ q2
    unfold f_X11_cornerOf; rw [bnd_d, r_isPane hO (RV_thr hR1 _), one_if, if_pos h1', bndO_s _ e2]
    show (if f_X11_isIn b 0 (nI (sPane P p).length - 1) = 0 then _ else _) = _
    rw [w_in' b tv_0 lm, one_if, if_pos h2, w_in' c tv_0 tv_5, one_if, if_neg h3]; rfl
  have h2' := h2
  have h3' := h3
  obtain ⟨k, rfl, hk, hk4⟩ := len_in len4 h2
  obtain ⟨w, rfl, hw⟩ := in_nat' h3 (by omega)
  obtain ⟨v, ev⟩ := at_some hk
  have gvv := sPane_at hO ev
  have sp := s.2.1 k v ev
  have r5 := gvv.1.2.2 5 (by omega) (by omega)
  have r6 := gvv.1.2.2 6 (by omega) (by omega)
  have r7 := gvv.1.2.2 7 (by omega) (by omega)
  have w6 : w = 0 ∨ w = 1 ∨ w = 2 ∨ w = 3 ∨ w = 4 ∨ w = 5 := by omega
  have main : ∃ z : Int32, f_L_cornerOf F (nI p) (nI k) (nI w) M = some (0, sL M' 162 0 z.toInt64) ∧ z.toInt = sCor v w := by
    unfold f_L_cornerOf f_X10_cornerOf
    rw [c_reqPane hO hC.1, if_pos h1', bndTr, bndO_s _ e, c_reqSpot s, if_pos h2', bndTr, w_in _ tv_0 tv_5, one_if, if_pos h3', gn_11, grd_t (n_in hk4 (by omega)), bnd_d, n_cl (by omega), gr_11]
    rcases w6 with rfl | rfl | rfl | rfl | rfl | rfl
    · exact ⟨_, rfl, sp.1 0 (by omega)⟩
    · exact ⟨_, rfl, sp.1 1 (by omega)⟩
    · exact ⟨_, rfl, sp.1 2 (by omega)⟩
    · exact ⟨_, rfl, sp.1 3 (by omega)⟩
    · exact ⟨_, rfl, sp.1 4 (by omega)⟩
    · exact ⟨_, rfl, a_mixC (sp.1 5 (by omega)) (sp.1 6 (by omega)) (sp.1 7 (by omega)) r5.1 r5.2 r6.1 r6.2 r7.1 r7.2⟩
  obtain ⟨z, m1, m2⟩ := main
  refine op_ok (w := z) (W := WI) (P' := P) (M' := M') hI m1 hI.1 q.1 q.2 (fun M1 hR1 => ?_)
  obtain ⟨M2, e2, y2, q2⟩ := rq_sidesOf (F := F) hF hO (RV_thr hR1 0) p30
  have yv := y2.2 k v ev
  have gl := gN_145 hk4
  have main2 : ∃ z' : Int32, f_X11_cornerOf F (nI p) (nI k) (nI w) M1 = some (z', M2) ∧ z'.toInt = sCor v w := by
    unfold f_X11_cornerOf
    rw [bnd_d, r_isPane hO (RV_thr hR1 _), one_if, if_pos h1', bndO_s _ e2]
    show ∃ z', (if f_X11_isIn (nI k) 0 (nI (sPane P p).length - 1) = 0 then _ else _) = some (z', M2) ∧ _
    rw [w_in' _ tv_0 lm, one_if, if_pos h2', w_in' _ tv_0 tv_5, one_if, if_pos h3', gn_144, n_in hk4 (by omega), n_cl (show k < 2147483648 by omega), gr_144]
    simp only [grdT, bnd_d]
    rw [gl]
    rcases w6 with rfl | rfl | rfl | rfl | rfl | rfl
    · exact ⟨_, rfl, yv 0 (by omega)⟩
    · exact ⟨_, rfl, yv 1 (by omega)⟩
    · exact ⟨_, rfl, yv 2 (by omega)⟩
    · exact ⟨_, rfl, yv 3 (by omega)⟩
    · exact ⟨_, rfl, yv 4 (by omega)⟩
    · exact ⟨_, rfl, a_mix (yv 5 (by omega)) (yv 6 (by omega)) (yv 7 (by omega)) r5.1 r5.2 r6.1 r6.2 r7.1 r7.2⟩
  obtain ⟨z', b1, b2⟩ := main2
  exact rQ.fin b1 (a_ext (b2.trans m2.symm)) q2
/-- a place on the screen, as it is told -/
def sTold (x : Int) : Int := if x < -30000 then -30001 else if 30000 < x then 30001 else x
theorem tv_30001 : (30001 : Int32).toInt = 30001 := rfl
theorem tv_m30001 : (-30001 : Int32).toInt = -30001 := by decide
theorem c_told {a : Int32} {x : Int} (ha : a.toInt = x) : (f_X10_cutToScreenLimit a).toInt = sTold x := by
  unfold f_X10_cutToScreenLimit sTold
  rw [a_max tv_m30001 (a_min tv_30001 ha)]
  split
  · omega
  · split <;> omega
theorem r_told {a : Int64} {x : Int} (ha : a.toInt = x) : (f_X11_told a).toInt = sTold x := by
  unfold f_X11_told sTold
  have e1 : 0 ≤ lg_cmp a (-30000) ↔ -30000 ≤ x := by rw [lg_cmp_ge]; exact a_le64 (by decide) ha
  have e2 : lg_cmp a 30000 ≤ 0 ↔ x ≤ 30000 := by rw [lg_cmp_le]; exact a_le64 ha (by decide)
  by_cases h1 : -30000 ≤ x
  · rw [if_pos (e1.mpr h1), if_neg (show ¬ x < -30000 by omega)]
    by_cases h2 : x ≤ 30000
    · rw [if_pos (e2.mpr h2), if_neg (show ¬ 30000 < x by omega), a_32 ha (by omega) (by omega)]
    · rw [if_neg (fun h => h2 (e2.mp h)), if_pos (show 30000 < x by omega)]; exact tv_30001
  · rw [if_neg (fun h => h1 (e1.mp h)), if_pos (show x < -30000 by omega)]; exact tv_m30001
/-- what the screen has of a corner -/
def sScr (P : PM) (v : V) (w : Nat) : Int := if w = 0 then sTold (sX (sFoc P) v) else if w = 1 then sTold (sY (sFoc P) v) else if w = 2 then sDp (sNear P) v else sWt v
theorem sScr_0 (P : PM) (v : V) : sScr P v 0 = sTold (sX (sFoc P) v) := by unfold sScr; rw [if_pos rfl]
theorem sScr_1 (P : PM) (v : V) : sScr P v 1 = sTold (sY (sFoc P) v) := by unfold sScr; rw [if_neg (by decide), if_pos rfl]
theorem sScr_2 (P : PM) (v : V) : sScr P v 2 = sDp (sNear P) v := by unfold sScr; rw [if_neg (by decide), if_neg (by decide), if_pos rfl]
theorem sScr_3 (P : PM) (v : V) : sScr P v 3 = sWt v := by unfold sScr; rw [if_neg (by decide), if_neg (by decide), if_neg (by decide)]
theorem cq_screen {P : PM} {M : GM} {F p k w : Nat} {v : V} (hF : 3000 ≤ F) (hO : OK P) (hC : CS P M) (hp : p < sN P) (ev : (sPane P p)[k]? = some v) (hw : w < 4) : ∃ z M', f_X10_screenOf F (nI p) (nI k) (nI w) M = some (.inr (z, M')) ∧ z.toInt = sScr P v w ∧ cQ P M M' := by
  obtain ⟨n1, n2, -, -⟩ := sN_of hO
  obtain ⟨M', e, s, f, -⟩ := c_formShape (F := F) hF hO hC.1 (show p < 30 by omega)
  have len4 := sPane_len P p
  have hk := at_lt ev
  have sp := s.2.1 k v ev
  have main : ∃ z : Int32, f_X10_screenOf F (nI p) (nI k) (nI w) M = some (.inr (z, M')) ∧ z.toInt = sScr P v w := by
    unfold f_X10_screenOf
    rw [c_reqPane hO hC.1, if_pos (in_pane hO hp), bndTr, bndO_s _ e, c_reqSpot s, if_pos (show inR (nI k) 0 _ by unfold inR; rw [n_int (by omega)]; omega), bndTr, w_in _ tv_0 tv_3, one_if, if_pos (show inR (nI w) 0 3 by unfold inR; rw [n_int (by omega)]; omega), gn_11, grd_t (n_in (show k < 4 by omega) (by omega)), bnd_d, n_cl (by omega), gr_11]
    rcases (show w = 0 ∨ w = 1 ∨ w = 2 ∨ w = 3 by omega) with rfl | rfl | rfl | rfl
    · rw [sScr_0, if_pos (show nI 0 = 0 from rfl)]; exact ⟨_, rfl, c_told sp.2.1⟩
    · rw [sScr_1, if_neg (show ¬ nI 1 = 0 by decide), if_pos (show nI 1 = 1 from rfl)]; exact ⟨_, rfl, c_told sp.2.2.1⟩
    · rw [sScr_2, if_neg (show ¬ nI 2 = 0 by decide), if_neg (show ¬ nI 2 = 1 by decide), if_pos (show nI 2 = 2 from rfl)]; exact ⟨_, rfl, sp.2.2.2.1⟩
    · rw [sScr_3, if_neg (show ¬ nI 3 = 0 by decide), if_neg (show ¬ nI 3 = 1 by decide), if_neg (show ¬ nI 3 = 2 by decide)]; exact ⟨_, rfl, sp.2.2.2.2⟩
  obtain ⟨z, m1, m2⟩ := main
  exact ⟨z, M', m1, m2, cQ.fs hC f⟩
theorem rq_onScreen {P : PM} {M : GM} {F k w : Nat} {v : V} (hO : OK P) (hR : RV P M) (hk : k < 4) (hv : ∀ j, j < 8 → (gI M (145 + k) j).toInt = v j) (gvv : gv (sNear P) v) (hw : w < 4) : ∃ z, f_X11_onScreen F (145 + k) (nI w) M = some z ∧ z.toInt = sScr P v w := by
  have gl := gN_145 hk
  have hn : 1 ≤ sNear P := hO.2.1.1
  unfold f_X11_onScreen
  rcases (show w = 0 ∨ w = 1 ∨ w = 2 ∨ w = 3 by omega) with rfl | rfl | rfl | rfl
  · obtain ⟨z, z1, z2⟩ := r_screenX (F := F) hO hR gl hv gvv
    rw [sScr_0, if_pos (show nI 0 = 0 from rfl), bndO_s _ z1]
    exact ⟨_, rfl, r_told z2⟩
  · obtain ⟨z, z1, z2⟩ := r_screenY (F := F) hO hR gl hv gvv
    rw [sScr_1, if_neg (show ¬ nI 1 = 0 by decide), if_pos (show nI 1 = 1 from rfl), bndO_s _ z1]
    exact ⟨_, rfl, r_told z2⟩
  · obtain ⟨z, z1, z2⟩ := r_depthAt (F := F) hO hR gl hv gvv
    have := sDp_in hn gvv
    rw [sScr_2, if_neg (show ¬ nI 2 = 0 by decide), if_neg (show ¬ nI 2 = 1 by decide), if_pos (show nI 2 = 2 from rfl), bndO_s _ z1]
    exact ⟨_, rfl, a_32 z2 (by omega) (by omega)⟩
  · obtain ⟨z, z1, z2⟩ := r_weightOf (F := F) hO gl hv gvv
    have := sWt_in hn gvv
    rw [sScr_3, if_neg (show ¬ nI 3 = 0 by decide), if_neg (show ¬ nI 3 = 1 by decide), if_neg (show ¬ nI 3 = 2 by decide), bndO_s _ z1]
    exact ⟨_, rfl, a_32 z2 (by omega) (by omega)⟩
theorem op_screenOf {P : PM} {M : GM} {F : Nat} (hF : 3000 ≤ F) (hI : Inv P M) (a b c : Int32) : Both WI (f_L_screenOf F a b c M) (f_X11_screenOf F a b c) := by
  obtain ⟨⟨hO, hD⟩, hC, hR⟩ := id hI
  by_cases h1 : inR a 0 ((sN P : Int) - 1)
  rotate_left
  · refine op_fail (c := 1) hI (by unfold f_L_screenOf f_X10_screenOf; rw [c_reqPane hO hC.1, if_neg h1]; rfl) (by omega) hC (fun _ _ _ => rfl) fun M1 hR1 => rEnd_no hR1 (by omega) ?_
    unfold f_X11_screenOf; rw [bnd_d, r_isPane hO (RV_thr hR1 _), one_if, if_neg h1]; rfl
  have h1' := h1
  obtain ⟨p, rfl, hp, p30⟩ := pane_in hO h1
  have len4 := sPane_len P p
  have lm : (nI (sPane P p).length - 1).toInt = ((sPane P p).length : Int) - 1 := a_sub (n_int (by omega)) tv_1 (by omega) (by omega)
  by_cases h2 : inR b 0 (((sPane P p).length : Int) - 1)
  rotate_left
  · obtain ⟨M', e, s, f, -⟩ := c_formShape (F := F) hF hO hC.1 p30
    have q := cQ.fs hC f
    refine op_fail (c := 1) (M' := M') hI (by unfold f_L_screenOf f_X10_screenOf; rw [c_reqPane hO hC.1, if_pos h1', bndTr, bndO_s _ e, c_reqSpot s, if_neg h2]; rfl) (by omega) q.1 q.2 fun M1 hR1 => ?_
    obtain ⟨M2, e2, y2, q2⟩ := rq_sidesOf (F := F) hF hO (RV_thr hR1 0) p30
    refine rQ.no (M' := M2) (by omega) ?_ q2
    unfold f_X11_screenOf; rw [bnd_d, r_isPane hO (RV_thr hR1 _), one_if, if_pos h1', bndO_s _ e2]
    show (if f_X11_isIn b 0 (nI (sPane P p).length - 1) = 0 then _ else _) = _
    rw [w_in' b tv_0 lm, one_if, if_neg h2]; rfl
  by_cases h3 : inR c 0 3
  rotate_left
  · obtain ⟨M', e, s, f, -⟩ := c_formShape (F := F) hF hO hC.1 p30
    have q := cQ.fs hC f
    refine op_fail (c := 1) (M' := M') hI (by unfold f_L_screenOf f_X10_screenOf; rw [c_reqPane hO hC.1, if_pos h1', bndTr, bndO_s _ e, c_reqSpot s, if_pos h2, bndTr, w_in c tv_0 tv_3, one_if, if_neg h3]; rfl) (by omega) q.1 q.2 fun M1 hR1 => ?_
    obtain ⟨M2, e2, y2, q2⟩ := rq_sidesOf (F := F) hF hO (RV_thr hR1 0) p30
    refine rQ.no (M' := M2) (by omega) ?_ q2
    unfold f_X11_screenOf; rw [bnd_d, r_isPane hO (RV_thr hR1 _), one_if, if_pos h1', bndO_s _ e2]
    show (if f_X11_isIn b 0 (nI (sPane P p).length - 1) = 0 then _ else _) = _
    rw [w_in' b tv_0 lm, one_if, if_pos h2, w_in' c tv_0 tv_3, one_if, if_neg h3]; rfl
  have h2' := h2
  have h3' := h3
  obtain ⟨k, rfl, hk, hk4⟩ := len_in len4 h2
  obtain ⟨w, rfl, hw⟩ := in_nat' h3 (by omega)
  obtain ⟨v, ev⟩ := at_some hk
  obtain ⟨z, M', m1, m2, q⟩ := cq_screen (F := F) (w := w) hF hO hC hp ev (by omega)
  refine op_ok (w := z) (W := WI) (P' := P) (M' := M') hI (by unfold f_L_screenOf; rw [bndT_r _ _ m1]; rfl) hI.1 q.1 q.2 (fun M1 hR1 => ?_)
  obtain ⟨M2, e2, y2, q2⟩ := rq_sidesOf (F := F) hF hO (RV_thr hR1 0) p30
  obtain ⟨z', b1, b2⟩ := rq_onScreen (F := F) (w := w) hO q2.1 hk4 (y2.2 k v ev) (sPane_at hO ev) (by omega)
  refine rQ.fin (b := z') (M' := M2) ?_ (a_ext (b2.trans m2.symm)) q2
  unfold f_X11_screenOf
  rw [bnd_d, r_isPane hO (RV_thr hR1 _), one_if, if_pos h1', bndO_s _ e2]
  show (if f_X11_isIn (nI k) 0 (nI (sPane P p).length - 1) = 0 then _ else _) = _
  rw [w_in' _ tv_0 lm, one_if, if_pos h2', w_in' _ tv_0 tv_3, one_if, if_pos h3', gn_144, grd_t (n_in hk4 (by omega)), bnd_d, n_cl (show k < 2147483648 by omega), gr_144, bndO_s _ b1]
