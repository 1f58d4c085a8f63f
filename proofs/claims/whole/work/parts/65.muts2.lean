/-! PURE PART: more calls that set something -/
theorem op_setPattern {P : PM} {M : GM} {F : Nat} (hI : Inv P M) (a b c d : Int32) : Both WI (f_L_setPattern F a b c d M) (f_X11_setPattern F a b c d) := by
  obtain ⟨⟨hO, hD⟩, hC, hR⟩ := id hI
  have rp : f_X11_isInPattern a b c = if inR a 0 3 ∧ inR b 0 7 ∧ inR c 0 7 then 1 else 0 := by
    unfold f_X11_isInPattern
    rw [w_in' a tv_0 tv_3, w_in' b tv_0 tv_7, w_in' c tv_0 tv_7, one_if, one_if, one_if]
    by_cases h1 : inR a 0 3
    · by_cases h2 : inR b 0 7
      · by_cases h3 : inR c 0 7
        · rw [if_pos h1, if_pos h2, if_pos h3, if_pos ⟨h1, h2, h3⟩]
        · rw [if_pos h1, if_pos h2, if_neg h3, if_neg (fun h => h3 h.2.2)]
      · rw [if_pos h1, if_neg h2, if_neg (fun h => h2 h.2.1)]
    · rw [if_neg h1, if_neg (fun h => h1 h.1)]
  by_cases h1 : inR a 0 3
  rotate_left
  · refine op_fail (c := 1) hI (by unfold f_L_setPattern f_X10_setPattern f_X10_requirePattern; rw [w_in a tv_0 tv_3, one_if, if_neg h1]; rfl) (by omega) hC (fun _ _ _ => rfl) fun M1 hR1 => rEnd_no hR1 (by omega) ?_
    unfold f_X11_setPattern; rw [bnd_d, rp, one_if, if_neg (fun h => h1 h.1)]; rfl
  by_cases h2 : inR b 0 7
  rotate_left
  · refine op_fail (c := 1) hI (by unfold f_L_setPattern f_X10_setPattern f_X10_requirePattern; rw [w_in a tv_0 tv_3, one_if, if_pos h1, bndTr, w_in b tv_0 tv_7, one_if, if_neg h2]; rfl) (by omega) hC (fun _ _ _ => rfl) fun M1 hR1 => rEnd_no hR1 (by omega) ?_
    unfold f_X11_setPattern; rw [bnd_d, rp, one_if, if_neg (fun h => h2 h.2.1)]; rfl
  by_cases h3 : inR c 0 7
  rotate_left
  · refine op_fail (c := 1) hI (by unfold f_L_setPattern f_X10_setPattern f_X10_requirePattern; rw [w_in a tv_0 tv_3, one_if, if_pos h1, bndTr, w_in b tv_0 tv_7, one_if, if_pos h2, w_in c tv_0 tv_7, one_if, if_neg h3]; rfl) (by omega) hC (fun _ _ _ => rfl) fun M1 hR1 => rEnd_no hR1 (by omega) ?_
    unfold f_X11_setPattern; rw [bnd_d, rp, one_if, if_neg (fun h => h3 h.2.2)]; rfl
  by_cases h4 : inR d 0 16777215
  rotate_left
  · refine op_fail (c := 2) hI (by unfold f_L_setPattern f_X10_setPattern f_X10_requirePattern; rw [w_in a tv_0 tv_3, one_if, if_pos h1, bndTr, w_in b tv_0 tv_7, one_if, if_pos h2, w_in c tv_0 tv_7, one_if, if_pos h3, c_reqColour, if_neg h4]; rfl) (by omega) hC (fun _ _ _ => rfl) fun M1 hR1 => rEnd_no hR1 (by omega) ?_
    unfold f_X11_setPattern; rw [bnd_d, rp, one_if, if_pos ⟨h1, h2, h3⟩, r_isColour, one_if, if_neg h4]; rfl
  have h1' := h1
  have h2' := h2
  have h3' := h3
  obtain ⟨n, rfl, hn⟩ := in_nat' h1 (by omega)
  obtain ⟨x, rfl, hx⟩ := in_nat' h2 (by omega)
  obtain ⟨y, rfl, hy⟩ := in_nat' h3 (by omega)
  have n4 : n < 4 := by omega
  have gl : gN (114 + 2 * n + 1) = 64 := by rcases (show n = 0 ∨ n = 1 ∨ n = 2 ∨ n = 3 by omega) with rfl | rfl | rfl | rfl <;> decide +kernel
  have e1 : gI M (114 + 2 * n + 1) (y * 8 + x) = P 135 (64 * n + (y * 8 + x)) := by rw [show 114 + 2 * n + 1 = 115 + 2 * n by omega]; exact (hC.1.2.2.2.2.1 n n4).2 _ (by omega)
  refine op_ok (w := P 135 (64 * n + (y * 8 + x))) (W := WI) (P' := u2 P 135 (64 * n + (y * 8 + x)) d) (M' := sI M (114 + 2 * n + 1) (y * 8 + x) d) hI ?_ ⟨OK_set hO (okC_col (by omega) h4), DJ_set hD (by omega) (by omega)⟩ (CS_set hC (cm_tin (by omega) (by omega) (by omega))) (fun g k h => by rw [gI_sI, if_neg (by omega)]) (fun M1 hR1 => ?_)
  · unfold f_L_setPattern f_X10_setPattern f_X10_requirePattern
    rw [w_in _ tv_0 tv_3, one_if, if_pos h1', bndTr, w_in _ tv_0 tv_7, one_if, if_pos h2', w_in _ tv_0 tv_7, one_if, if_pos h3', c_reqColour, if_pos h4, bndTr, gn_3, grd_t (n_in n4 (by omega)), bnd_d, n_cl (by omega), gr_3, i_8, n_m, n_a, bnd_d, gl, n_in (show y * 8 + x < 64 by omega) (by omega), n_cl (by omega), grdT, bnd_d, e1, grdT]
    rfl
  · have hR0 : RV P (sI M1 122 0 0) := RV_thr hR1 _
    have ei : (nI n * 8 + nI y) * 8 + nI x = nI (64 * n + (y * 8 + x)) := by rw [i_8, n_m, n_a, n_m, n_a, show (n * 8 + y) * 8 + x = 64 * n + (y * 8 + x) by omega]
    refine ⟨P 135 (64 * n + (y * 8 + x)), sI (sI M1 122 0 0) 135 (64 * n + (y * 8 + x)) d, ?_, fun _ => rfl, RV_set hR0, fun g k h => by rw [gI_sI, if_neg (by omega), gI_sI, if_neg (by omega)], rfl, by rw [gI_sI, if_neg (by omega), gI_sI, if_pos ⟨rfl, rfl⟩]; rfl⟩
    unfold f_X11_setPattern
    rw [bnd_d, rp, one_if, if_pos ⟨h1', h2', h3'⟩, r_isColour, one_if, if_pos h4, ei, bnd_d, gn_135, n_in (show 64 * n + (y * 8 + x) < 256 by omega) (by omega), n_cl (by omega), grdT, hR0.2 135 _ (by omega) (by omega)]
    rfl
/-- how many corners are in front -/
def sFront (P : PM) : Nat := cntB (fun c => decide (sNear P ≤ sSeen P c 2)) (sC1 P)
theorem c_front {P : PM} {M : GM} {F : Nat} (hF : 3000 ≤ F) (hO : OK P) (hC : CV P M) : f_X10_cornersInFront F M = some (nI (sFront P)) := by
  obtain ⟨-, -, n1, n2⟩ := sN_of hO
  have e12 : gI M 0 12 = nI (sC1 P) := hC.1.1.trans n1
  have e4 : gI M 4 1 = P 122 3 := hC.1.2.2.2.1
  have L : ∃ q, lp_X10_cornersInFront_4 F M F 0 0 = some q ∧ q = nI (sFront P) := by
    refine run_up (fun n (s : Int32 × Int32) => lp_X10_cornersInFront_4 F M n s.1 s.2) (fun i s => s.2 = nI i ∧ s.1 = nI (cntB (fun c => decide (sNear P ≤ sSeen P c 2)) i)) _ 0 (sC1 P) F (by omega) (by omega) (s := (0, 0)) ⟨rfl, rfl⟩ ?_ ?_
    · rintro i ⟨a, x⟩ - hi ⟨rfl, rfl⟩
      have h4 : i < 40 := by omega
      obtain ⟨v, v1, v2⟩ := c_along (F := F) (r := 2) hO hC h4 (by omega)
      have hlt : v < P 122 3 ↔ ¬ sNear P ≤ sSeen P i 2 := by rw [a_lt v2 (show (P 122 3).toInt = sNear P from rfl)]; omega
      refine ⟨(nI (cntB (fun c => decide (sNear P ≤ sSeen P c 2)) (i + 1)), nI (i + 1)), ⟨rfl, rfl⟩, fun n => ?_⟩
      show lp_X10_cornersInFront_4 F M (n + 1) (nI (cntB (fun c => decide (sNear P ≤ sSeen P c 2)) i)) (nI i) = lp_X10_cornersInFront_4 F M n (nI (cntB (fun c => decide (sNear P ≤ sSeen P c 2)) i + if decide (sNear P ≤ sSeen P i 2) = true then 1 else 0)) (nI (i + 1))
      rw [el_X10_cornersInFront_4]
      unfold st_X10_cornersInFront_4
      rw [e12, if_neg (by rw [n_le (by omega) (by omega)]; omega), gn_1, grd_t (n_in h4 (by omega)), bnd_d, n_cl (by omega), gr_1, bndO_s _ (show f_X1_along F 2 (44 + i) M = some v from v1), e4]
      by_cases c : sNear P ≤ sSeen P i 2
      · rw [if_neg (fun h => hlt.mp h c), if_pos (decide_eq_true c), bnd_d, bnd_d, i_1, n_a, n_a]
      · rw [if_pos (hlt.mpr c), if_neg (by rw [decide_eq_true_eq]; exact c), bnd_d, i_1, n_a] <;> rfl
    · rintro ⟨a, x⟩ ⟨rfl, rfl⟩
      refine ⟨_, rfl, fun n => ?_⟩
      show lp_X10_cornersInFront_4 F M (n + 1) _ (nI _) = _
      rw [el_X10_cornersInFront_4]
      unfold st_X10_cornersInFront_4
      rw [e12, if_pos (by rw [n_le (by omega) (by omega)]; omega)]
      rfl
  obtain ⟨q, e, rfl⟩ := L
  unfold f_X10_cornersInFront
  rw [bnd_d, bnd_d, bndO_s _ e]
theorem r_front {P : PM} {M : GM} {F : Nat} (hF : 3000 ≤ F) (hO : OK P) (hR : RV P M) : f_X11_inFront F M = some (nI (sFront P)) := by
  obtain ⟨-, -, n1, n2⟩ := sN_of hO
  have e1 : gI M 122 1 = nI (sC1 P) := (hR.1 1 (by omega) (by omega)).trans n1
  have e3 : gI M 122 3 = P 122 3 := hR.1 3 (by omega) (by omega)
  have L : ∃ q, lp_X11_inFront_4 F M F 0 0 = some q ∧ q = nI (sFront P) := by
    refine run_up (fun n (s : Int32 × Int32) => lp_X11_inFront_4 F M n s.1 s.2) (fun i s => s.2 = nI i ∧ s.1 = nI (cntB (fun c => decide (sNear P ≤ sSeen P c 2)) i)) _ 0 (sC1 P) F (by omega) (by omega) (s := (0, 0)) ⟨rfl, rfl⟩ ?_ ?_
    · rintro i ⟨a, x⟩ - hi ⟨rfl, rfl⟩
      have h4 : i < 40 := by omega
      obtain ⟨v, v1, v2⟩ := r_seenBy (r := 2) hF hO hR h4 (by omega)
      have hlt : v < P 122 3 ↔ ¬ sNear P ≤ sSeen P i 2 := by rw [a_lt v2 (show (P 122 3).toInt = sNear P from rfl)]; omega
      refine ⟨(nI (cntB (fun c => decide (sNear P ≤ sSeen P c 2)) (i + 1)), nI (i + 1)), ⟨rfl, rfl⟩, fun n => ?_⟩
      show lp_X11_inFront_4 F M (n + 1) (nI (cntB (fun c => decide (sNear P ≤ sSeen P c 2)) i)) (nI i) = lp_X11_inFront_4 F M n (nI (cntB (fun c => decide (sNear P ≤ sSeen P c 2)) i + if decide (sNear P ≤ sSeen P i 2) = true then 1 else 0)) (nI (i + 1))
      rw [el_X11_inFront_4]
      unfold st_X11_inFront_4
      rw [e1, if_neg (by rw [n_le (by omega) (by omega)]; omega), bndO_s _ (show f_X11_seenBy F (nI i) 2 M = some v from v1), e3]
      by_cases c : sNear P ≤ sSeen P i 2
      · rw [if_neg (fun h => hlt.mp h c), if_pos (decide_eq_true c), bnd_d, bnd_d, i_1, n_a, n_a]
      · rw [if_pos (hlt.mpr c), if_neg (by rw [decide_eq_true_eq]; exact c), bnd_d, bnd_d, i_0, i_1, n_a, n_a]
    · rintro ⟨a, x⟩ ⟨rfl, rfl⟩
      refine ⟨_, rfl, fun n => ?_⟩
      show lp_X11_inFront_4 F M (n + 1) _ (nI _) = _
      rw [el_X11_inFront_4]
      unfold st_X11_inFront_4
      rw [e1, if_pos (by rw [n_le (by omega) (by omega)]; omega)]
      rfl
  obtain ⟨q, e, rfl⟩ := L
  unfold f_X11_inFront
  rw [bnd_d, bnd_d, bndO_s _ e]
theorem op_setLens {P : PM} {M : GM} {F : Nat} (hF : 3000 ≤ F) (hI : Inv P M) (a b : Int32) : Both WI (f_L_setLens F a b M) (f_X11_setLens F a b) := by
  obtain ⟨⟨hO, hD⟩, hC, hR⟩ := id hI
  by_cases h1 : inR a 1 1000
  rotate_left
  · refine op_fail (c := 1) hI (by unfold f_L_setLens f_X10_setLens; rw [w_in a tv_1 tv_1000, one_if, if_neg h1]; rfl) (by omega) hC (fun _ _ _ => rfl) fun M1 hR1 => rEnd_no hR1 (by omega) ?_
    unfold f_X11_setLens; rw [bnd_d, w_in' a tv_1 tv_1000, one_if, if_neg h1]; rfl
  by_cases h2 : inR b 1 500
  rotate_left
  · refine op_fail (c := 1) hI (by unfold f_L_setLens f_X10_setLens; rw [w_in a tv_1 tv_1000, one_if, if_pos h1, w_in b tv_1 tv_500, one_if, if_neg h2]; rfl) (by omega) hC (fun _ _ _ => rfl) fun M1 hR1 => rEnd_no hR1 (by omega) ?_
    unfold f_X11_setLens; rw [bnd_d, w_in' a tv_1 tv_1000, one_if, if_pos h1, w_in' b tv_1 tv_500, one_if, if_neg h2]; rfl
  have hO' : OK (u2 (u2 P 122 3 a) 122 4 b) := OK_set (OK_set hO (okC_near h1)) (okC_foc h2)
  have hC' : CS (u2 (u2 P 122 3 a) 122 4 b) (sI (sI M 4 1 a) 4 2 b) := CS_set (CS_set hC cm_nr) cm_fc
  refine op_ok (w := nI (sFront (u2 (u2 P 122 3 a) 122 4 b))) (W := WI) (P' := u2 (u2 P 122 3 a) 122 4 b) (M' := sI (sI M 4 1 a) 4 2 b) hI ?_ ⟨hO', DJ_set (DJ_set hD (by omega) (by omega)) (by omega) (by omega)⟩ hC' (fun g k h => by rw [gI_sI, if_neg (by omega), gI_sI, if_neg (by omega)]) (fun M1 hR1 => ?_)
  · unfold f_L_setLens f_X10_setLens
    rw [w_in a tv_1 tv_1000, one_if, if_pos h1, w_in b tv_1 tv_500, one_if, if_pos h2, bnd_d, bnd_d, bndO_s _ (c_front hF hO' hC'.1), bndTr]
    rfl
  · have hR' : RV (u2 (u2 P 122 3 a) 122 4 b) (sI (sI (sI M1 122 0 0) 122 3 a) 122 4 b) := RV_set (RV_set (RV_thr hR1 _))
    refine ⟨_, _, ?_, fun _ => rfl, hR', fun g k h => by rw [gI_sI, if_neg (by omega), gI_sI, if_neg (by omega), gI_sI, if_neg (by omega)], rfl, by rw [gI_sI, if_neg (by omega), gI_sI, if_neg (by omega), gI_sI, if_pos ⟨rfl, rfl⟩]; rfl⟩
    unfold f_X11_setLens
    rw [bnd_d, w_in' a tv_1 tv_1000, one_if, if_pos h1, w_in' b tv_1 tv_500, one_if, if_pos h2, bnd_d, bnd_d, bndO_s _ (r_front hF hO' hR')]
theorem op_setCamera {P : PM} {M : GM} {F : Nat} (hF : 3000 ≤ F) (hI : Inv P M) (r a b c t : Int32) : Both WI (f_L_setCamera F r a b c t M) (f_X11_setCamera F r a b c t) := by
  obtain ⟨⟨hO, hD⟩, hC, hR⟩ := id hI
  by_cases h0 : inR r 0 2
  rotate_left
  · refine op_fail (c := 1) hI (by unfold f_L_setCamera f_X10_setCamera f_X10_requireCameraRow; rw [w_in r tv_0 tv_2, one_if, if_neg h0]; rfl) (by omega) hC (fun _ _ _ => rfl) fun M1 hR1 => rEnd_no hR1 (by omega) ?_
    unfold f_X11_setCamera; rw [bnd_d, w_in' r tv_0 tv_2, one_if, if_neg h0]; rfl
  by_cases h1 : inR a (-4096) 4096
  rotate_left
  · refine op_fail (c := 2) hI (by unfold f_L_setCamera f_X10_setCamera f_X10_requireCameraRow; rw [w_in r tv_0 tv_2, one_if, if_pos h0, bndTr, w_in a tv_m4096 tv_4096, one_if, if_neg h1]; rfl) (by omega) hC (fun _ _ _ => rfl) fun M1 hR1 => rEnd_no hR1 (by omega) ?_
    unfold f_X11_setCamera; rw [bnd_d, w_in' r tv_0 tv_2, one_if, if_pos h0, w_in' a tv_m4096 tv_4096, one_if, if_neg h1]; rfl
  by_cases h2 : inR b (-4096) 4096
  rotate_left
  · refine op_fail (c := 2) hI (by unfold f_L_setCamera f_X10_setCamera f_X10_requireCameraRow; rw [w_in r tv_0 tv_2, one_if, if_pos h0, bndTr, w_in a tv_m4096 tv_4096, one_if, if_pos h1, w_in b tv_m4096 tv_4096, one_if, if_neg h2]; rfl) (by omega) hC (fun _ _ _ => rfl) fun M1 hR1 => rEnd_no hR1 (by omega) ?_
    unfold f_X11_setCamera; rw [bnd_d, w_in' r tv_0 tv_2, one_if, if_pos h0, w_in' a tv_m4096 tv_4096, one_if, if_pos h1, w_in' b tv_m4096 tv_4096, one_if, if_neg h2]; rfl
  by_cases h3 : inR c (-4096) 4096
  rotate_left
  · refine op_fail (c := 2) hI (by unfold f_L_setCamera f_X10_setCamera f_X10_requireCameraRow; rw [w_in r tv_0 tv_2, one_if, if_pos h0, bndTr, w_in a tv_m4096 tv_4096, one_if, if_pos h1, w_in b tv_m4096 tv_4096, one_if, if_pos h2, w_in c tv_m4096 tv_4096, one_if, if_neg h3]; rfl) (by omega) hC (fun _ _ _ => rfl) fun M1 hR1 => rEnd_no hR1 (by omega) ?_
    unfold f_X11_setCamera; rw [bnd_d, w_in' r tv_0 tv_2, one_if, if_pos h0, w_in' a tv_m4096 tv_4096, one_if, if_pos h1, w_in' b tv_m4096 tv_4096, one_if, if_pos h2, w_in' c tv_m4096 tv_4096, one_if, if_neg h3]; rfl
  by_cases h4 : inR t (-5000) 5000
  rotate_left
  · refine op_fail (c := 2) hI (by unfold f_L_setCamera f_X10_setCamera f_X10_requireCameraRow; rw [w_in r tv_0 tv_2, one_if, if_pos h0, bndTr, w_in a tv_m4096 tv_4096, one_if, if_pos h1, w_in b tv_m4096 tv_4096, one_if, if_pos h2, w_in c tv_m4096 tv_4096, one_if, if_pos h3, w_in t tv_m5000 tv_5000, one_if, if_neg h4]; rfl) (by omega) hC (fun _ _ _ => rfl) fun M1 hR1 => rEnd_no hR1 (by omega) ?_
    unfold f_X11_setCamera; rw [bnd_d, w_in' r tv_0 tv_2, one_if, if_pos h0, w_in' a tv_m4096 tv_4096, one_if, if_pos h1, w_in' b tv_m4096 tv_4096, one_if, if_pos h2, w_in' c tv_m4096 tv_4096, one_if, if_pos h3, w_in' t tv_m5000 tv_5000, one_if, if_neg h4]; rfl
  have h0' := h0
  obtain ⟨n, rfl, hn⟩ := in_nat' h0 (by omega)
  have hO' : OK (u2 (u2 (u2 (u2 P 137 (4 * n) a) 137 (4 * n + 1) b) 137 (4 * n + 2) c) 137 (4 * n + 3) t) := OK_set (OK_set (OK_set (OK_set hO (okC_cam (by omega))) (okC_cam (by omega))) (okC_cam (by omega))) (okC_cam (by omega))
  have hC' : CS (u2 (u2 (u2 (u2 P 137 (4 * n) a) 137 (4 * n + 1) b) 137 (4 * n + 2) c) 137 (4 * n + 3) t) (sI (sI (sI (sI M 5 (4 * n) a) 5 (4 * n + 1) b) 5 (4 * n + 2) c) 5 (4 * n + 3) t) := CS_set (CS_set (CS_set (CS_set hC (cm_cam (by omega))) (cm_cam (by omega))) (cm_cam (by omega))) (cm_cam (by omega))
  have e4 : (4 : Int32) * nI n = nI (4 * n) := n_m 4 n
  have s1 : nI (4 * n) + 1 = nI (4 * n + 1) := n_a _ 1
  have s2 : nI (4 * n) + 2 = nI (4 * n + 2) := n_a _ 2
  have s3 : nI (4 * n) + 3 = nI (4 * n + 3) := n_a _ 3
  generalize hP' : u2 (u2 (u2 (u2 P 137 (4 * n) a) 137 (4 * n + 1) b) 137 (4 * n + 2) c) 137 (4 * n + 3) t = P' at hO' hC'
  refine op_ok (w := nI (sFront P')) (W := WI) (P' := P') (M' := sI (sI (sI (sI M 5 (4 * n) a) 5 (4 * n + 1) b) 5 (4 * n + 2) c) 5 (4 * n + 3) t) hI ?_ ⟨hO', ?_⟩ hC' (fun g k h => by rw [gI_sI, if_neg (by omega), gI_sI, if_neg (by omega), gI_sI, if_neg (by omega), gI_sI, if_neg (by omega)]) (fun M1 hR1 => ?_)
  · have tr : f_X1_turnRow F (nI n) a b c t M = some (sI (sI (sI (sI M 5 (4 * n) a) 5 (4 * n + 1) b) 5 (4 * n + 2) c) 5 (4 * n + 3) t) := by
      unfold f_X1_turnRow
      rw [e4, bnd_d, gn_5, s1, s2, s3, n_in (show 4 * n < 12 by omega) (by omega), n_in (show 4 * n + 1 < 12 by omega) (by omega), n_in (show 4 * n + 2 < 12 by omega) (by omega), n_in (show 4 * n + 3 < 12 by omega) (by omega), n_cl (show 4 * n < 2147483648 by omega), n_cl (show 4 * n + 1 < 2147483648 by omega), n_cl (show 4 * n + 2 < 2147483648 by omega), n_cl (show 4 * n + 3 < 2147483648 by omega)]
      rfl
    unfold f_L_setCamera f_X10_setCamera f_X10_requireCameraRow
    rw [w_in _ tv_0 tv_2, one_if, if_pos h0', bndTr, w_in a tv_m4096 tv_4096, one_if, if_pos h1, w_in b tv_m4096 tv_4096, one_if, if_pos h2, w_in c tv_m4096 tv_4096, one_if, if_pos h3, w_in t tv_m5000 tv_5000, one_if, if_pos h4, bndO_s _ tr, bndO_s _ (c_front hF hO' hC'.1), bndTr]
    rfl
  · rw [← hP']; exact DJ_set (DJ_set (DJ_set (DJ_set hD (by omega) (by omega)) (by omega) (by omega)) (by omega) (by omega)) (by omega) (by omega)
  · have hR' : RV P' (sI (sI (sI (sI (sI M1 122 0 0) 137 (4 * n) a) 137 (4 * n + 1) b) 137 (4 * n + 2) c) 137 (4 * n + 3) t) := by rw [← hP']; exact RV_set (RV_set (RV_set (RV_set (RV_thr hR1 _))))
    refine ⟨_, _, ?_, fun _ => rfl, hR', fun g k h => by rw [gI_sI, if_neg (by omega), gI_sI, if_neg (by omega), gI_sI, if_neg (by omega), gI_sI, if_neg (by omega), gI_sI, if_neg (by omega)], rfl, by rw [gI_sI, if_neg (by omega), gI_sI, if_neg (by omega), gI_sI, if_neg (by omega), gI_sI, if_neg (by omega), gI_sI, if_pos ⟨rfl, rfl⟩]; rfl⟩
    unfold f_X11_setCamera
    rw [bnd_d, w_in' _ tv_0 tv_2, one_if, if_pos h0', w_in' a tv_m4096 tv_4096, one_if, if_pos h1, w_in' b tv_m4096 tv_4096, one_if, if_pos h2, w_in' c tv_m4096 tv_4096, one_if, if_pos h3, w_in' t tv_m5000 tv_5000, one_if, if_pos h4, e4, s1, s2, s3, gn_137, grd_t (n_in (show 4 * n < 12 by omega) (by omega)), bnd_d, grd_t (n_in (show 4 * n + 1 < 12 by omega) (by omega)), bnd_d, grd_t (n_in (show 4 * n + 2 < 12 by omega) (by omega)), bnd_d, grd_t (n_in (show 4 * n + 3 < 12 by omega) (by omega)), bnd_d, n_cl (show 4 * n < 2147483648 by omega), n_cl (show 4 * n + 1 < 2147483648 by omega), n_cl (show 4 * n + 2 < 2147483648 by omega), n_cl (show 4 * n + 3 < 2147483648 by omega), bndO_s _ (r_front hF hO' hR')]
