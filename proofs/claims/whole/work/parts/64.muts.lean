/-! PURE PART: calls that set something -/
theorem okC_pl {g k : Nat} {v : Int32} (h : 124 ≤ g ∧ g ≤ 126) (hv : inR v (-2000) 2000) : okC g k v := by
  refine ⟨fun q => ?_, fun q => ?_, fun q => ?_, fun q => ?_, fun q => ?_, fun q => ?_, fun q => ?_, fun q => ?_, fun q => ?_, fun q => ?_, fun q => ?_, fun q => ?_, fun q => ?_, fun q => ?_, fun q => ?_, fun q => ?_⟩ <;> first | (exfalso; omega) | exact hv
theorem okC_col {g k : Nat} {v : Int32} (h : g = 127 ∨ g = 135 ∨ g = 138 ∨ (g = 122 ∧ k = 5)) (hv : inR v 0 16777215) : okC g k v := by
  refine ⟨fun q => ?_, fun q => ?_, fun q => ?_, fun q => ?_, fun q => ?_, fun q => ?_, fun q => ?_, fun q => ?_, fun q => ?_, fun q => ?_, fun q => ?_, fun q => ?_, fun q => ?_, fun q => ?_, fun q => ?_, fun q => ?_⟩ <;> first | (exfalso; omega) | exact hv
theorem okC_uv {g k : Nat} {v : Int32} (h : g = 128 ∨ g = 129) (hv : inR v 0 2047) : okC g k v := by
  refine ⟨fun q => ?_, fun q => ?_, fun q => ?_, fun q => ?_, fun q => ?_, fun q => ?_, fun q => ?_, fun q => ?_, fun q => ?_, fun q => ?_, fun q => ?_, fun q => ?_, fun q => ?_, fun q => ?_, fun q => ?_, fun q => ?_⟩ <;> first | (exfalso; omega) | exact hv
theorem okC_c1 {n : Nat} {v : Int32} (e : v = nI n) (h : n ≤ 40) : okC 122 1 v := by
  refine ⟨fun q => ?_, fun q => ?_, fun q => ?_, fun q => ?_, fun q => ?_, fun q => ?_, fun q => ?_, fun q => ?_, fun q => ?_, fun q => ?_, fun q => ?_, fun q => ?_, fun q => ?_, fun q => ?_, fun q => ?_, fun q => ?_⟩ <;> first | (exfalso; omega) | exact ⟨n, e, h⟩
theorem okC_c2 {n : Nat} {v : Int32} (e : v = nI n) (h : n ≤ 30) : okC 122 2 v := by
  refine ⟨fun q => ?_, fun q => ?_, fun q => ?_, fun q => ?_, fun q => ?_, fun q => ?_, fun q => ?_, fun q => ?_, fun q => ?_, fun q => ?_, fun q => ?_, fun q => ?_, fun q => ?_, fun q => ?_, fun q => ?_, fun q => ?_⟩ <;> first | (exfalso; omega) | exact ⟨n, e, h⟩
theorem okC_near {v : Int32} (hv : inR v 1 1000) : okC 122 3 v := by
  refine ⟨fun q => ?_, fun q => ?_, fun q => ?_, fun q => ?_, fun q => ?_, fun q => ?_, fun q => ?_, fun q => ?_, fun q => ?_, fun q => ?_, fun q => ?_, fun q => ?_, fun q => ?_, fun q => ?_, fun q => ?_, fun q => ?_⟩ <;> first | (exfalso; omega) | exact hv
theorem okC_foc {v : Int32} (hv : inR v 1 500) : okC 122 4 v := by
  refine ⟨fun q => ?_, fun q => ?_, fun q => ?_, fun q => ?_, fun q => ?_, fun q => ?_, fun q => ?_, fun q => ?_, fun q => ?_, fun q => ?_, fun q => ?_, fun q => ?_, fun q => ?_, fun q => ?_, fun q => ?_, fun q => ?_⟩ <;> first | (exfalso; omega) | exact hv
theorem okC_of {k : Nat} {v : Int32} (hv : 0 ≤ v.toInt ∧ v.toInt < 40) : okC 130 k v := by
  refine ⟨fun q => ?_, fun q => ?_, fun q => ?_, fun q => ?_, fun q => ?_, fun q => ?_, fun q => ?_, fun q => ?_, fun q => ?_, fun q => ?_, fun q => ?_, fun q => ?_, fun q => ?_, fun q => ?_, fun q => ?_, fun q => ?_⟩ <;> first | (exfalso; omega) | exact hv
theorem okC_pat {k : Nat} {v : Int32} (hv : inR v (-1) 3) : okC 131 k v := by
  refine ⟨fun q => ?_, fun q => ?_, fun q => ?_, fun q => ?_, fun q => ?_, fun q => ?_, fun q => ?_, fun q => ?_, fun q => ?_, fun q => ?_, fun q => ?_, fun q => ?_, fun q => ?_, fun q => ?_, fun q => ?_, fun q => ?_⟩ <;> first | (exfalso; omega) | exact hv
theorem okC_tf {g k : Nat} {v : Int32} (h : (132 ≤ g ∧ g ≤ 134) ∨ g = 136) (hv : v = 0 ∨ v = 1) : okC g k v := by
  refine ⟨fun q => ?_, fun q => ?_, fun q => ?_, fun q => ?_, fun q => ?_, fun q => ?_, fun q => ?_, fun q => ?_, fun q => ?_, fun q => ?_, fun q => ?_, fun q => ?_, fun q => ?_, fun q => ?_, fun q => ?_, fun q => ?_⟩ <;> first | (exfalso; omega) | exact hv
theorem okC_cam {k : Nat} {v : Int32} (hv : -5000 ≤ v.toInt ∧ v.toInt ≤ 5000) : okC 137 k v := by
  refine ⟨fun q => ?_, fun q => ?_, fun q => ?_, fun q => ?_, fun q => ?_, fun q => ?_, fun q => ?_, fun q => ?_, fun q => ?_, fun q => ?_, fun q => ?_, fun q => ?_, fun q => ?_, fun q => ?_, fun q => ?_, fun q => ?_⟩ <;> first | (exfalso; omega) | exact hv
theorem okC_no {g k : Nat} {v : Int32} (h : g = 139 ∨ g = 140) : okC g k v := by
  refine ⟨fun q => ?_, fun q => ?_, fun q => ?_, fun q => ?_, fun q => ?_, fun q => ?_, fun q => ?_, fun q => ?_, fun q => ?_, fun q => ?_, fun q => ?_, fun q => ?_, fun q => ?_, fun q => ?_, fun q => ?_, fun q => ?_⟩ <;> (exfalso; omega)
theorem tv_0 : (0 : Int32).toInt = 0 := rfl
theorem tv_2047 : (2047 : Int32).toInt = 2047 := rfl
theorem tv_m1 : (-1 : Int32).toInt = -1 := by decide
theorem tv_3 : (3 : Int32).toInt = 3 := rfl
theorem tv_7 : (7 : Int32).toInt = 7 := rfl
theorem tv_2 : (2 : Int32).toInt = 2 := rfl
theorem tv_1 : (1 : Int32).toInt = 1 := rfl
theorem tv_5 : (5 : Int32).toInt = 5 := rfl
theorem tv_14 : (14 : Int32).toInt = 14 := rfl
theorem tv_1000 : (1000 : Int32).toInt = 1000 := rfl
theorem tv_500 : (500 : Int32).toInt = 500 := rfl
theorem tv_4096 : (4096 : Int32).toInt = 4096 := rfl
theorem tv_m4096 : (-4096 : Int32).toInt = -4096 := by decide
theorem tv_5000 : (5000 : Int32).toInt = 5000 := rfl
theorem tv_m5000 : (-5000 : Int32).toInt = -5000 := by decide
theorem nrf {P : PM} {M : GM} (hC : CS P M) : CS P M ∧ ∀ g k, 122 ≤ g → gI M g k = gI M g k := ⟨hC, fun _ _ _ => rfl⟩
theorem op_addCorner {P : PM} {M : GM} {F : Nat} (hI : Inv P M) (a b c d e f : Int32) : Both WI (f_L_addCorner F a b c d e f M) (f_X11_addCorner F a b c d e f) := by
  obtain ⟨⟨hO, hD⟩, hC, hR⟩ := id hI
  obtain ⟨-, -, n1, n2⟩ := sN_of hO
  have e12 : gI M 0 12 = nI (sC1 P) := hC.1.1.1.trans n1
  by_cases h1 : plR a b c
  rotate_left
  · refine op_fail (c := 1) hI (by unfold f_L_addCorner f_X10_addCorner; rw [c_reqPlace, if_neg h1]; rfl) (by omega) hC (fun _ _ _ => rfl) fun M1 hR1 => rEnd_no hR1 (by omega) ?_
    unfold f_X11_addCorner; rw [bnd_d, r_isPlace, one_if, if_neg h1]; rfl
  by_cases h2 : inR d 0 16777215
  rotate_left
  · refine op_fail (c := 1) hI (by unfold f_L_addCorner f_X10_addCorner; rw [c_reqPlace, if_pos h1, bndTr, c_reqColour, if_neg h2]; rfl) (by omega) hC (fun _ _ _ => rfl) fun M1 hR1 => rEnd_no hR1 (by omega) ?_
    unfold f_X11_addCorner; rw [bnd_d, r_isPlace, one_if, if_pos h1, r_isColour, one_if, if_neg h2]; rfl
  by_cases h3 : inR e 0 2047
  rotate_left
  · refine op_fail (c := 1) hI (by unfold f_L_addCorner f_X10_addCorner; rw [c_reqPlace, if_pos h1, bndTr, c_reqColour, if_pos h2, bndTr, w_in e tv_0 tv_2047, one_if, if_neg h3]; rfl) (by omega) hC (fun _ _ _ => rfl) fun M1 hR1 => rEnd_no hR1 (by omega) ?_
    unfold f_X11_addCorner; rw [bnd_d, r_isPlace, one_if, if_pos h1, r_isColour, one_if, if_pos h2, w_in' e tv_0 tv_2047, one_if, if_neg h3]; rfl
  by_cases h4 : inR f 0 2047
  rotate_left
  · refine op_fail (c := 1) hI (by unfold f_L_addCorner f_X10_addCorner; rw [c_reqPlace, if_pos h1, bndTr, c_reqColour, if_pos h2, bndTr, w_in e tv_0 tv_2047, one_if, if_pos h3, w_in f tv_0 tv_2047, one_if, if_neg h4]; rfl) (by omega) hC (fun _ _ _ => rfl) fun M1 hR1 => rEnd_no hR1 (by omega) ?_
    unfold f_X11_addCorner; rw [bnd_d, r_isPlace, one_if, if_pos h1, r_isColour, one_if, if_pos h2, w_in' e tv_0 tv_2047, one_if, if_pos h3, w_in' f tv_0 tv_2047, one_if, if_neg h4]; rfl
  generalize hn : sC1 P = n at n1 n2 e12
  by_cases h5 : n = 40
  · refine op_fail (c := 2) hI (by unfold f_L_addCorner f_X10_addCorner; rw [c_reqPlace, if_pos h1, bndTr, c_reqColour, if_pos h2, bndTr, w_in e tv_0 tv_2047, one_if, if_pos h3, w_in f tv_0 tv_2047, one_if, if_pos h4, e12, if_neg (by rw [i_40, n_lt (by omega) (by omega)]; omega)]; rfl) (by omega) hC (fun _ _ _ => rfl) fun M1 hR1 => rEnd_no hR1 (by omega) ?_
    have g1 : gI (sI M1 122 0 0) 122 1 = nI n := by rw [gI_sI, if_neg (by omega), hR1.1 1 (by omega) (by omega)]; exact n1
    unfold f_X11_addCorner; rw [bnd_d, r_isPlace, one_if, if_pos h1, r_isColour, one_if, if_pos h2, w_in' e tv_0 tv_2047, one_if, if_pos h3, w_in' f tv_0 tv_2047, one_if, if_pos h4, g1, if_pos (by rw [h5]; rfl)]; rfl
  have n4 : n < 40 := by omega
  have es : (nI n + 1 : Int32) = nI (n + 1) := n_a n 1
  refine op_ok (w := nI n) (W := WI) (P' := u2 (u2 (u2 (u2 (u2 (u2 (u2 P 124 n a) 125 n b) 126 n c) 127 n d) 128 n e) 129 n f) 122 1 (nI n + 1)) (M' := sI (sI (sI (sI (sI (sI (sI M (44 + n) 0 a) (44 + n) 1 b) (44 + n) 2 c) (44 + n) 3 d) (44 + n) 4 e) (44 + n) 5 f) 0 12 (nI n + 1)) hI ?_ ⟨?_, ?_⟩ ?_ (fun g k h => ?_) (fun M1 hR1 => ?_)
  · unfold f_L_addCorner f_X10_addCorner
    rw [c_reqPlace, if_pos h1, bndTr, c_reqColour, if_pos h2, bndTr, w_in e tv_0 tv_2047, one_if, if_pos h3, w_in f tv_0 tv_2047, one_if, if_pos h4, e12, if_pos (by rw [i_40, n_lt (by omega) (by omega)]; omega), bnd_d, gn_1, grd_t (n_in n4 (by omega)), bnd_d, n_cl (by omega), gr_1]
    rfl
  · exact OK_set (OK_set (OK_set (OK_set (OK_set (OK_set (OK_set hO (okC_pl (by omega) h1.1)) (okC_pl (by omega) h1.2.1)) (okC_pl (by omega) h1.2.2)) (okC_col (by omega) h2)) (okC_uv (by omega) h3)) (okC_uv (by omega) h4)) (okC_c1 es (by omega))
  · exact DJ_set (DJ_set (DJ_set (DJ_set (DJ_set (DJ_set (DJ_set hD (by omega) (by omega)) (by omega) (by omega)) (by omega) (by omega)) (by omega) (by omega)) (by omega) (by omega)) (by omega) (by omega)) (by omega) (by omega)
  · exact CS_set (CS_set (CS_set (CS_set (CS_set (CS_set (CS_set hC (cm_cor (by omega) (by omega) n4 rfl)) (cm_cor (by omega) (by omega) n4 rfl)) (cm_cor (by omega) (by omega) n4 rfl)) (cm_cor (by omega) (by omega) n4 rfl)) (cm_cor (by omega) (by omega) n4 rfl)) (cm_cor (by omega) (by omega) n4 rfl)) cm_c1
  · rw [gI_sI, if_neg (by omega), gI_sI, if_neg (by omega), gI_sI, if_neg (by omega), gI_sI, if_neg (by omega), gI_sI, if_neg (by omega), gI_sI, if_neg (by omega), gI_sI, if_neg (by omega)]
  · obtain ⟨M0, hM0⟩ : ∃ M0, M0 = sI M1 122 0 0 := ⟨_, rfl⟩
    have hR0 : RV P M0 := by rw [hM0]; exact RV_thr hR1 _
    have z0 : gI M0 122 0 = 0 := by rw [hM0, gI_sI, if_pos ⟨rfl, rfl⟩]
    have f0 : ∀ g k, g < 122 → gI M0 g k = gI M1 g k := fun g k h => by rw [hM0, gI_sI, if_neg (by omega)]
    have g1 : gI M0 122 1 = nI n := (hR0.1 1 (by omega) (by omega)).trans n1
    have put : f_X11_put F (nI n) a b c M0 = some (sI (sI (sI M0 124 n a) 125 n b) 126 n c) := by
      unfold f_X11_put
      rw [gn_124, gn_125, gn_126, n_in n4 (by omega), n_cl (by omega)]
      rfl
    have e7 : gI (sI (sI (sI M0 124 n a) 125 n b) 126 n c) 122 1 = nI n := by rw [gI_sI, if_neg (by omega), gI_sI, if_neg (by omega), gI_sI, if_neg (by omega), g1]
    have e8 : gI (sI (sI (sI (sI M0 124 n a) 125 n b) 126 n c) 127 n d) 122 1 = nI n := by rw [gI_sI, if_neg (by omega), e7]
    have e9 : gI (sI (sI (sI (sI (sI M0 124 n a) 125 n b) 126 n c) 127 n d) 128 n e) 122 1 = nI n := by rw [gI_sI, if_neg (by omega), e8]
    have e10 : gI (sI (sI (sI (sI (sI (sI M0 124 n a) 125 n b) 126 n c) 127 n d) 128 n e) 129 n f) 122 1 = nI n := by rw [gI_sI, if_neg (by omega), e9]
    refine ⟨nI n, _, ?_, fun _ => rfl, RV_set (RV_set (RV_set (RV_set (RV_set (RV_set (RV_set hR0)))))), fun g k h => ?_, by rw [hM0]; rfl, ?_⟩
    · unfold f_X11_addCorner
      rw [bnd_d, r_isPlace, one_if, if_pos h1, r_isColour, one_if, if_pos h2, w_in' e tv_0 tv_2047, one_if, if_pos h3, w_in' f tv_0 tv_2047, one_if, if_pos h4, ← hM0, g1, if_neg (by rw [i_40, n_eq (by omega) (by omega)]; omega), bndO_s _ put, e7, gn_127, grd_t (n_in n4 (by omega)), bnd_d, n_cl (by omega), e8, gn_128, grd_t (n_in n4 (by omega)), bnd_d, n_cl (by omega), e9, gn_129, grd_t (n_in n4 (by omega)), bnd_d, n_cl (by omega), e10]
      rfl
    · rw [gI_sI, if_neg (by omega), gI_sI, if_neg (by omega), gI_sI, if_neg (by omega), gI_sI, if_neg (by omega), gI_sI, if_neg (by omega), gI_sI, if_neg (by omega), gI_sI, if_neg (by omega)]; exact f0 g k h
    · rw [gI_sI, if_neg (by omega), gI_sI, if_neg (by omega), gI_sI, if_neg (by omega), gI_sI, if_neg (by omega), gI_sI, if_neg (by omega), gI_sI, if_neg (by omega), gI_sI, if_neg (by omega)]; exact z0
theorem op_setColour {P : PM} {M : GM} {F : Nat} (hI : Inv P M) (a b : Int32) : Both WI (f_L_setColour F a b M) (f_X11_setColour F a b) := by
  obtain ⟨⟨hO, hD⟩, hC, hR⟩ := id hI
  obtain ⟨-, -, n1, n2⟩ := sN_of hO
  by_cases h1 : inR a 0 ((sC1 P : Int) - 1)
  rotate_left
  · refine op_fail (c := 1) hI (by unfold f_L_setColour f_X10_setColour; rw [c_reqCorner hO hC.1, if_neg h1]; rfl) (by omega) hC (fun _ _ _ => rfl) fun M1 hR1 => rEnd_no hR1 (by omega) ?_
    unfold f_X11_setColour; rw [bnd_d, r_isCorner hO (RV_thr hR1 _), one_if, if_neg h1]; rfl
  by_cases h2 : inR b 0 16777215
  rotate_left
  · refine op_fail (c := 2) hI (by unfold f_L_setColour f_X10_setColour; rw [c_reqCorner hO hC.1, if_pos h1, bndTr, c_reqColour, if_neg h2]; rfl) (by omega) hC (fun _ _ _ => rfl) fun M1 hR1 => rEnd_no hR1 (by omega) ?_
    unfold f_X11_setColour; rw [bnd_d, r_isCorner hO (RV_thr hR1 _), one_if, if_pos h1, r_isColour, one_if, if_neg h2]; rfl
  have h1' := h1
  obtain ⟨n, rfl, hn⟩ := in_nat h1
  have n4 : n < 40 := by omega
  obtain ⟨-, -, -, e3, -⟩ := hC.1.2.2.1 n n4
  refine op_ok (w := P 127 n) (W := WI) (P' := u2 P 127 n b) (M' := sI M (44 + n) 3 b) hI ?_ ⟨OK_set hO (okC_col (by omega) h2), DJ_set hD (by omega) (by omega)⟩ (CS_set hC (cm_cor (by omega) (by omega) n4 rfl)) (fun g k h => by rw [gI_sI, if_neg (by omega)]) (fun M1 hR1 => ?_)
  · unfold f_L_setColour f_X10_setColour
    rw [c_reqCorner hO hC.1, if_pos h1', bndTr, c_reqColour, if_pos h2, bndTr, gn_1, n_in n4 (by omega), n_cl (by omega), gr_1, grdT, bnd_d, e3]
    rfl
  · have hR0 : RV P (sI M1 122 0 0) := RV_thr hR1 _
    refine ⟨P 127 n, sI (sI M1 122 0 0) 127 n b, ?_, fun _ => rfl, RV_set hR0, fun g k h => by rw [gI_sI, if_neg (by omega), gI_sI, if_neg (by omega)], rfl, by rw [gI_sI, if_neg (by omega), gI_sI, if_pos ⟨rfl, rfl⟩]; rfl⟩
    unfold f_X11_setColour
    rw [bnd_d, r_isCorner hO hR0, one_if, if_pos h1', r_isColour, one_if, if_pos h2, gn_127, n_in n4 (by omega), n_cl (by omega), grdT, hR0.2 127 n (by omega) (by omega)]
    rfl
theorem op_setBackground {P : PM} {M : GM} {F : Nat} (hI : Inv P M) (a : Int32) : Both WI (f_L_setBackground F a M) (f_X11_setBackground F a) := by
  obtain ⟨⟨hO, hD⟩, hC, hR⟩ := id hI
  by_cases h1 : inR a 0 16777215
  rotate_left
  · refine op_fail (c := 1) hI (by unfold f_L_setBackground f_X10_setBackground; rw [c_reqColour, if_neg h1]; rfl) (by omega) hC (fun _ _ _ => rfl) fun M1 hR1 => rEnd_no hR1 (by omega) ?_
    unfold f_X11_setBackground; rw [bnd_d, r_isColour, one_if, if_neg h1]; rfl
  obtain ⟨-, -, e3, -⟩ := hC.1.1
  refine op_ok (w := P 122 5) (W := WI) (P' := u2 P 122 5 a) (M' := sI M 0 14 a) hI ?_ ⟨OK_set hO (okC_col (by omega) h1), DJ_set hD (by omega) (by omega)⟩ (CS_set hC cm_bg) (fun g k h => by rw [gI_sI, if_neg (by omega)]) (fun M1 hR1 => ?_)
  · unfold f_L_setBackground f_X10_setBackground
    rw [c_reqColour, if_pos h1, bndTr, e3]
    rfl
  · have hR0 : RV P (sI M1 122 0 0) := RV_thr hR1 _
    refine ⟨P 122 5, sI (sI M1 122 0 0) 122 5 a, ?_, fun _ => rfl, RV_set hR0, fun g k h => by rw [gI_sI, if_neg (by omega), gI_sI, if_neg (by omega)], rfl, by rw [gI_sI, if_neg (by omega), gI_sI, if_pos ⟨rfl, rfl⟩]; rfl⟩
    unfold f_X11_setBackground
    rw [bnd_d, r_isColour, one_if, if_pos h1, hR0.1 5 (by omega) (by omega)]
    rfl
theorem tf_ok {v : Int32} (h : v = 0 ∨ v = 1) : gTf v = true := by rcases h with rfl | rfl <;> decide
theorem op_show {P : PM} {M : GM} {F : Nat} (hI : Inv P M) (a b : Int32) (hb : b = 0 ∨ b = 1) : Both WB (f_L_show F a b M) (f_X11_show F a b) := by
  obtain ⟨⟨hO, hD⟩, hC, hR⟩ := id hI
  obtain ⟨n1, n2, -, -⟩ := sN_of hO
  by_cases h1 : inR a 0 ((sN P : Int) - 1)
  rotate_left
  · refine op_fail (c := 1) hI (by unfold f_L_show f_X10_show; rw [c_reqPane hO hC.1, if_neg h1]; rfl) (by omega) hC (fun _ _ _ => rfl) fun M1 hR1 => rEnd_no hR1 (by omega) ?_
    unfold f_X11_show; rw [bnd_d, r_isPane hO (RV_thr hR1 _), one_if, if_neg h1]; rfl
  have h1' := h1
  obtain ⟨n, rfl, hn⟩ := in_nat h1
  have n3 : n < 30 := by omega
  obtain ⟨-, -, -, -, -, -, e6⟩ := hC.1.2.2.2.1 n n3
  have tb := hO.2.2.2.2.2.2.2.2.2.2.1 134 n (by omega) (by omega)
  refine op_ok (w := P 134 n) (W := WB) (P' := u2 P 134 n b) (M' := sI M (84 + n) 6 b) hI ?_ ⟨OK_set hO (okC_tf (by omega) hb), DJ_set hD (by omega) (by omega)⟩ (CS_set hC (cm_pn (by omega) (by omega) n3 rfl)) (fun g k h => by rw [gI_sI, if_neg (by omega)]) (fun M1 hR1 => ?_)
  · unfold f_L_show f_X10_show
    rw [c_reqPane hO hC.1, if_pos h1', bndTr, gn_2, n_in n3 (by omega), n_cl (by omega), gr_2, grdT, bnd_d, e6, bnd_d, grdT, bnd_d, tf_ok hb, grdT, bnd_d, tf_ok tb, grdT, bndTr]
    show (if P 134 n = 0 then _ else _) = _
    unfold WB
    rcases tb with h | h <;> rw [h]
    · rfl
    · rfl
  · have hR0 : RV P (sI M1 122 0 0) := RV_thr hR1 _
    refine ⟨P 134 n, sI (sI M1 122 0 0) 134 n b, ?_, fun _ => rfl, RV_set hR0, fun g k h => by rw [gI_sI, if_neg (by omega), gI_sI, if_neg (by omega)], rfl, by rw [gI_sI, if_neg (by omega), gI_sI, if_pos ⟨rfl, rfl⟩]; rfl⟩
    unfold f_X11_show
    rw [bnd_d, r_isPane hO hR0, one_if, if_pos h1', gn_134, n_in n3 (by omega), n_cl (by omega), grdT, hR0.2 134 n (by omega) (by omega), bnd_d, grdT, tf_ok hb, grdT, bnd_d, tf_ok tb, grdT]
theorem op_setRepeats {P : PM} {M : GM} {F : Nat} (hI : Inv P M) (a b : Int32) (hb : b = 0 ∨ b = 1) : Both WB (f_L_setRepeats F a b M) (f_X11_setRepeats F a b) := by
  obtain ⟨⟨hO, hD⟩, hC, hR⟩ := id hI
  by_cases h1 : inR a 0 3
  rotate_left
  · refine op_fail (c := 1) hI (by unfold f_L_setRepeats f_X10_setRepeats f_X10_requirePattern; rw [w_in a tv_0 tv_3, one_if, if_neg h1]; rfl) (by omega) hC (fun _ _ _ => rfl) fun M1 hR1 => rEnd_no hR1 (by omega) ?_
    unfold f_X11_setRepeats; rw [bnd_d, w_in' a tv_0 tv_3, one_if, if_neg h1]; rfl
  have h1' := h1
  obtain ⟨n, rfl, hn⟩ := in_nat' h1 (by omega)
  have n4 : n < 4 := by omega
  obtain ⟨e1, -⟩ := hC.1.2.2.2.2.1 n n4
  have tb := hO.2.2.2.2.2.2.2.2.2.2.2.1 n
  refine op_ok (w := P 136 n) (W := WB) (P' := u2 P 136 n b) (M' := sI M (114 + 2 * n) 1 b) hI ?_ ⟨OK_set hO (okC_tf (by omega) hb), DJ_set hD (by omega) (by omega)⟩ (CS_set hC (cm_rep n4)) (fun g k h => by rw [gI_sI, if_neg (by omega)]) (fun M1 hR1 => ?_)
  · unfold f_L_setRepeats f_X10_setRepeats f_X10_requirePattern
    rw [w_in _ tv_0 tv_3, one_if, if_pos h1', bndTr, gn_3, n_in n4 (by omega), n_cl (by omega), gr_3, grdT, bnd_d, e1, bnd_d, grdT, bnd_d, tf_ok hb, grdT, bnd_d, tf_ok tb, grdT, bndTr]
    show (if P 136 n = 0 then _ else _) = _
    unfold WB
    rcases tb with h | h <;> rw [h]
    · rfl
    · rfl
  · have hR0 : RV P (sI M1 122 0 0) := RV_thr hR1 _
    refine ⟨P 136 n, sI (sI M1 122 0 0) 136 n b, ?_, fun _ => rfl, RV_set hR0, fun g k h => by rw [gI_sI, if_neg (by omega), gI_sI, if_neg (by omega)], rfl, by rw [gI_sI, if_neg (by omega), gI_sI, if_pos ⟨rfl, rfl⟩]; rfl⟩
    unfold f_X11_setRepeats
    rw [bnd_d, w_in' _ tv_0 tv_3, one_if, if_pos h1', gn_136, n_in n4 (by omega), n_cl (by omega), grdT, hR0.2 136 n (by omega) (by omega), bnd_d, grdT, tf_ok hb, grdT, bnd_d, tf_ok tb, grdT]
