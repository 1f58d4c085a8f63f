/-! PURE PART: the class's calls, as the law uses them -/
def cI (P : PM) (M : GM) : Prop := (OK P ∧ DJ P) ∧ CS P M
def fr (M M' : GM) : Prop := ∀ g k, 122 ≤ g → gI M' g k = gI M g k
theorem fr.rf (M : GM) : fr M M := fun _ _ _ => rfl
theorem fr.tr {M M1 M2 : GM} (h : fr M M1) (k : fr M1 M2) : fr M M2 := fun g j hg => (k g j hg).trans (h g j hg)
theorem cI.q {P : PM} {M M' : GM} (h : cI P M) (q : cQ P M M') : cI P M' ∧ fr M M' := ⟨⟨h.1, q.1⟩, q.2⟩
/-- P with a corner more -/
def pC (P : PM) (n : Nat) (a b c d e f : Int32) : PM := u2 (u2 (u2 (u2 (u2 (u2 (u2 P 124 n a) 125 n b) 126 n c) 127 n d) 128 n e) 129 n f) 122 1 (nI n + 1)
theorem co_addCorner {P : PM} {M : GM} {F : Nat} (hI : cI P M) {a b c d e f : Int32} (h1 : plR a b c) (h2 : inR d 0 16777215) (h3 : inR e 0 2047) (h4 : inR f 0 2047) (h5 : sC1 P < 40) : ∃ M', f_X10_addCorner F a b c d e f M = some (.inr (nI (sC1 P), M')) ∧ cI (pC P (sC1 P) a b c d e f) M' ∧ fr M M' := by
  obtain ⟨⟨hO, hD⟩, hC⟩ := id hI
  obtain ⟨-, -, n1, n2⟩ := sN_of hO
  have e12 : gI M 0 12 = nI (sC1 P) := hC.1.1.1.trans n1
  generalize hn : sC1 P = n at n1 n2 e12 h5
  have es : (nI n + 1 : Int32) = nI (n + 1) := n_a n 1
  refine ⟨sI (sI (sI (sI (sI (sI (sI M (44 + n) 0 a) (44 + n) 1 b) (44 + n) 2 c) (44 + n) 3 d) (44 + n) 4 e) (44 + n) 5 f) 0 12 (nI n + 1), ?_, ⟨⟨?_, ?_⟩, ?_⟩, fun g k h => ?_⟩
  · unfold f_X10_addCorner
    rw [c_reqPlace, if_pos h1, bndTr, c_reqColour, if_pos h2, bndTr, w_in e tv_0 tv_2047, one_if, if_pos h3, w_in f tv_0 tv_2047, one_if, if_pos h4, e12, if_pos (by rw [i_40, n_lt (by omega) (by omega)]; omega), bnd_d, gn_1, grd_t (n_in h5 (by omega)), bnd_d, n_cl (by omega), gr_1]
    rfl
  · exact OK_set (OK_set (OK_set (OK_set (OK_set (OK_set (OK_set hO (okC_pl (by omega) h1.1)) (okC_pl (by omega) h1.2.1)) (okC_pl (by omega) h1.2.2)) (okC_col (by omega) h2)) (okC_uv (by omega) h3)) (okC_uv (by omega) h4)) (okC_c1 es (by omega))
  · exact DJ_set (DJ_set (DJ_set (DJ_set (DJ_set (DJ_set (DJ_set hD (by omega) (by omega)) (by omega) (by omega)) (by omega) (by omega)) (by omega) (by omega)) (by omega) (by omega)) (by omega) (by omega)) (by omega) (by omega)
  · exact CS_set (CS_set (CS_set (CS_set (CS_set (CS_set (CS_set hC (cm_cor (by omega) (by omega) h5 rfl)) (cm_cor (by omega) (by omega) h5 rfl)) (cm_cor (by omega) (by omega) h5 rfl)) (cm_cor (by omega) (by omega) h5 rfl)) (cm_cor (by omega) (by omega) h5 rfl)) (cm_cor (by omega) (by omega) h5 rfl)) cm_c1
  · rw [gI_sI, if_neg (by omega), gI_sI, if_neg (by omega), gI_sI, if_neg (by omega), gI_sI, if_neg (by omega), gI_sI, if_neg (by omega), gI_sI, if_neg (by omega), gI_sI, if_neg (by omega)]
/-- P with a pane more -/
def pN (P : PM) (n : Nat) (a b c d e f : Int32) : PM := u2 (u2 (u2 (u2 (u2 (u2 (u2 (u2 P 130 (3 * n) a) 130 (3 * n + 1) b) 130 (3 * n + 2) c) 131 n d) 132 n e) 133 n f) 134 n 1) 122 2 (nI n + 1)
theorem co_addPane {P : PM} {M : GM} {F : Nat} (hI : cI P M) {a b c d e f : Int32} (h1 : inR a 0 ((sC1 P : Int) - 1)) (h2 : inR b 0 ((sC1 P : Int) - 1)) (h3 : inR c 0 ((sC1 P : Int) - 1)) (d1 : ¬ a = b) (d2 : ¬ b = c) (d3 : ¬ c = a) (h4 : inR d (-1) 3) (he : e = 0 ∨ e = 1) (hf : f = 0 ∨ f = 1) (h5 : sN P < 30) : ∃ M', f_X10_addPane F a b c d e f M = some (.inr (nI (sN P), M')) ∧ cI (pN P (sN P) a b c d e f) M' ∧ fr M M' := by
  obtain ⟨⟨hO, hD⟩, hC⟩ := id hI
  obtain ⟨n1, n2, -, m2⟩ := sN_of hO
  have e13 : gI M 0 13 = nI (sN P) := hC.1.1.2.1.trans n1
  generalize hn : sN P = n at n1 n2 e13 h5
  have es : (nI n + 1 : Int32) = nI (n + 1) := n_a n 1
  refine ⟨sI (sI (sI (sI (sI (sI (sI (sI M (84 + n) 0 a) (84 + n) 1 b) (84 + n) 2 c) (84 + n) 3 d) (84 + n) 4 e) (84 + n) 5 f) (84 + n) 6 1) 0 13 (nI n + 1), ?_, ⟨⟨?_, ?_⟩, ?_⟩, fun g k h => ?_⟩
  · unfold f_X10_addPane
    rw [c_reqCorner hO hC.1, if_pos h1, bndTr, c_reqCorner hO hC.1, if_pos h2, bndTr, c_reqCorner hO hC.1, if_pos h3, bndTr, if_neg d1, if_neg d2, if_neg d3, w_in d tv_m1 tv_3, one_if, if_pos h4, e13, if_pos (by rw [i_30, n_lt (by omega) (by omega)]; omega), bnd_d, gn_2, grd_t (n_in h5 (by omega)), bnd_d, n_cl (by omega), gr_2, bnd_d, bnd_d, tf_ok he, grdT, bnd_d, tf_ok hf, grdT]
    rfl
  · exact OK_set (OK_set (OK_set (OK_set (OK_set (OK_set (OK_set (OK_set hO (okC_of (by omega))) (okC_of (by omega))) (okC_of (by omega))) (okC_pat h4)) (okC_tf (by omega) he)) (okC_tf (by omega) hf)) (okC_tf (by omega) (Or.inr rfl))) (okC_c2 es (by omega))
  · unfold pN
    intro i hi
    have hs : sN (u2 (u2 (u2 (u2 (u2 (u2 (u2 (u2 P 130 (3 * n) a) 130 (3 * n + 1) b) 130 (3 * n + 2) c) 131 n d) 132 n e) 133 n f) 134 n 1) 122 2 (nI n + 1)) = n + 1 := by
      unfold sN; rw [u2_at, if_pos ⟨rfl, rfl⟩, es, n_cl (by omega)]
    rw [hs] at hi
    have at9 : ∀ j, u2 (u2 (u2 (u2 (u2 (u2 (u2 (u2 P 130 (3 * n) a) 130 (3 * n + 1) b) 130 (3 * n + 2) c) 131 n d) 132 n e) 133 n f) 134 n 1) 122 2 (nI n + 1) 130 j = if j = 3 * n + 2 then c else if j = 3 * n + 1 then b else if j = 3 * n then a else P 130 j := fun j => by
      rw [u2_at, if_neg (by omega), u2_at, if_neg (by omega), u2_at, if_neg (by omega), u2_at, if_neg (by omega), u2_at, if_neg (by omega), u2_at]
      by_cases q2 : j = 3 * n + 2
      · rw [if_pos ⟨rfl, q2⟩, if_pos q2]
      · rw [if_neg (fun h => q2 h.2), if_neg q2, u2_at]
        by_cases q1 : j = 3 * n + 1
        · rw [if_pos ⟨rfl, q1⟩, if_pos q1]
        · rw [if_neg (fun h => q1 h.2), if_neg q1, u2_at]
          by_cases q0 : j = 3 * n
          · rw [if_pos ⟨rfl, q0⟩, if_pos q0]
          · rw [if_neg (fun h => q0 h.2), if_neg q0]
    rw [at9, at9, at9]
    rcases Nat.lt_or_ge i n with q | q
    · rw [if_neg (by omega), if_neg (by omega), if_neg (by omega), if_neg (by omega), if_neg (by omega), if_neg (by omega), if_neg (by omega), if_neg (by omega), if_neg (by omega)]
      exact hD i (by omega)
    · have : i = n := by omega
      subst this
      rw [if_neg (by omega), if_neg (by omega), if_pos rfl, if_neg (by omega), if_pos rfl, if_pos rfl]
      exact ⟨d1, d2, d3⟩
  · exact CS_set (CS_set (CS_set (CS_set (CS_set (CS_set (CS_set (CS_set hC (cm_of (by omega) (by omega) (by omega))) (cm_of (by omega) (by omega) (by omega))) (cm_of (by omega) (by omega) (by omega))) (cm_pn (by omega) (by omega) h5 rfl)) (cm_pn (by omega) (by omega) h5 rfl)) (cm_pn (by omega) (by omega) h5 rfl)) (cm_pn (by omega) (by omega) h5 rfl)) cm_c2
  · rw [gI_sI, if_neg (by omega), gI_sI, if_neg (by omega), gI_sI, if_neg (by omega), gI_sI, if_neg (by omega), gI_sI, if_neg (by omega), gI_sI, if_neg (by omega), gI_sI, if_neg (by omega), gI_sI, if_neg (by omega)]
theorem ix_in {n : Nat} {m : Nat} (h : n < m) (hm : m ≤ 40) : inR (nI n) 0 ((m : Int) - 1) := by unfold inR; rw [n_int (by omega)]; omega
theorem co_setColour {P : PM} {M : GM} {F n : Nat} (hI : cI P M) {b : Int32} (hn : n < sC1 P) (h2 : inR b 0 16777215) : ∃ M', f_X10_setColour F (nI n) b M = some (.inr (P 127 n, M')) ∧ cI (u2 P 127 n b) M' ∧ fr M M' := by
  obtain ⟨⟨hO, hD⟩, hC⟩ := id hI
  obtain ⟨-, -, n1, n2⟩ := sN_of hO
  have h1' := ix_in hn n2
  have n4 : n < 40 := by omega
  obtain ⟨-, -, -, e3, -⟩ := hC.1.2.2.1 n n4
  refine ⟨sI M (44 + n) 3 b, ?_, ⟨⟨OK_set hO (okC_col (by omega) h2), DJ_set hD (by omega) (by omega)⟩, CS_set hC (cm_cor (by omega) (by omega) n4 rfl)⟩, fun g k h => by rw [gI_sI, if_neg (by omega)]⟩
  unfold f_X10_setColour
  rw [c_reqCorner hO hC.1, if_pos h1', bndTr, c_reqColour, if_pos h2, bndTr, gn_1, n_in n4 (by omega), n_cl (by omega), gr_1, grdT, bnd_d, e3]
  rfl
theorem co_setBackground {P : PM} {M : GM} {F : Nat} (hI : cI P M) {a : Int32} (h1 : inR a 0 16777215) : ∃ M', f_X10_setBackground F a M = some (.inr (P 122 5, M')) ∧ cI (u2 P 122 5 a) M' ∧ fr M M' := by
  obtain ⟨⟨hO, hD⟩, hC⟩ := id hI
  obtain ⟨-, -, e3, -⟩ := hC.1.1
  refine ⟨sI M 0 14 a, ?_, ⟨⟨OK_set hO (okC_col (by omega) h1), DJ_set hD (by omega) (by omega)⟩, CS_set hC cm_bg⟩, fun g k h => by rw [gI_sI, if_neg (by omega)]⟩
  unfold f_X10_setBackground
  rw [c_reqColour, if_pos h1, bndTr, e3]
  rfl
theorem co_show {P : PM} {M : GM} {F n : Nat} (hI : cI P M) {b : Int32} (hn : n < sN P) (hb : b = 0 ∨ b = 1) : ∃ M', f_X10_show F (nI n) b M = some (.inr (P 134 n, M')) ∧ cI (u2 P 134 n b) M' ∧ fr M M' := by
  obtain ⟨⟨hO, hD⟩, hC⟩ := id hI
  obtain ⟨n1, n2, -, -⟩ := sN_of hO
  have h1' := ix_in hn (by omega)
  have n3 : n < 30 := by omega
  obtain ⟨-, -, -, -, -, -, e6⟩ := hC.1.2.2.2.1 n n3
  have tb := hO.2.2.2.2.2.2.2.2.2.2.1 134 n (by omega) (by omega)
  refine ⟨sI M (84 + n) 6 b, ?_, ⟨⟨OK_set hO (okC_tf (by omega) hb), DJ_set hD (by omega) (by omega)⟩, CS_set hC (cm_pn (by omega) (by omega) n3 rfl)⟩, fun g k h => by rw [gI_sI, if_neg (by omega)]⟩
  unfold f_X10_show
  rw [c_reqPane hO hC.1, if_pos h1', bndTr, gn_2, n_in n3 (by omega), n_cl (by omega), gr_2, grdT, bnd_d, e6, bnd_d, grdT, bnd_d, tf_ok hb, grdT, bnd_d, tf_ok tb, grdT]
theorem co_setRepeats {P : PM} {M : GM} {F n : Nat} (hI : cI P M) {b : Int32} (n4 : n < 4) (hb : b = 0 ∨ b = 1) : ∃ M', f_X10_setRepeats F (nI n) b M = some (.inr (P 136 n, M')) ∧ cI (u2 P 136 n b) M' ∧ fr M M' := by
  obtain ⟨⟨hO, hD⟩, hC⟩ := id hI
  have h1' : inR (nI n) 0 3 := by unfold inR; rw [n_int (by omega)]; omega
  obtain ⟨e1, -⟩ := hC.1.2.2.2.2.1 n n4
  have tb := hO.2.2.2.2.2.2.2.2.2.2.2.1 n
  refine ⟨sI M (114 + 2 * n) 1 b, ?_, ⟨⟨OK_set hO (okC_tf (by omega) hb), DJ_set hD (by omega) (by omega)⟩, CS_set hC (cm_rep n4)⟩, fun g k h => by rw [gI_sI, if_neg (by omega)]⟩
  unfold f_X10_setRepeats f_X10_requirePattern
  rw [w_in _ tv_0 tv_3, one_if, if_pos h1', bndTr, gn_3, n_in n4 (by omega), n_cl (by omega), gr_3, grdT, bnd_d, e1, bnd_d, grdT, bnd_d, tf_ok hb, grdT, bnd_d, tf_ok tb, grdT]
theorem co_setPattern {P : PM} {M : GM} {F n x y : Nat} (hI : cI P M) {d : Int32} (n4 : n < 4) (hx : x < 8) (hy : y < 8) (h4 : inR d 0 16777215) : ∃ M', f_X10_setPattern F (nI n) (nI x) (nI y) d M = some (.inr (P 135 (64 * n + (y * 8 + x)), M')) ∧ cI (u2 P 135 (64 * n + (y * 8 + x)) d) M' ∧ fr M M' := by
  obtain ⟨⟨hO, hD⟩, hC⟩ := id hI
  have h1' : inR (nI n) 0 3 := by unfold inR; rw [n_int (by omega)]; omega
  have h2' : inR (nI x) 0 7 := by unfold inR; rw [n_int (by omega)]; omega
  have h3' : inR (nI y) 0 7 := by unfold inR; rw [n_int (by omega)]; omega
  have gl : gN (114 + 2 * n + 1) = 64 := by rcases (show n = 0 ∨ n = 1 ∨ n = 2 ∨ n = 3 by omega) with rfl | rfl | rfl | rfl <;> decide +kernel
  have e1 : gI M (114 + 2 * n + 1) (y * 8 + x) = P 135 (64 * n + (y * 8 + x)) := by rw [show 114 + 2 * n + 1 = 115 + 2 * n by omega]; exact (hC.1.2.2.2.2.1 n n4).2 _ (by omega)
  refine ⟨sI M (114 + 2 * n + 1) (y * 8 + x) d, ?_, ⟨⟨OK_set hO (okC_col (by omega) h4), DJ_set hD (by omega) (by omega)⟩, CS_set hC (cm_tin (by omega) (by omega) (by omega))⟩, fun g k h => by rw [gI_sI, if_neg (by omega)]⟩
  unfold f_X10_setPattern f_X10_requirePattern
  rw [w_in _ tv_0 tv_3, one_if, if_pos h1', bndTr, w_in _ tv_0 tv_7, one_if, if_pos h2', w_in _ tv_0 tv_7, one_if, if_pos h3', c_reqColour, if_pos h4, bndTr, gn_3, grd_t (n_in n4 (by omega)), bnd_d, n_cl (by omega), gr_3, i_8, n_m, n_a, bnd_d, gl, n_in (show y * 8 + x < 64 by omega) (by omega), n_cl (by omega), grdT, bnd_d, e1, grdT]
  rfl
theorem co_setLens {P : PM} {M : GM} {F : Nat} (hF : 3000 ≤ F) (hI : cI P M) {a b : Int32} (h1 : inR a 1 1000) (h2 : inR b 1 500) : ∃ M', f_X10_setLens F a b M = some (.inr (nI (sFront (u2 (u2 P 122 3 a) 122 4 b)), M')) ∧ cI (u2 (u2 P 122 3 a) 122 4 b) M' ∧ fr M M' := by
  obtain ⟨⟨hO, hD⟩, hC⟩ := id hI
  have hO' : OK (u2 (u2 P 122 3 a) 122 4 b) := OK_set (OK_set hO (okC_near h1)) (okC_foc h2)
  have hC' : CS (u2 (u2 P 122 3 a) 122 4 b) (sI (sI M 4 1 a) 4 2 b) := CS_set (CS_set hC cm_nr) cm_fc
  refine ⟨sI (sI M 4 1 a) 4 2 b, ?_, ⟨⟨hO', DJ_set (DJ_set hD (by omega) (by omega)) (by omega) (by omega)⟩, hC'⟩, fun g k h => by rw [gI_sI, if_neg (by omega), gI_sI, if_neg (by omega)]⟩
  unfold f_X10_setLens
  rw [w_in a tv_1 tv_1000, one_if, if_pos h1, w_in b tv_1 tv_500, one_if, if_pos h2, bnd_d, bnd_d, bndO_s _ (c_front hF hO' hC'.1)]
def pA (P : PM) (n : Nat) (a b c t : Int32) : PM := u2 (u2 (u2 (u2 P 137 (4 * n) a) 137 (4 * n + 1) b) 137 (4 * n + 2) c) 137 (4 * n + 3) t
theorem co_setCamera {P : PM} {M : GM} {F n : Nat} (hF : 3000 ≤ F) (hI : cI P M) {a b c t : Int32} (hn : n < 3) (h1 : inR a (-4096) 4096) (h2 : inR b (-4096) 4096) (h3 : inR c (-4096) 4096) (h4 : inR t (-5000) 5000) : ∃ M', f_X10_setCamera F (nI n) a b c t M = some (.inr (nI (sFront (pA P n a b c t)), M')) ∧ cI (pA P n a b c t) M' ∧ fr M M' := by
  obtain ⟨⟨hO, hD⟩, hC⟩ := id hI
  have h0' : inR (nI n) 0 2 := by unfold inR; rw [n_int (by omega)]; omega
  have hO' : OK (pA P n a b c t) := OK_set (OK_set (OK_set (OK_set hO (okC_cam (by omega))) (okC_cam (by omega))) (okC_cam (by omega))) (okC_cam (by omega))
  have hC' : CS (pA P n a b c t) (sI (sI (sI (sI M 5 (4 * n) a) 5 (4 * n + 1) b) 5 (4 * n + 2) c) 5 (4 * n + 3) t) := CS_set (CS_set (CS_set (CS_set hC (cm_cam (by omega))) (cm_cam (by omega))) (cm_cam (by omega))) (cm_cam (by omega))
  have hD' : DJ (pA P n a b c t) := DJ_set (DJ_set (DJ_set (DJ_set hD (by omega) (by omega)) (by omega) (by omega)) (by omega) (by omega)) (by omega) (by omega)
  have e4 : (4 : Int32) * nI n = nI (4 * n) := n_m 4 n
  have s1 : nI (4 * n) + 1 = nI (4 * n + 1) := n_a _ 1
  have s2 : nI (4 * n) + 2 = nI (4 * n + 2) := n_a _ 2
  have s3 : nI (4 * n) + 3 = nI (4 * n + 3) := n_a _ 3
  refine ⟨sI (sI (sI (sI M 5 (4 * n) a) 5 (4 * n + 1) b) 5 (4 * n + 2) c) 5 (4 * n + 3) t, ?_, ⟨⟨hO', hD'⟩, hC'⟩, fun g k h => by rw [gI_sI, if_neg (by omega), gI_sI, if_neg (by omega), gI_sI, if_neg (by omega), gI_sI, if_neg (by omega)]⟩
  have tr : f_X1_turnRow F (nI n) a b c t M = some (sI (sI (sI (sI M 5 (4 * n) a) 5 (4 * n + 1) b) 5 (4 * n + 2) c) 5 (4 * n + 3) t) := by
    unfold f_X1_turnRow
    rw [e4, bnd_d, gn_5, s1, s2, s3, n_in (show 4 * n < 12 by omega) (by omega), n_in (show 4 * n + 1 < 12 by omega) (by omega), n_in (show 4 * n + 2 < 12 by omega) (by omega), n_in (show 4 * n + 3 < 12 by omega) (by omega), n_cl (show 4 * n < 2147483648 by omega), n_cl (show 4 * n + 1 < 2147483648 by omega), n_cl (show 4 * n + 2 < 2147483648 by omega), n_cl (show 4 * n + 3 < 2147483648 by omega)]
    rfl
  unfold f_X10_setCamera f_X10_requireCameraRow
  rw [w_in _ tv_0 tv_2, one_if, if_pos h0', bndTr, w_in a tv_m4096 tv_4096, one_if, if_pos h1, w_in b tv_m4096 tv_4096, one_if, if_pos h2, w_in c tv_m4096 tv_4096, one_if, if_pos h3, w_in t tv_m5000 tv_5000, one_if, if_pos h4, bndO_s _ tr, bndO_s _ (c_front hF hO' hC'.1)]
def pM (P : PM) (n : Nat) (x y z : Int32) : PM := u2 (u2 (u2 P 124 n x) 125 n y) 126 n z
theorem co_moveCorner {P : PM} {M : GM} {F n : Nat} (hF : 3000 ≤ F) (hI : cI P M) {x y z : Int32} (hn : n < sC1 P) (h2 : plR x y z) : ∃ M', f_X10_moveCorner F (nI n) x y z M = some (.inr (nI (cntB (sHas (pM P n x y z) n) (sN (pM P n x y z))), M')) ∧ cI (pM P n x y z) M' ∧ fr M M' := by
  obtain ⟨⟨hO, hD⟩, hC⟩ := id hI
  obtain ⟨-, -, -, m2⟩ := sN_of hO
  have h1' := ix_in hn m2
  have n4 : n < 40 := by omega
  have hO' : OK (pM P n x y z) := OK_set (OK_set (OK_set hO (okC_pl (by omega) h2.1)) (okC_pl (by omega) h2.2.1)) (okC_pl (by omega) h2.2.2)
  have hD' : DJ (pM P n x y z) := DJ_set (DJ_set (DJ_set hD (by omega) (by omega)) (by omega) (by omega)) (by omega) (by omega)
  have hC' : CS (pM P n x y z) (sI (sI (sI M (44 + n) 0 x) (44 + n) 1 y) (44 + n) 2 z) := CS_set (CS_set (CS_set hC (cm_cor (by omega) (by omega) n4 rfl)) (cm_cor (by omega) (by omega) n4 rfl)) (cm_cor (by omega) (by omega) n4 rfl)
  refine ⟨sI (sI (sI M (44 + n) 0 x) (44 + n) 1 y) (44 + n) 2 z, ?_, ⟨⟨hO', hD'⟩, hC'⟩, fun g k h => by rw [gI_sI, if_neg (by omega), gI_sI, if_neg (by omega), gI_sI, if_neg (by omega)]⟩
  unfold f_X10_moveCorner
  rw [c_reqCorner hO hC.1, if_pos h1', bndTr, c_reqPlace, if_pos h2, bndTr, gn_1, grd_t (n_in n4 (by omega)), bnd_d, n_cl (by omega), gr_1, bnd_d, bnd_d, bnd_d, bndO_s _ (show lp_X10_moveCorner_31 F (nI n) F 0 0 (f_X3_place (44 + n) x y z M) = _ from c_having hF hO' hC'.1)]
  rfl
theorem pt_of {x y : Nat} (hx : x < 40) (hy : y < 24) : ptR (nI x) (nI y) := by unfold ptR inR; rw [n_int (by omega), n_int (by omega)]; omega
theorem co_liesIn {P : PM} {M : GM} {F p x y : Nat} (hF : 3000 ≤ F) (hI : cI P M) (hp : p < sN P) (hx : x < 40) (hy : y < 24) : ∃ M', f_X10_liesIn F (nI p) (nI x) (nI y) M = some (.inr (if sFst P p x y = none then 0 else 1, M')) ∧ cI P M' ∧ fr M M' := by
  obtain ⟨⟨hO, hD⟩, hC⟩ := id hI
  obtain ⟨n1, n2, -, -⟩ := sN_of hO
  have p30 : p < 30 := by omega
  have h1' := in_pane hO hp
  have h2' := pt_of hx hy
  obtain ⟨M', e, s, f, -⟩ := c_formShape (F := F) hF hO hC.1 p30
  obtain ⟨v, M2, e2, v2, s2, f2, -⟩ := c_firstPiece (F := F) hF hO s hx hy
  have q := cQ.fs hC f
  have q2 := q.tr (cQ.eq q.1 f2)
  have hv : (v = -1 ∧ sFst P p x y = none) ∨ (¬ v = -1 ∧ ¬ sFst P p x y = none) := by
    rcases v2 with ⟨q, t, hq, rfl, a1, -, -, a2, a3⟩ | ⟨rfl, a1, a2⟩
    · exact Or.inr ⟨nI_ne hq, by rw [sFst_of hq a1 a2 a3]; intro h; cases h⟩
    · exact Or.inl ⟨rfl, sFst_no a1 a2⟩
  refine ⟨M2, ?_, ⟨hI.1, q2.1⟩, q2.2⟩
  unfold f_X10_liesIn
  rw [c_reqPane hO hC.1, if_pos h1', bndTr, c_reqPoint, if_pos h2', bndTr, bndO_s _ e, bndO_s _ e2]
  rcases hv with ⟨c1, c2⟩ | ⟨c1, c2⟩
  · rw [if_pos c2]
    show (if v = -1 then _ else _) = _
    rw [if_pos c1]
  · rw [if_neg c2]
    show (if v = -1 then _ else _) = _
    rw [if_neg c1]
theorem co_depthOf {P : PM} {M : GM} {F p x y : Nat} (hF : 3000 ≤ F) (hI : cI P M) (hp : p < sN P) (hx : x < 40) (hy : y < 24) : ∃ (w : Int32) (M' : GM), f_X10_depthOf F (nI p) (nI x) (nI y) M = some (.inr (w, M')) ∧ w.toInt = sDepO P p x y ∧ cI P M' ∧ fr M M' := by
  obtain ⟨⟨hO, hD⟩, hC⟩ := id hI
  obtain ⟨n1, n2, -, -⟩ := sN_of hO
  have p30 : p < 30 := by omega
  have h1' := in_pane hO hp
  have h2' := pt_of hx hy
  obtain ⟨M', e, s, f, -⟩ := c_formShape (F := F) hF hO hC.1 p30
  obtain ⟨v, M2, e2, v2, s2, f2, -⟩ := c_firstPiece (F := F) hF hO s hx hy
  have q := cQ.fs hC f
  have q2 := q.tr (cQ.eq q.1 f2)
  have main : ∃ w : Int32, f_X10_depthOf F (nI p) (nI x) (nI y) M = some (.inr (w, M2)) ∧ w.toInt = sDepO P p x y := by
    unfold f_X10_depthOf
    rw [c_reqPane hO hC.1, if_pos h1', bndTr, c_reqPoint, if_pos h2', bndTr, bndO_s _ e, bndO_s _ e2]
    rcases v2 with ⟨q, t, hq, rfl, a1, ai, at1, a2, a3⟩ | ⟨rfl, a1, a2⟩
    · obtain ⟨w, w1, w2⟩ := c_depthHere (F := F) hO (sPcs_ok hO a1) at1 ai
      refine ⟨w, ?_, by unfold sDepO; rw [sFst_of hq a1 a2 a3]; exact w2⟩
      show bnd (nI q) _ = _
      rw [bnd_d, if_neg (nI_ne hq), gn_16, grd_t (n_in hq (by omega)), bnd_d, n_cl (by omega), gr_16, bndO_s _ w1]
    · refine ⟨-1, ?_, by unfold sDepO; rw [sFst_no a1 a2]; exact tv_m1⟩
      show bnd (-1) _ = _
      rw [bnd_d, if_pos rfl]
  obtain ⟨w, m1, m2⟩ := main
  exact ⟨w, M2, m1, m2, ⟨hI.1, q2.1⟩, q2.2⟩
theorem co_colourOf {P : PM} {M : GM} {F p x y : Nat} (hF : 3000 ≤ F) (hI : cI P M) (hp : p < sN P) (hx : x < 40) (hy : y < 24) : ∃ (w : Int32) (M' : GM), f_X10_colourOf F (nI p) (nI x) (nI y) M = some (.inr (w, M')) ∧ w.toInt = sColO P p x y ∧ cI P M' ∧ fr M M' := by
  obtain ⟨⟨hO, hD⟩, hC⟩ := id hI
  obtain ⟨n1, n2, -, -⟩ := sN_of hO
  have p30 : p < 30 := by omega
  have h1' := in_pane hO hp
  have h2' := pt_of hx hy
  obtain ⟨M', e, s, f, -⟩ := c_formShape (F := F) hF hO hC.1 p30
  obtain ⟨v, M2, e2, v2, s2, f2, -⟩ := c_firstPiece (F := F) hF hO s hx hy
  have q := cQ.fs hC f
  have q2 := q.tr (cQ.eq q.1 f2)
  have main : ∃ w : Int32, f_X10_colourOf F (nI p) (nI x) (nI y) M = some (.inr (w, M2)) ∧ w.toInt = sColO P p x y := by
    unfold f_X10_colourOf
    rw [c_reqPane hO hC.1, if_pos h1', bndTr, c_reqPoint, if_pos h2', bndTr, bndO_s _ e, bndO_s _ e2]
    rcases v2 with ⟨q, t, hq, rfl, a1, ai, at1, a2, a3⟩ | ⟨rfl, a1, a2⟩
    · obtain ⟨w, w1, w2⟩ := c_colourHere (F := F) hO q2.1.1 p30 (sPcs_ok hO a1) at1 ai
      refine ⟨w, ?_, by unfold sColO; rw [sFst_of hq a1 a2 a3]; exact w2⟩
      show bnd (nI q) _ = _
      rw [bnd_d, if_neg (nI_ne hq), gn_2, grd_t (n_in p30 (by omega)), bnd_d, n_cl (show p < 2147483648 by omega), gr_2, gn_16, grd_t (n_in hq (by omega)), bnd_d, n_cl (show q < 2147483648 by omega), gr_16, bndO_s _ w1]
    · refine ⟨-1, ?_, by unfold sColO; rw [sFst_no a1 a2]; exact tv_m1⟩
      show bnd (-1) _ = _
      rw [bnd_d, if_pos rfl]
  obtain ⟨w, m1, m2⟩ := main
  exact ⟨w, M2, m1, m2, ⟨hI.1, q2.1⟩, q2.2⟩
theorem co_stale {P : PM} {M : GM} {F : Nat} (hF : 3000 ≤ F) (hI : cI P M) : ∃ M', f_X10_stale F M = some (nI (sStale P), M') ∧ cI P M' ∧ fr M M' := by
  obtain ⟨⟨hO, hD⟩, hC⟩ := id hI
  obtain ⟨M1, M2, e1, e2, -, f2, -⟩ := c_look0 (F := F) hF hO hC
  have q := cQ.of hC f2
  exact ⟨M2, by unfold f_X10_stale; rw [bndO_s _ e1, bndO_s _ e2], ⟨hI.1, q.1⟩, q.2⟩
theorem co_paint {P : PM} {M : GM} {F : Nat} (hF : 3000 ≤ F) (hI : cI P M) : ∃ M', f_X10_paint F M = some (nI (sStale P), M') ∧ cI (picP P (nPx P)) M' ∧ fr M M' := by
  obtain ⟨⟨hO, hD⟩, hC⟩ := id hI
  have hO' : OK (picP P (nPx P)) := picP_OK hO fun k _ => sPix_OK hO (-1) (sN P) k
  have hD' : DJ (picP P (nPx P)) := picP_DJ hD
  obtain ⟨M1, M2, e1, e2, x2, f2, -⟩ := c_look0 (F := F) hF hO hC
  have q := cQ.of hC f2
  obtain ⟨M3, e3, x3, f3⟩ := c_copyScr (M := M2) (F := F)
  have hC' : CS (picP P (nPx P)) M3 := picP_CS q.1 (fun k hk => (x3 k hk).trans (x2 k hk)) f3
  exact ⟨M3, by unfold f_X10_paint; rw [bndO_s _ e1, bndO_s _ e2]; show bnd (nI (sStale P)) _ = _; rw [bnd_d, bndO_s _ e3], ⟨⟨hO', hD'⟩, hC'⟩, fun g k h => (f3 g k (by omega)).trans (q.2 g k h)⟩
theorem co_colourAt {P : PM} {M : GM} {F x y : Nat} (hI : cI P M) (hx : x < 40) (hy : y < 24) : f_X10_colourAt F (nI x) (nI y) M = some (.inr (P 138 (y * 40 + x))) := by
  unfold f_X10_colourAt
  rw [c_reqPoint, if_pos (pt_of hx hy), bndTr, pt_ix, gn_28, grd_t (n_in (by omega) (by omega)), n_cl (by omega), (hI.2.1.2.2.2.2.2 (y * 40 + x) (by omega)).1]
theorem co_depthAt {P : PM} {M : GM} {F x y : Nat} (hI : cI P M) (hx : x < 40) (hy : y < 24) : f_X10_depthAt F (nI x) (nI y) M = some (.inr (P 139 (y * 40 + x))) := by
  unfold f_X10_depthAt
  rw [c_reqPoint, if_pos (pt_of hx hy), bndTr, pt_ix, gn_29, grd_t (n_in (by omega) (by omega)), n_cl (by omega), (hI.2.1.2.2.2.2.2 (y * 40 + x) (by omega)).2.1]
theorem co_paneAt {P : PM} {M : GM} {F x y : Nat} (hI : cI P M) (hx : x < 40) (hy : y < 24) : f_X10_paneAt F (nI x) (nI y) M = some (.inr (P 140 (y * 40 + x))) := by
  unfold f_X10_paneAt
  rw [c_reqPoint, if_pos (pt_of hx hy), bndTr, pt_ix, gn_30, grd_t (n_in (by omega) (by omega)), n_cl (by omega), (hI.2.1.2.2.2.2.2 (y * 40 + x) (by omega)).2.2]
theorem co_seenOf {P : PM} {M : GM} {F p : Nat} (hI : cI P M) (hp : p < sN P) (h2 : P 134 p = 0) : f_X10_seenOf F (nI p) M = some (.inr (0, M)) := by
  obtain ⟨⟨hO, hD⟩, hC⟩ := id hI
  obtain ⟨n1, n2, -, -⟩ := sN_of hO
  have p30 : p < 30 := by omega
  obtain ⟨-, -, -, -, -, -, e6⟩ := hC.1.2.2.2.1 p p30
  unfold f_X10_seenOf
  rw [c_reqPane hO hC.1, if_pos (in_pane hO hp), bndTr, gn_2, grd_t (n_in p30 (by omega)), bnd_d, n_cl (by omega), gr_2, e6, if_pos h2]
theorem co_greatest {P : PM} {M : GM} {F : Nat} (hF : 3000 ≤ F) (hI : cI P M) : ∃ M', f_X10_greatest F M = some ((sGr P (sN P)).1, M') ∧ cI P M' ∧ fr M M' := by
  obtain ⟨⟨hO, hD⟩, hC⟩ := id hI
  obtain ⟨n1, n2, -, -⟩ := sN_of hO
  obtain ⟨M1, e1, x1, f1, -⟩ := c_drawAll (F := F) (s := 31) (wo := -1) hF hO hC (by omega)
  have hC1 : CS P M1 := hC.to fun g k h => f1 g k (by unfold cqS at h; unfold cdI fsI; omega)
  obtain ⟨M2, e2, z2, f2, -⟩ := c_fill (M := M1) (p := 41) (a := 0) hF (by rw [gn_41]; omega)
  rw [gn_41] at z2
  obtain ⟨M3, e3, z3, f3, -⟩ := c_hist (P := P) (M := M2) hF (fun k hk => by rw [f2 34 k (by omega)]; exact congrArg (fun z : Px => z.2.2) (x1 k hk)) z2
  have hC3 : CS P M3 := hC1.to fun g k h => by unfold cqS at h; rw [f3 g k (by omega), f2 g k (by omega)]
  have L : ∃ q : Int32 × GM, lp_X10_greatest_78 F F (-1) 0 0 M3 = some q ∧ q = ((sGr P 30).1, M3) := by
    refine run_up (fun n (s : Int32 × Int32 × Int32 × GM) => lp_X10_greatest_78 F n s.1 s.2.1 s.2.2.1 s.2.2.2) (fun i s => s.2.2.1 = nI i ∧ s.1 = (sGr P i).1 ∧ s.2.1 = nI (sGr P i).2 ∧ s.2.2.2 = M3) _ 0 30 F (by omega) (by omega) (s := (-1, 0, 0, M3)) ⟨rfl, rfl, rfl, rfl⟩ ?_ ?_
    · rintro i ⟨b, c, x, M4⟩ - hi ⟨rfl, rfl, rfl, hm⟩
      have hm : M4 = M3 := hm
      subst hm
      have l1 := sGr_le P i
      have l2 : sCnt9 P i ≤ 960 := cntB_le _ _
      refine ⟨((sGr P (i + 1)).1, nI (sGr P (i + 1)).2, nI (i + 1), M4), ⟨rfl, rfl, rfl, rfl⟩, fun n => ?_⟩
      show lp_X10_greatest_78 F (n + 1) (sGr P i).1 (nI (sGr P i).2) (nI i) M4 = lp_X10_greatest_78 F n (sGr P (i + 1)).1 (nI (sGr P (i + 1)).2) (nI (i + 1)) M4
      have eg : sGr P (i + 1) = if (sGr P i).2 < sCnt9 P i then (nI i, sCnt9 P i) else sGr P i := rfl
      rw [el_X10_greatest_78, eg]
      unfold st_X10_greatest_78
      rw [if_neg (by rw [i_30, n_le (by omega) (by omega)]; omega), gn_41, n_in hi (by omega), n_cl (by omega), z3 i hi, grdT, grdT]
      by_cases c : (sGr P i).2 < sCnt9 P i
      · rw [if_neg (by rw [n_le (by omega) (by omega)]; omega), if_pos c, bnd_d, bnd_d, bnd_d, i_1, n_a]
      · rw [if_pos (by rw [n_le (by omega) (by omega)]; omega), if_neg c, bnd_d, i_1, n_a]
    · rintro ⟨b, c, x, M4⟩ ⟨rfl, rfl, rfl, hm⟩
      have hm : M4 = M3 := hm
      subst hm
      refine ⟨_, rfl, fun n => ?_⟩
      show lp_X10_greatest_78 F (n + 1) _ _ (nI 30) M4 = _
      rw [el_X10_greatest_78]
      unfold st_X10_greatest_78
      rw [if_pos (by decide)]
  obtain ⟨q, e4, rfl⟩ := L
  have eN : sGr P 30 = sGr P (sN P) := by
    have := sGr_stop hO (30 - sN P) (by omega)
    rw [show sN P + (30 - sN P) = 30 by omega] at this
    exact this
  rw [eN] at e4
  refine ⟨M3, ?_, ⟨hI.1, hC3⟩, fun g k h => by rw [f3 g k (by omega), f2 g k (by omega), f1 g k (by unfold cdI fsI; omega)]⟩
  unfold f_X10_greatest
  rw [bndO_s _ e1, bndO_s _ e2, bnd_d, bnd_d, bndO_s _ e3, bnd_d, bnd_d, bnd_d, bndO_s _ e4]
