/-! PURE PART: addPane, moveCorner -/
theorem op_addPane {P : PM} {M : GM} {F : Nat} (hI : Inv P M) (a b c d e f : Int32) (he : e = 0 ∨ e = 1) (hf : f = 0 ∨ f = 1) : Both WI (f_L_addPane F a b c d e f M) (f_X11_addPane F a b c d e f) := by
  obtain ⟨⟨hO, hD⟩, hC, hR⟩ := id hI
  obtain ⟨n1, n2, -, m2⟩ := sN_of hO
  have e13 : gI M 0 13 = nI (sN P) := hC.1.1.2.1.trans n1
  by_cases h1 : inR a 0 ((sC1 P : Int) - 1)
  rotate_left
  · refine op_fail (c := 1) hI (by unfold f_L_addPane f_X10_addPane; rw [c_reqCorner hO hC.1, if_neg h1]; rfl) (by omega) hC (fun _ _ _ => rfl) fun M1 hR1 => rEnd_no hR1 (by omega) ?_
    unfold f_X11_addPane; rw [bnd_d, r_isCorner hO (RV_thr hR1 _), one_if, if_neg h1]; rfl
  by_cases h2 : inR b 0 ((sC1 P : Int) - 1)
  rotate_left
  · refine op_fail (c := 1) hI (by unfold f_L_addPane f_X10_addPane; rw [c_reqCorner hO hC.1, if_pos h1, bndTr, c_reqCorner hO hC.1, if_neg h2]; rfl) (by omega) hC (fun _ _ _ => rfl) fun M1 hR1 => rEnd_no hR1 (by omega) ?_
    unfold f_X11_addPane; rw [bnd_d, r_isCorner hO (RV_thr hR1 _), one_if, if_pos h1, r_isCorner hO (RV_thr hR1 _), one_if, if_neg h2]; rfl
  by_cases h3 : inR c 0 ((sC1 P : Int) - 1)
  rotate_left
  · refine op_fail (c := 1) hI (by unfold f_L_addPane f_X10_addPane; rw [c_reqCorner hO hC.1, if_pos h1, bndTr, c_reqCorner hO hC.1, if_pos h2, bndTr, c_reqCorner hO hC.1, if_neg h3]; rfl) (by omega) hC (fun _ _ _ => rfl) fun M1 hR1 => rEnd_no hR1 (by omega) ?_
    unfold f_X11_addPane; rw [bnd_d, r_isCorner hO (RV_thr hR1 _), one_if, if_pos h1, r_isCorner hO (RV_thr hR1 _), one_if, if_pos h2, r_isCorner hO (RV_thr hR1 _), one_if, if_neg h3]; rfl
  by_cases d1 : a = b
  · refine op_fail (c := 2) hI (by unfold f_L_addPane f_X10_addPane; rw [c_reqCorner hO hC.1, if_pos h1, bndTr, c_reqCorner hO hC.1, if_pos h2, bndTr, c_reqCorner hO hC.1, if_pos h3, bndTr, if_pos d1]; rfl) (by omega) hC (fun _ _ _ => rfl) fun M1 hR1 => rEnd_no hR1 (by omega) ?_
    unfold f_X11_addPane; rw [bnd_d, r_isCorner hO (RV_thr hR1 _), one_if, if_pos h1, r_isCorner hO (RV_thr hR1 _), one_if, if_pos h2, r_isCorner hO (RV_thr hR1 _), one_if, if_pos h3, if_pos d1]; rfl
  by_cases d2 : b = c
  · refine op_fail (c := 2) hI (by unfold f_L_addPane f_X10_addPane; rw [c_reqCorner hO hC.1, if_pos h1, bndTr, c_reqCorner hO hC.1, if_pos h2, bndTr, c_reqCorner hO hC.1, if_pos h3, bndTr, if_neg d1, if_pos d2]; rfl) (by omega) hC (fun _ _ _ => rfl) fun M1 hR1 => rEnd_no hR1 (by omega) ?_
    unfold f_X11_addPane; rw [bnd_d, r_isCorner hO (RV_thr hR1 _), one_if, if_pos h1, r_isCorner hO (RV_thr hR1 _), one_if, if_pos h2, r_isCorner hO (RV_thr hR1 _), one_if, if_pos h3, if_neg d1, if_pos d2]; rfl
  by_cases d3 : c = a
  · refine op_fail (c := 2) hI (by unfold f_L_addPane f_X10_addPane; rw [c_reqCorner hO hC.1, if_pos h1, bndTr, c_reqCorner hO hC.1, if_pos h2, bndTr, c_reqCorner hO hC.1, if_pos h3, bndTr, if_neg d1, if_neg d2, if_pos d3]; rfl) (by omega) hC (fun _ _ _ => rfl) fun M1 hR1 => rEnd_no hR1 (by omega) ?_
    unfold f_X11_addPane; rw [bnd_d, r_isCorner hO (RV_thr hR1 _), one_if, if_pos h1, r_isCorner hO (RV_thr hR1 _), one_if, if_pos h2, r_isCorner hO (RV_thr hR1 _), one_if, if_pos h3, if_neg d1, if_neg d2, if_pos d3.symm]; rfl
  by_cases h4 : inR d (-1) 3
  rotate_left
  · refine op_fail (c := 2) hI (by unfold f_L_addPane f_X10_addPane; rw [c_reqCorner hO hC.1, if_pos h1, bndTr, c_reqCorner hO hC.1, if_pos h2, bndTr, c_reqCorner hO hC.1, if_pos h3, bndTr, if_neg d1, if_neg d2, if_neg d3, w_in d tv_m1 tv_3, one_if, if_neg h4]; rfl) (by omega) hC (fun _ _ _ => rfl) fun M1 hR1 => rEnd_no hR1 (by omega) ?_
    unfold f_X11_addPane; rw [bnd_d, r_isCorner hO (RV_thr hR1 _), one_if, if_pos h1, r_isCorner hO (RV_thr hR1 _), one_if, if_pos h2, r_isCorner hO (RV_thr hR1 _), one_if, if_pos h3, if_neg d1, if_neg d2, if_neg (fun h => d3 h.symm), w_in' d tv_m1 tv_3, one_if, if_neg h4]; rfl
  generalize hn : sN P = n at n1 n2 e13
  by_cases h5 : n = 30
  · refine op_fail (c := 3) hI (by unfold f_L_addPane f_X10_addPane; rw [c_reqCorner hO hC.1, if_pos h1, bndTr, c_reqCorner hO hC.1, if_pos h2, bndTr, c_reqCorner hO hC.1, if_pos h3, bndTr, if_neg d1, if_neg d2, if_neg d3, w_in d tv_m1 tv_3, one_if, if_pos h4, e13, if_neg (by rw [i_30, n_lt (by omega) (by omega)]; omega)]; rfl) (by omega) hC (fun _ _ _ => rfl) fun M1 hR1 => rEnd_no hR1 (by omega) ?_
    have g1 : gI (sI M1 122 0 0) 122 2 = nI n := by rw [gI_sI, if_neg (by omega), hR1.1 2 (by omega) (by omega)]; exact n1
    unfold f_X11_addPane; rw [bnd_d, r_isCorner hO (RV_thr hR1 _), one_if, if_pos h1, r_isCorner hO (RV_thr hR1 _), one_if, if_pos h2, r_isCorner hO (RV_thr hR1 _), one_if, if_pos h3, if_neg d1, if_neg d2, if_neg (fun h => d3 h.symm), w_in' d tv_m1 tv_3, one_if, if_pos h4, g1, if_pos (by rw [h5]; rfl)]; rfl
  have n3 : n < 30 := by omega
  have es : (nI n + 1 : Int32) = nI (n + 1) := n_a n 1
  refine op_ok (w := nI n) (W := WI) (P' := u2 (u2 (u2 (u2 (u2 (u2 (u2 (u2 P 130 (3 * n) a) 130 (3 * n + 1) b) 130 (3 * n + 2) c) 131 n d) 132 n e) 133 n f) 134 n 1) 122 2 (nI n + 1)) (M' := sI (sI (sI (sI (sI (sI (sI (sI M (84 + n) 0 a) (84 + n) 1 b) (84 + n) 2 c) (84 + n) 3 d) (84 + n) 4 e) (84 + n) 5 f) (84 + n) 6 1) 0 13 (nI n + 1)) hI ?_ ⟨?_, ?_⟩ ?_ (fun g k h => ?_) (fun M1 hR1 => ?_)
  · unfold f_L_addPane f_X10_addPane
    rw [c_reqCorner hO hC.1, if_pos h1, bndTr, c_reqCorner hO hC.1, if_pos h2, bndTr, c_reqCorner hO hC.1, if_pos h3, bndTr, if_neg d1, if_neg d2, if_neg d3, w_in d tv_m1 tv_3, one_if, if_pos h4, e13, if_pos (by rw [i_30, n_lt (by omega) (by omega)]; omega), bnd_d, gn_2, grd_t (n_in n3 (by omega)), bnd_d, n_cl (by omega), gr_2, bnd_d, bnd_d, tf_ok he, grdT, bnd_d, tf_ok hf, grdT]
    rfl
  · exact OK_set (OK_set (OK_set (OK_set (OK_set (OK_set (OK_set (OK_set hO (okC_of (by omega))) (okC_of (by omega))) (okC_of (by omega))) (okC_pat h4)) (okC_tf (by omega) he)) (okC_tf (by omega) hf)) (okC_tf (by omega) (Or.inr rfl))) (okC_c2 es (by omega))
  · intro i hi
    have hs : sN (u2 (u2 (u2 (u2 (u2 (u2 (u2 (u2 P 130 (3 * n) a) 130 (3 * n + 1) b) 130 (3 * n + 2) c) 131 n d) 132 n e) 133 n f) 134 n 1) 122 2 (nI n + 1)) = n + 1 := by
      unfold sN; rw [u2_at, if_pos ⟨rfl, rfl⟩, es, n_cl (by omega)]
    rw [hs] at hi
    have at9 : ∀ j, u2 (u2 (u2 (u2 (u2 (u2 (u2 (u2 P 130 (3 * n) a) 130 (3 * n + 1) b) 130 (3 * n + 2) c) 131 n d) 132 n e) 133 n f) 134 n 1) 122 2 (nI n + 1) 130 j = if j = 3 * n + 2 then c else if j = 3 * n + 1 then b else if j = 3 * n then a else P 130 j := fun j => by
      rw [u2_at, if_neg (by omega), u2_at, if_neg (by omega), u2_at, if_neg (by omega), u2_at, if_neg (by omega), u2_at, if_neg (by omega), u2_at]
      by_cases q2 : j = 3 * n + 2
      · rw [if_pos ⟨rfl, q2⟩, if_pos q2]
      · rw [if_neg (fun h => q2 h.2), if_neg q2, u2_at]
        by_cases q1 : j = 3 * n + 1
        · rw [if_pos ⟨rfl, q1⟩, if_pos q1]
        · rw [if_neg (fun h => q1 h.2), if_neg q1, u2_at]
          by_cases q0 : j = 3 * n
          · rw [if_pos ⟨rfl, q0⟩, if_pos q0]
          · rw [if_neg (fun h => q0 h.2), if_neg q0]
    rw [at9, at9, at9]
    rcases Nat.lt_or_ge i n with q | q
    · rw [if_neg (by omega), if_neg (by omega), if_neg (by omega), if_neg (by omega), if_neg (by omega), if_neg (by omega), if_neg (by omega), if_neg (by omega), if_neg (by omega)]
      exact hD i (by omega)
    · have : i = n := by omega
      subst this
      rw [if_neg (by omega), if_neg (by omega), if_pos rfl, if_neg (by omega), if_pos rfl, if_pos rfl]
      exact ⟨d1, d2, d3⟩
  · exact CS_set (CS_set (CS_set (CS_set (CS_set (CS_set (CS_set (CS_set hC (cm_of (by omega) (by omega) (by omega))) (cm_of (by omega) (by omega) (by omega))) (cm_of (by omega) (by omega) (by omega))) (cm_pn (by omega) (by omega) n3 rfl)) (cm_pn (by omega) (by omega) n3 rfl)) (cm_pn (by omega) (by omega) n3 rfl)) (cm_pn (by omega) (by omega) n3 rfl)) cm_c2
  · rw [gI_sI, if_neg (by omega), gI_sI, if_neg (by omega), gI_sI, if_neg (by omega), gI_sI, if_neg (by omega), gI_sI, if_neg (by omega), gI_sI, if_neg (by omega), gI_sI, if_neg (by omega), gI_sI, if_neg (by omega)]
  · obtain ⟨M0, hM0⟩ : ∃ M0, M0 = sI M1 122 0 0 := ⟨_, rfl⟩
    have hR0 : RV P M0 := by rw [hM0]; exact RV_thr hR1 _
    have z0 : gI M0 122 0 = 0 := by rw [hM0, gI_sI, if_pos ⟨rfl, rfl⟩]
    have f0 : ∀ g k, g < 122 → gI M0 g k = gI M1 g k := fun g k h => by rw [hM0, gI_sI, if_neg (by omega)]
    have g1 : gI M0 122 2 = nI n := (hR0.1 2 (by omega) (by omega)).trans n1
    have t3 : (3 : Int32) * nI n = nI (3 * n) := n_m 3 n
    have t31 : nI (3 * n) + 1 = nI (3 * n + 1) := n_a _ 1
    have t32 : nI (3 * n) + 2 = nI (3 * n + 2) := n_a _ 2
    have w1 : gI (sI M0 130 (3 * n) a) 122 2 = nI n := by rw [gI_sI, if_neg (by omega), g1]
    have w2 : gI (sI (sI M0 130 (3 * n) a) 130 (3 * n + 1) b) 122 2 = nI n := by rw [gI_sI, if_neg (by omega), w1]
    have w3 : gI (sI (sI (sI M0 130 (3 * n) a) 130 (3 * n + 1) b) 130 (3 * n + 2) c) 122 2 = nI n := by rw [gI_sI, if_neg (by omega), w2]
    have w4 : gI (sI (sI (sI (sI M0 130 (3 * n) a) 130 (3 * n + 1) b) 130 (3 * n + 2) c) 131 n d) 122 2 = nI n := by rw [gI_sI, if_neg (by omega), w3]
    have w5 : gI (sI (sI (sI (sI (sI M0 130 (3 * n) a) 130 (3 * n + 1) b) 130 (3 * n + 2) c) 131 n d) 132 n e) 122 2 = nI n := by rw [gI_sI, if_neg (by omega), w4]
    have w6 : gI (sI (sI (sI (sI (sI (sI M0 130 (3 * n) a) 130 (3 * n + 1) b) 130 (3 * n + 2) c) 131 n d) 132 n e) 133 n f) 122 2 = nI n := by rw [gI_sI, if_neg (by omega), w5]
    have w7 : gI (sI (sI (sI (sI (sI (sI (sI M0 130 (3 * n) a) 130 (3 * n + 1) b) 130 (3 * n + 2) c) 131 n d) 132 n e) 133 n f) 134 n 1) 122 2 = nI n := by rw [gI_sI, if_neg (by omega), w6]
    refine ⟨nI n, _, ?_, fun _ => rfl, RV_set (RV_set (RV_set (RV_set (RV_set (RV_set (RV_set (RV_set hR0))))))), fun g k h => ?_, by rw [hM0]; rfl, ?_⟩
    · unfold f_X11_addPane
      rw [bnd_d, r_isCorner hO (RV_thr hR1 _), one_if, if_pos h1, r_isCorner hO (RV_thr hR1 _), one_if, if_pos h2, r_isCorner hO (RV_thr hR1 _), one_if, if_pos h3, if_neg d1, if_neg d2, if_neg (fun h => d3 h.symm), w_in' d tv_m1 tv_3, one_if, if_pos h4, ← hM0, g1, if_neg (by rw [i_30, n_eq (by omega) (by omega)]; omega)]
      rw [t3, gn_130, grd_t (n_in (show 3 * n < 90 by omega) (by omega)), bnd_d, n_cl (show 3 * n < 2147483648 by omega), w1, t3, t31, grd_t (n_in (show 3 * n + 1 < 90 by omega) (by omega)), bnd_d, n_cl (show 3 * n + 1 < 2147483648 by omega), w2, t3, t32, grd_t (n_in (show 3 * n + 2 < 90 by omega) (by omega)), bnd_d, n_cl (show 3 * n + 2 < 2147483648 by omega)]
      rw [w3, gn_131, grd_t (n_in n3 (by omega)), bnd_d, n_cl (show n < 2147483648 by omega), w4, gn_132, grd_t (n_in n3 (by omega)), tf_ok he, grdT, bnd_d, n_cl (show n < 2147483648 by omega), w5, gn_133, grd_t (n_in n3 (by omega)), tf_ok hf, grdT, bnd_d, n_cl (show n < 2147483648 by omega), w6, gn_134, grd_t (n_in n3 (by omega)), bnd_d, n_cl (show n < 2147483648 by omega), w7]
      rfl
    · rw [gI_sI, if_neg (by omega), gI_sI, if_neg (by omega), gI_sI, if_neg (by omega), gI_sI, if_neg (by omega), gI_sI, if_neg (by omega), gI_sI, if_neg (by omega), gI_sI, if_neg (by omega), gI_sI, if_neg (by omega)]; exact f0 g k h
    · rw [gI_sI, if_neg (by omega), gI_sI, if_neg (by omega), gI_sI, if_neg (by omega), gI_sI, if_neg (by omega), gI_sI, if_neg (by omega), gI_sI, if_neg (by omega), gI_sI, if_neg (by omega), gI_sI, if_neg (by omega)]; exact z0
/-- whether a pane has a corner -/
def sHas (P : PM) (c i : Nat) : Bool := decide (P 130 (3 * i) = nI c ∨ P 130 (3 * i + 1) = nI c ∨ P 130 (3 * i + 2) = nI c)
theorem has_cnt {P : PM} (hD : DJ P) (c : Nat) : ∀ i, i ≤ sN P → cntB (fun j => decide (P 130 j = nI c)) (3 * i) = cntB (sHas P c) i := by
  intro i
  induction i with
  | zero => intro _; rfl
  | succ i ih =>
    intro hi
    obtain ⟨d1, d2, d3⟩ := hD i (by omega)
    have ih := ih (by omega)
    show cntB (fun j => decide (P 130 j = nI c)) (3 * i + 1 + 1 + 1) = cntB (sHas P c) i + if sHas P c i = true then 1 else 0
    show ((cntB (fun j => decide (P 130 j = nI c)) (3 * i) + if decide (P 130 (3 * i) = nI c) = true then 1 else 0) + if decide (P 130 (3 * i + 1) = nI c) = true then 1 else 0) + (if decide (P 130 (3 * i + 2) = nI c) = true then 1 else 0) = _
    rw [ih]
    unfold sHas
    by_cases q0 : P 130 (3 * i) = nI c
    · have q1 : ¬ P 130 (3 * i + 1) = nI c := fun h => d1 (q0.trans h.symm)
      have q2 : ¬ P 130 (3 * i + 2) = nI c := fun h => d3 (h.trans q0.symm)
      simp [q0, q1, q2]
    · by_cases q1 : P 130 (3 * i + 1) = nI c
      · have q2 : ¬ P 130 (3 * i + 2) = nI c := fun h => d2 (q1.trans h.symm)
        simp [q0, q1, q2]
      · by_cases q2 : P 130 (3 * i + 2) = nI c
        · simp [q0, q1, q2]
        · simp [q0, q1, q2]
theorem c_having {P : PM} {M : GM} {F c : Nat} (hF : 3000 ≤ F) (hO : OK P) (hC : CV P M) : lp_X10_moveCorner_31 F (nI c) F 0 0 M = some (nI (cntB (sHas P c) (sN P)), M) := by
  obtain ⟨n1, n2, -, -⟩ := sN_of hO
  have e13 : gI M 0 13 = nI (sN P) := hC.1.2.1.trans n1
  have L : ∃ q : Int32 × GM, lp_X10_moveCorner_31 F (nI c) F 0 0 M = some q ∧ q = (nI (cntB (sHas P c) (sN P)), M) := by
    refine run_up (fun n (s : Int32 × Int32 × GM) => lp_X10_moveCorner_31 F (nI c) n s.1 s.2.1 s.2.2) (fun i s => s.2.1 = nI i ∧ s.1 = nI (cntB (sHas P c) i) ∧ s.2.2 = M) _ 0 (sN P) F (by omega) (by omega) (s := (0, 0, M)) ⟨rfl, rfl, rfl⟩ ?_ ?_
    · rintro i ⟨a, x, M1⟩ - hi ⟨rfl, rfl, rfl⟩
      have h3 : i < 30 := by omega
      obtain ⟨q0, q1, q2, -⟩ := hC.2.2.2.1 i h3
      have hh : f_X4_has (84 + i) (nI c) M1 = if sHas P c i = true then 1 else 0 := by
        unfold f_X4_has sHas
        rw [show gI M1 (84 + i) 0 = P 130 (3 * i + 0) from q0, show gI M1 (84 + i) 1 = P 130 (3 * i + 1) from q1, show gI M1 (84 + i) 2 = P 130 (3 * i + 2) from q2, Nat.add_zero]
        by_cases w0 : P 130 (3 * i) = nI c
        · rw [if_pos w0, if_pos (decide_eq_true (Or.inl w0))]
        · by_cases w1 : P 130 (3 * i + 1) = nI c
          · rw [if_neg w0, if_pos w1, if_pos (decide_eq_true (Or.inr (Or.inl w1)))]
          · by_cases w2 : P 130 (3 * i + 2) = nI c
            · rw [if_neg w0, if_neg w1, if_pos w2, if_pos (decide_eq_true (Or.inr (Or.inr w2)))]
            · rw [if_neg w0, if_neg w1, if_neg w2, if_neg]
              rw [decide_eq_true_eq]
              rintro (h | h | h)
              · exact w0 h
              · exact w1 h
              · exact w2 h
      refine ⟨(nI (cntB (sHas P c) (i + 1)), nI (i + 1), M1), ⟨rfl, rfl, rfl⟩, fun n => ?_⟩
      show lp_X10_moveCorner_31 F (nI c) (n + 1) (nI (cntB (sHas P c) i)) (nI i) M1 = lp_X10_moveCorner_31 F (nI c) n (nI (cntB (sHas P c) i + if sHas P c i = true then 1 else 0)) (nI (i + 1)) M1
      rw [el_X10_moveCorner_31]
      unfold st_X10_moveCorner_31
      rw [show gI M1 0 13 = nI (sN P) from e13, if_neg (by rw [n_le (by omega) (by omega)]; omega), gn_2, grd_t (n_in h3 (by omega)), bnd_d, n_cl (by omega), gr_2, hh, one_if]
      by_cases w : sHas P c i = true
      · rw [if_pos w, if_pos w, bnd_d, bnd_d, i_1, n_a, n_a]
      · rw [if_neg w, if_neg w, bnd_d, i_1, n_a] <;> rfl
    · rintro ⟨a, x, M1⟩ ⟨rfl, rfl, rfl⟩
      refine ⟨_, rfl, fun n => ?_⟩
      show lp_X10_moveCorner_31 F (nI c) (n + 1) _ (nI _) M1 = _
      rw [el_X10_moveCorner_31]
      unfold st_X10_moveCorner_31
      rw [show gI M1 0 13 = nI (sN P) from e13, if_pos (by rw [n_le (by omega) (by omega)]; omega)] <;> rfl
  obtain ⟨q, e, rfl⟩ := L
  exact e
theorem r_having {P : PM} {M : GM} {F c : Nat} (hF : 3000 ≤ F) (hO : OK P) (hD : DJ P) (hR : RV P M) : lp_X11_moveCorner_50 F (nI c) F 0 0 M = some (nI (cntB (sHas P c) (sN P)), M) := by
  obtain ⟨n1, n2, -, -⟩ := sN_of hO
  have e2 : (3 : Int32) * gI M 122 2 = nI (3 * sN P) := by rw [hR.1 2 (by omega) (by omega), n1]; exact n_m 3 _
  have L : ∃ q : Int32 × GM, lp_X11_moveCorner_50 F (nI c) F 0 0 M = some q ∧ q = (nI (cntB (fun j => decide (P 130 j = nI c)) (3 * sN P)), M) := by
    refine run_up (fun n (s : Int32 × Int32 × GM) => lp_X11_moveCorner_50 F (nI c) n s.1 s.2.1 s.2.2) (fun i s => s.2.1 = nI i ∧ s.1 = nI (cntB (fun j => decide (P 130 j = nI c)) i) ∧ s.2.2 = M) _ 0 (3 * sN P) F (by omega) (by omega) (s := (0, 0, M)) ⟨rfl, rfl, rfl⟩ ?_ ?_
    · rintro i ⟨a, x, M1⟩ - hi ⟨rfl, rfl, rfl⟩
      refine ⟨(nI (cntB (fun j => decide (P 130 j = nI c)) (i + 1)), nI (i + 1), M1), ⟨rfl, rfl, rfl⟩, fun n => ?_⟩
      show lp_X11_moveCorner_50 F (nI c) (n + 1) (nI (cntB (fun j => decide (P 130 j = nI c)) i)) (nI i) M1 = lp_X11_moveCorner_50 F (nI c) n (nI (cntB (fun j => decide (P 130 j = nI c)) i + if decide (P 130 i = nI c) = true then 1 else 0)) (nI (i + 1)) M1
      rw [el_X11_moveCorner_50]
      unfold st_X11_moveCorner_50
      rw [show (3 : Int32) * gI M1 122 2 = nI (3 * sN P) from e2, if_neg (by rw [n_le (by omega) (by omega)]; omega), gn_130, grd_t (n_in (show i < 90 by omega) (by omega)), n_cl (by omega), show gI M1 130 i = P 130 i from hR.2 130 i (by omega) (by omega)]
      by_cases w : P 130 i = nI c
      · rw [if_pos w, if_pos (decide_eq_true w), bnd_d, bnd_d, i_1, n_a, n_a]
      · rw [if_neg w, if_neg (by rw [decide_eq_true_eq]; exact w), bnd_d, bnd_d, i_0, i_1, n_a, n_a]
    · rintro ⟨a, x, M1⟩ ⟨rfl, rfl, rfl⟩
      refine ⟨_, rfl, fun n => ?_⟩
      show lp_X11_moveCorner_50 F (nI c) (n + 1) _ (nI _) M1 = _
      rw [el_X11_moveCorner_50]
      unfold st_X11_moveCorner_50
      rw [show (3 : Int32) * gI M1 122 2 = nI (3 * sN P) from e2, if_pos (by rw [n_le (by omega) (by omega)]; omega)] <;> rfl
  obtain ⟨q, e, rfl⟩ := L
  rw [e, has_cnt hD c _ (Nat.le_refl _)]
theorem op_moveCorner {P : PM} {M : GM} {F : Nat} (hF : 3000 ≤ F) (hI : Inv P M) (a x y z : Int32) : Both WI (f_L_moveCorner F a x y z M) (f_X11_moveCorner F a x y z) := by
  obtain ⟨⟨hO, hD⟩, hC, hR⟩ := id hI
  obtain ⟨-, -, -, m2⟩ := sN_of hO
  by_cases h1 : inR a 0 ((sC1 P : Int) - 1)
  rotate_left
  · refine op_fail (c := 1) hI (by unfold f_L_moveCorner f_X10_moveCorner; rw [c_reqCorner hO hC.1, if_neg h1]; rfl) (by omega) hC (fun _ _ _ => rfl) fun M1 hR1 => rEnd_no hR1 (by omega) ?_
    unfold f_X11_moveCorner; rw [bnd_d, r_isCorner hO (RV_thr hR1 _), one_if, if_neg h1]; rfl
  by_cases h2 : plR x y z
  rotate_left
  · refine op_fail (c := 2) hI (by unfold f_L_moveCorner f_X10_moveCorner; rw [c_reqCorner hO hC.1, if_pos h1, bndTr, c_reqPlace, if_neg h2]; rfl) (by omega) hC (fun _ _ _ => rfl) fun M1 hR1 => rEnd_no hR1 (by omega) ?_
    unfold f_X11_moveCorner; rw [bnd_d, r_isCorner hO (RV_thr hR1 _), one_if, if_pos h1, r_isPlace, one_if, if_neg h2]; rfl
  have h1' := h1
  obtain ⟨n, rfl, hn⟩ := in_nat h1
  have n4 : n < 40 := by omega
  have hO' : OK (u2 (u2 (u2 P 124 n x) 125 n y) 126 n z) := OK_set (OK_set (OK_set hO (okC_pl (by omega) h2.1)) (okC_pl (by omega) h2.2.1)) (okC_pl (by omega) h2.2.2)
  have hD' : DJ (u2 (u2 (u2 P 124 n x) 125 n y) 126 n z) := DJ_set (DJ_set (DJ_set hD (by omega) (by omega)) (by omega) (by omega)) (by omega) (by omega)
  have hC' : CS (u2 (u2 (u2 P 124 n x) 125 n y) 126 n z) (sI (sI (sI M (44 + n) 0 x) (44 + n) 1 y) (44 + n) 2 z) := CS_set (CS_set (CS_set hC (cm_cor (by omega) (by omega) n4 rfl)) (cm_cor (by omega) (by omega) n4 rfl)) (cm_cor (by omega) (by omega) n4 rfl)
  generalize hP' : u2 (u2 (u2 P 124 n x) 125 n y) 126 n z = P' at hO' hD' hC'
  refine op_ok (w := nI (cntB (sHas P' n) (sN P'))) (W := WI) (P' := P') (M' := sI (sI (sI M (44 + n) 0 x) (44 + n) 1 y) (44 + n) 2 z) hI ?_ ⟨hO', hD'⟩ hC' (fun g k h => by rw [gI_sI, if_neg (by omega), gI_sI, if_neg (by omega), gI_sI, if_neg (by omega)]) (fun M1 hR1 => ?_)
  · unfold f_L_moveCorner f_X10_moveCorner
    rw [c_reqCorner hO hC.1, if_pos h1', bndTr, c_reqPlace, if_pos h2, bndTr, gn_1, grd_t (n_in n4 (by omega)), bnd_d, n_cl (by omega), gr_1, bnd_d, bnd_d, bnd_d, bndO_s _ (show lp_X10_moveCorner_31 F (nI n) F 0 0 (f_X3_place (44 + n) x y z M) = _ from c_having hF hO' hC'.1)]
    rfl
  · have hR' : RV P' (sI (sI (sI (sI M1 122 0 0) 124 n x) 125 n y) 126 n z) := by rw [← hP']; exact RV_set (RV_set (RV_set (RV_thr hR1 _)))
    have put : f_X11_put F (nI n) x y z (sI M1 122 0 0) = some (sI (sI (sI (sI M1 122 0 0) 124 n x) 125 n y) 126 n z) := by
      unfold f_X11_put
      rw [gn_124, gn_125, gn_126, n_in n4 (by omega), n_cl (by omega)]
      rfl
    refine ⟨_, _, ?_, fun _ => rfl, hR', fun g k h => by rw [gI_sI, if_neg (by omega), gI_sI, if_neg (by omega), gI_sI, if_neg (by omega), gI_sI, if_neg (by omega)], rfl, by rw [gI_sI, if_neg (by omega), gI_sI, if_neg (by omega), gI_sI, if_neg (by omega), gI_sI, if_pos ⟨rfl, rfl⟩]; rfl⟩
    unfold f_X11_moveCorner
    rw [bnd_d, r_isCorner hO (RV_thr hR1 _), one_if, if_pos h1', r_isPlace, one_if, if_pos h2, bndO_s _ put, bnd_d, bnd_d, bndO_s _ (r_having hF hO' hD' hR')]
