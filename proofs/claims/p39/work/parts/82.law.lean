/-! PURE PART: the law, whole -/
theorem sm_lt {g k a b : Nat} (h : sm g k a b) : g < 138 := by
  unfold sm at h
  rcases h with h | h | h | h | h | h | h | h <;> omega
theorem SV.pe {P Q : PM} {M : GM} (h : SV P M) (e : PE P Q) : SV Q M := fun g k a b q => (h g k a b q).trans (e g k (sm_lt q))
section LAW2
variable {P Q : PM} {M : GM} {F L9 t : Nat} {xs9 : Nat → Int32}
theorem hid_all (Q : PM) : sN (hid Q (sN Q)) = sN Q ∧ ∀ k, nPx (hid Q (sN Q)) k = sBg (hid Q (sN Q)) := by
  have e : sN (hid Q (sN Q)) = sN Q := by
    show ((hid Q (sN Q)) 122 2).toNatClampNeg = (Q 122 2).toNatClampNeg
    rw [hid_o (by omega)]
  refine ⟨e, fun k => ?_⟩
  unfold nPx
  rw [e]
  exact hid_pix (n := sN Q) (fun j hj => if_pos ⟨rfl, hj⟩) k _ (Nat.le_refl _)
theorem p_573 {a12 x : Int32} {i : Nat} (hF : 3000 ≤ F) (hL : L9 ≤ 260) (hS : ST Q M t) (hd : pd Q) (hi : i < 4) (hc : 1 ≤ sC1 Q) (t2 : t + 20 < 1000000) :
    ∃ M', ST Q M' (t + 4) ∧ ∀ kont, bk_L_law_573_56 F L9 xs9 kont a12 (nI i) (dgAll Q) x x M = kont (nI (i + 1)) M' := by
  have hO := hS.1.1.1
  obtain ⟨-, n30, -, n40⟩ := sN_of hO
  obtain ⟨M1, e1, q1⟩ := cd_digest (F := F) hF hO hS.1.2
  have j1 := hS.1.q q1
  have hS1 := hS.fr j1.1 j1.2
  obtain ⟨c3, -, -, -⟩ := hS1.c
  obtain ⟨v, M2, d2, r2, t3, f2⟩ := p_draw (F := F) (xs9 := xs9) (n := nI (sC1 Q)) hL hS1.2.2 (by omega) (by rw [n_int (by omega)]; omega)
  obtain ⟨c, rfl, hcc⟩ := d_nat r2
  rw [n_int (by omega)] at hcc
  have c9 : c < sC1 Q := by omega
  have c40 : c < 40 := by omega
  obtain ⟨w0, M3, d3, r3, t4, f3⟩ := p_draw (F := F) (xs9 := xs9) (n := 900) hL t3 (by omega) (by decide)
  obtain ⟨w1, M4, d4, r4, t5, f4⟩ := p_draw (F := F) (xs9 := xs9) (n := 700) hL t4 (by omega) (by decide)
  obtain ⟨w2, M5, d5, r5, t6, f5⟩ := p_draw (F := F) (xs9 := xs9) (n := 900) hL t5 (by omega) (by decide)
  have km : Km M1 M5 := ((((Km.rf M1).d f2).d f3).d f4).d f5
  have hS5 : ST Q M5 (t + 4) := ⟨km.cI hS1.1, km.SV hS1.2.1, t6⟩
  have i9 : (900 : Int32).toInt = 900 := rfl
  have i7 : (700 : Int32).toInt = 700 := rfl
  have y0 : (w0 - 450 : Int32).toInt = w0.toInt - 450 := a_sub rfl rfl (by omega) (by omega)
  have y1 : (w1 - 350 : Int32).toInt = w1.toInt - 350 := a_sub rfl rfl (by omega) (by omega)
  have y2 : (w2 - 300 : Int32).toInt = w2.toInt - 300 := a_sub rfl rfl (by omega) (by omega)
  have bp : plR (w0 - 450) (w1 - 350) (w2 - 300) := by unfold plR inR; rw [y0, y1, y2]; omega
  obtain ⟨M6, e6, i6, g6⟩ := co_moveCorner (F := F) hF hS5.1 c9 bp
  have x0 : gI M6 (133 + c) 0 = Q 124 c := (g6 _ _ (by omega)).trans (hS5.2.1 _ _ _ _ (sm_cor (by omega) (by omega) c40 rfl))
  have x1 : gI M6 (133 + c) 1 = Q 125 c := (g6 _ _ (by omega)).trans (hS5.2.1 _ _ _ _ (sm_cor (by omega) (by omega) c40 rfl))
  have x2 : gI M6 (133 + c) 2 = Q 126 c := (g6 _ _ (by omega)).trans (hS5.2.1 _ _ _ _ (sm_cor (by omega) (by omega) c40 rfl))
  have cm : cnt Q (pM Q c (w0 - 450) (w1 - 350) (w2 - 300)) := ((cnt_set (by omega) (by omega)).tr (cnt_set (by omega) (by omega))).tr (cnt_set (by omega) (by omega))
  have pl := hO.2.2.2.2.1
  have bq : plR (Q 124 c) (Q 125 c) (Q 126 c) := ⟨pl 0 c (by omega), pl 1 c (by omega), pl 2 c (by omega)⟩
  obtain ⟨M7, e7, i7', g7⟩ := co_moveCorner (F := F) hF i6 (n := c) (by rw [cm.1]; exact c9) bq
  rw [pM_back] at e7 i7'
  have l6 : cntB (sHas (pM Q c (w0 - 450) (w1 - 350) (w2 - 300)) c) (sN (pM Q c (w0 - 450) (w1 - 350) (w2 - 300))) ≤ 30 := Nat.le_trans (cntB_le _ _) (by rw [cm.2]; exact n30)
  have l7 : cntB (sHas Q c) (sN Q) ≤ 30 := Nat.le_trans (cntB_le _ _) n30
  have hS7 := hS5.fr i7' (g6.tr g7)
  obtain ⟨M8, e8, i8, g8⟩ := co_stale (F := F) hF hS7.1
  rw [pd_stale hd] at e8
  have hS8 := hS7.fr i8 g8
  obtain ⟨M9, e9, q9⟩ := cd_digest (F := F) hF hO hS8.1.2
  have j9 := hS8.1.q q9
  have hS9 := hS8.fr j9.1 j9.2
  obtain ⟨M10, e10, i10, g10⟩ := p_hide (L9 := L9) (xs9 := xs9) (a231 := a12) (a232 := nI i) (b233 := dgAll Q) hF hS9
  obtain ⟨hN, hB⟩ := hid_all Q
  obtain ⟨H, hH⟩ : ∃ H, H = hid Q (sN Q) := ⟨_, rfl⟩
  have hr : ∀ f, picP (rst Q (picP H f) (sN Q)) (nPx (rst Q (picP H f) (sN Q))) = Q := fun f => by rw [hH]; exact rst_end hd (sN Q)
  have h5 : H 122 5 = Q 122 5 := by rw [hH, hid_o (by omega)]
  have h2 : H 122 2 = Q 122 2 := by rw [hH, hid_o (by omega)]
  rw [← hH] at i10 hN hB
  obtain ⟨M11, e11, i11, g11⟩ := co_paint (F := F) hF i10
  have b8 : ∀ k, k < 960 → picP H (nPx H) 138 k = Q 122 5 := fun k hk => by rw [(picP_8 H (nPx H) hk).1, hB k]; exact h5
  have hBD : ∀ k, nPx (picP H (nPx H)) k = sBg (picP H (nPx H)) := fun k => by
    rw [← (PE_pic H (nPx H)).n k, hB k]
    unfold sBg
    rw [picP_o _ _ (by omega)]
  have hr := hr (nPx H)
  have d2e : picP H (nPx H) 122 2 = Q 122 2 := by rw [picP_o _ _ (by omega)]; exact h2
  obtain ⟨D, hD⟩ : ∃ D, D = picP H (nPx H) := ⟨_, rfl⟩
  rw [← hD] at i11 b8 hBD hr d2e
  obtain ⟨M12, e12, q12⟩ := cq_colours (F := F) hF i11.1.1 i11.2
  rw [bg_dist b8] at e12
  have j12 := i11.q q12
  have e12c := co_colourAt (F := F) (x := i) (y := i) j12.1 (by omega) (by omega)
  rw [b8 _ (by omega)] at e12c
  have g12 : fr M9 M12 := (g10.tr g11).tr j12.2
  have bg : gI M12 122 13 = Q 122 5 := (g12 _ _ (by omega)).trans (hS9.2.1 _ _ _ _ sm_bg)
  obtain ⟨M13, e13, i13, g13⟩ := co_greatest (F := F) hF j12.1
  rw [bg_gr i11.1.1 hBD] at e13
  have hV13 : SV Q M13 := hS9.2.1.fr (g12.tr g13)
  obtain ⟨M14, e14, i14, g14⟩ := p_rest (F := F) (L9 := L9) (xs9 := xs9) (a255 := a12) (a256 := nI i) (b257 := dgAll Q) hF hO hV13 i13 d2e
  obtain ⟨M15, e15, i15, g15⟩ := co_paint (F := F) hF i14
  rw [hr] at i15
  obtain ⟨M16, e16, q16⟩ := cd_digest (F := F) hF hO i15.2
  have j16 := i15.q q16
  refine ⟨M16, hS9.fr j16.1 ((((g12.tr g13).tr g14).tr g15).tr j16.2), fun kont => ?_⟩
  unfold bk_L_law_573_56
  rw [if_pos rfl, bndT_r _ _ e1]
  dsimp only
  rw [if_pos (cmp_same _), c3, bndO_s _ d2]
  dsimp only
  rw [bnd_d, gn_123, grd_t (n_in c40 (by omega)), bnd_d, n_cl (show c < 2147483648 by omega), rr_123, bndO_s _ d3]
  dsimp only
  rw [bndO_s _ d4]
  dsimp only
  rw [bndO_s _ d5]
  dsimp only
  rw [bndT_r _ _ e6]
  dsimp only
  rw [if_neg (n_ge0 (by omega)), gN_cor c40, grd_t (by decide), grd_t (by decide), grd_t (by decide), x0, x1, x2, bndT_r _ _ e7]
  dsimp only
  rw [if_neg (n_ge0 (by omega)), bndO_s _ e8]
  dsimp only
  rw [if_pos (show nI 0 = (0 : Int32) from rfl), bndT_r _ _ e9]
  dsimp only
  rw [if_pos (cmp_same _), bnd_d, bndO_s _ e10, bndO_s _ e11]
  dsimp only
  rw [bndO_s _ e12]
  dsimp only
  rw [if_pos (show nI 1 = (1 : Int32) from rfl), bndT_r _ _ e12c, bg, if_pos rfl, bndO_s _ e13]
  dsimp only
  rw [if_pos rfl, bnd_d, bndO_s _ e14, bndO_s _ e15]
  dsimp only
  rw [bndT_r _ _ e16]
  dsimp only
  rw [if_pos (cmp_same _), bnd_d, i_1, n_a]
theorem p_round {a12 : Int32} {i : Nat} (hF : 3000 ≤ F) (hL : L9 ≤ 260) (hS : ST P M t) (hi : i < 4) (hc : 1 ≤ sC1 P) (hn : 1 ≤ sN P) (t2 : t + 100000 < 1000000) :
    ∃ Q M' t', ST Q M' t' ∧ t' ≤ t + 40000 ∧ cnt P Q ∧ ∀ kont, st_L_law_56 F L9 xs9 a12 kont (nI i) M = kont (nI (i + 1)) M' := by
  obtain ⟨v, M1, d1, r1, t3, f1⟩ := p_draw (F := F) (xs9 := xs9) (n := 3) hL hS.2.2 (by omega) (by decide)
  obtain ⟨d, rfl, hd⟩ := d_nat r1
  have d3 : d < 3 := by have : ((3 : Int32).toInt) = 3 := rfl; omega
  have km1 : Km M M1 := (Km.rf M).d f1
  obtain ⟨P2, M2, t4, e2, hS2, q2, k2⟩ := p_chs (F := F) (xs9 := xs9) (a12 := a12) (a13 := nI i) hF hL d (14 - d) (show ST P M1 (t + 1) from ⟨km1.cI hS.1, km1.SV hS.2.1, t3⟩) hc hn (by omega) (by omega)
  rw [show 14 - d + d + 2 = 16 by omega] at e2
  obtain ⟨M3, e3, i3, g3⟩ := co_paint (F := F) hF hS2.1
  have l3 : sStale P2 ≤ 15 := cntB_le _ _
  have hp : pd (picP P2 (nPx P2)) := pd_pic P2
  have pe := PE_pic P2 (nPx P2)
  obtain ⟨Q, hQ⟩ : ∃ Q, Q = picP P2 (nPx P2) := ⟨_, rfl⟩
  rw [← hQ] at i3 hp pe
  have kQ : cnt P2 Q := ⟨pe.eC.symm, pe.eN.symm⟩
  have hS3 : ST Q M3 t4 := ⟨i3, (hS2.2.1.fr g3).pe pe, (g3 122 2 (by omega)).trans hS2.2.2⟩
  obtain ⟨M4, e4, i4, g4⟩ := co_stale (F := F) hF hS3.1
  rw [pd_stale hp] at e4
  have hS4 := hS3.fr i4 g4
  obtain ⟨M5, e5, i5, g5⟩ := co_paint (F := F) hF hS4.1
  rw [pd_stale hp] at e5
  rw [pd_same hp] at i5
  have hS5 := hS4.fr i5 g5
  obtain ⟨M6, e6, q6⟩ := cd_digest (F := F) hF hS5.1.1.1 hS5.1.2
  have j6 := hS5.1.q q6
  have hS6 := hS5.fr j6.1 j6.2
  obtain ⟨-, -, -, n30⟩ := hS6.c
  obtain ⟨r7, e7, t7, a7, hS7, l7⟩ := p_panes (F := F) (xs9 := xs9) (a47 := a12) (a48 := nI i) (b49 := dgAll Q) hF hL hS6 hp (by omega)
  obtain ⟨z7, M7⟩ := r7
  have a7 : z7 = nI (sAll Q (sN Q)) := a7
  subst a7
  have hS7 : ST Q M7 t7 := hS7
  obtain ⟨r8, e8, a8, hS8⟩ := p_none (F := F) (L9 := L9) (xs9 := xs9) (a144 := a12) (a145 := nI i) (b146 := dgAll Q) (a147 := nI (sAll Q (sN Q))) hF hS7 hp
  obtain ⟨z8, M8⟩ := r8
  have a8 : z8 = nI (sNone Q) := a8
  subst a8
  have hS8 : ST Q M8 t7 := hS8
  have sm9 := sum_all hS8.1.1.1 hp
  obtain ⟨M9, e9, i9, g9⟩ := co_greatest (F := F) hF hS8.1
  have hS9 := hS8.fr i9 g9
  have hcQ : 1 ≤ sC1 Q := by rw [kQ.1, k2.1]; exact hc
  have top : ∀ kont X, (if 0 ≤ (sGr Q (sN Q)).1 then bk_L_law_560_56 F L9 xs9 kont a12 (nI i) (dgAll Q) (nI (sNone Q)) 0 M9 else bk_L_law_560_56 F L9 xs9 kont a12 (nI i) (dgAll Q) (nI (sNone Q)) 1 M9) = X → st_L_law_56 F L9 xs9 a12 kont (nI i) M = X := fun kont X hX => by
    unfold st_L_law_56
    rw [if_neg (by rw [i_4, n_le (by omega) (by omega)]; omega), bndO_s _ d1]
    dsimp only
    rw [bnd_d, bndO_s _ e2, bndO_s _ e3]
    dsimp only
    rw [if_neg (by rw [i_15, n_lt (by omega) (by omega)]; omega), bndO_s _ e4]
    dsimp only
    rw [if_pos (show nI 0 = (0 : Int32) from rfl), bndO_s _ e5]
    dsimp only
    rw [if_pos (show nI 0 = (0 : Int32) from rfl), bndT_r _ _ e6]
    dsimp only
    rw [bnd_d, bnd_d, bnd_d, bndO_s _ e7]
    dsimp only
    rw [bnd_d, bnd_d, bndO_s _ e8]
    dsimp only
    rw [n_a, sm9, if_pos (show nI 960 = (960 : Int32) from rfl), bndO_s _ e9]
    exact hX
  have cQ9 : cnt P Q := k2.tr kQ
  rcases gr_none hS9.1.1.1 hp with ⟨u1, u2'⟩ | ⟨u1, j, hj, u2'⟩
  · obtain ⟨M', hS', e'⟩ := p_573 (F := F) (xs9 := xs9) (a12 := a12) (x := 1) (i := i) hF hL hS9 hp hi hcQ (by omega)
    refine ⟨Q, M', _, hS', by omega, cQ9, fun kont => top kont _ ?_⟩
    rw [u2', if_neg (by decide)]
    unfold bk_L_law_560_56
    rw [u1, if_pos (show nI 960 = (960 : Int32) from rfl)]
    exact e' kont
  · obtain ⟨M', hS', e'⟩ := p_573 (F := F) (xs9 := xs9) (a12 := a12) (x := 0) (i := i) hF hL hS9 hp hi hcQ (by omega)
    have l9 : sNone Q ≤ 960 := cntB_le _ _
    refine ⟨Q, M', _, hS', by omega, cQ9, fun kont => top kont _ ?_⟩
    rw [u2', if_pos (by rw [i_0, n_le (by omega) (by omega)]; omega)]
    unfold bk_L_law_560_56
    rw [if_neg (by rw [i_960, n_eq (by omega) (by omega)]; exact u1)]
    exact e' kont
/-- the law of one scene ends, and answers -/
theorem p_law {a1 : Int32} (hF : 3000 ≤ F) (hL : L9 ≤ 260) (hS : ST P M t) (c0 : sC1 P = 0) (n0 : sN P = 0) (t2 : t + 500000 < 1000000) : ∃ M', f_L_law F L9 xs9 a1 M = some M' := by
  obtain ⟨v, M1, d1, r1, t3, f1⟩ := p_draw (F := F) (xs9 := xs9) (n := 8) hL hS.2.2 (by omega) (by decide)
  obtain ⟨c, rfl, hc⟩ := d_nat r1
  have hc : c < 8 := by have : ((8 : Int32).toInt) = 8 := rfl; omega
  obtain ⟨v, M2, d2, r2, t4, f2⟩ := p_draw (F := F) (xs9 := xs9) (n := 7) hL t3 (by omega) (by decide)
  obtain ⟨n, rfl, hn⟩ := d_nat r2
  have hn : n < 7 := by have : ((7 : Int32).toInt) = 7 := rfl; omega
  have km : Km M M2 := ((Km.rf M).d f1).d f2
  obtain ⟨P3, M3, t5, e3, hS3, q3, c3, n3⟩ := p_build (F := F) (xs9 := xs9) (nc := 3 + c) (np := 1 + n) hF hL (show ST P M2 (t + 1 + 1) from ⟨km.cI hS.1, km.SV hS.2.1, t4⟩) c0 n0 (by omega) (by omega) (by omega)
  have L : ∃ M', lp_L_law_56 F L9 xs9 a1 16 0 M3 = some M' ∧ True := by
    refine run_up (fun n (s : Int32 × GM) => lp_L_law_56 F L9 xs9 a1 n s.1 s.2) (fun i s => s.1 = nI i ∧ ∃ Q t', ST Q s.2 t' ∧ t' ≤ t5 + 40000 * i ∧ cnt P3 Q) _ 0 4 16 (by omega) (by omega) (s := (0, M3)) ⟨rfl, P3, t5, hS3, by omega, cnt.rf P3⟩ ?_ ?_
    · rintro i ⟨x, M4⟩ - hi ⟨rfl, Q, t6, hS4, q4, k4⟩
      obtain ⟨Q5, M5, t7, hS5, q5, k5, e5⟩ := p_round (F := F) (xs9 := xs9) (a12 := a1) hF hL hS4 hi (by rw [k4.1]; omega) (by rw [k4.2]; omega) (by omega)
      refine ⟨(nI (i + 1), M5), ⟨rfl, Q5, t7, hS5, Nat.le_trans q5 (by rw [Nat.mul_succ, ← Nat.add_assoc]; exact Nat.add_le_add_right q4 40000), k4.tr k5⟩, fun n => ?_⟩
      show lp_L_law_56 F L9 xs9 a1 (n + 1) (nI i) M4 = lp_L_law_56 F L9 xs9 a1 n (nI (i + 1)) M5
      rw [el_L_law_56]
      exact e5 _
    · rintro ⟨x, M4⟩ ⟨rfl, -⟩
      refine ⟨M4, trivial, fun n => ?_⟩
      show lp_L_law_56 F L9 xs9 a1 (n + 1) (nI 4) M4 = _
      rw [el_L_law_56]
      unfold st_L_law_56
      rw [if_pos (by decide)]
  obtain ⟨M4, e4, -⟩ := L
  refine ⟨M4, ?_⟩
  unfold f_L_law
  rw [bndO_s _ d1]
  dsimp only
  rw [bndO_s _ d2]
  dsimp only
  rw [i_3, i_1, n_a, n_a, bndO_s _ e3]
  dsimp only
  rw [if_neg (by decide), bnd_d, bndO_s _ e4]
end LAW2
