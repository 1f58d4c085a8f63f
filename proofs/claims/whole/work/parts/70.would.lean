/-! PURE PART: calls about what would be -/
theorem inB_one {x y k : Nat} (hx : x < 40) (hk : k < 960) : inB x x y y k ↔ k = y * 40 + x := by unfold inB; omega
theorem op_colourNow {P : PM} {M : GM} {F : Nat} (hF : 3000 ≤ F) (hI : Inv P M) (a b : Int32) : Both WI (f_L_colourNow F a b M) (f_X11_colourNow F a b) := by
  obtain ⟨⟨hO, hD⟩, hC, hR⟩ := id hI
  obtain ⟨n1, n2, -, -⟩ := sN_of hO
  by_cases h1 : ptR a b
  rotate_left
  · refine op_fail (c := 1) hI (by unfold f_L_colourNow f_X10_colourNow; rw [c_reqPoint, if_neg h1]; rfl) (by omega) hC (fun _ _ _ => rfl) fun M1 hR1 => rEnd_no hR1 (by omega) ?_
    unfold f_X11_colourNow; rw [bnd_d, r_isPoint, one_if, if_neg h1]; rfl
  have h1' := h1
  obtain ⟨x, y, rfl, rfl, hx, hy⟩ := pt_in h1
  have ex : (nI x).toInt = x := n_int (by omega)
  have ey : (nI y).toInt = y := n_int (by omega)
  have k9 : y * 40 + x < 960 := by omega
  obtain ⟨b0, f0, l0⟩ := c_span (M := M) (o := 43) ex ey ex ey (by omega) (by omega) (by omega) (by omega)
  have hC0 : CS P (f_X0_span 43 (nI x) (nI y) (nI x) (nI y) M) := hC.to fun g k h => f0 g k (by unfold cqS at h; omega)
  obtain ⟨M1, e1, x1, f1, -⟩ := c_draw (F := F) (s := 31) (wo := -1) hF hO hC0.1 n1 n2 (by omega) (Or.inr rfl) b0
  have hC1 : CS P M1 := hC0.to fun g k h => f1 g k (by unfold cqS at h; unfold cdI fsI; omega)
  have ev : gI M1 32 (y * 40 + x) = (nPx P (y * 40 + x)).1 := congrArg (fun z : Px => z.1) ((x1 _ k9).1 ((inB_one hx k9).mpr rfl))
  refine op_ok (w := (nPx P (y * 40 + x)).1) (W := WI) (P' := P) (M' := M1) hI ?_ hI.1 hC1 (fun g k h => (f1 g k (by unfold cdI fsI; omega)).trans (f0 g k (by omega))) (fun M3 hR3 => ?_)
  · unfold f_L_colourNow f_X10_colourNow
    rw [c_reqPoint, if_pos h1', bndTr, bnd_d, bndO_s _ e1, pt_ix, gn_32, grd_t (n_in k9 (by omega)), n_cl (by omega), ev, bndTr]
    rfl
  · obtain ⟨M4, e4, x4, -, i4, l4, -⟩ := r_draw (F := F) (wo := -1) hF hO (RV_thr hR3 0) n1 n2
    refine rQ.fin (M' := M4) ?_ rfl (rQ.ra (RV_thr hR3 0) i4 l4)
    unfold f_X11_colourNow
    rw [bnd_d, r_isPoint, one_if, if_pos h1', bndO_s _ e4, pt_ix, gn_141, grd_t (n_in k9 (by omega)), n_cl (by omega)]
    rw [show gI M4 141 (y * 40 + x) = (nPx P (y * 40 + x)).1 from congrArg (fun z : Px => z.1) (x4 _ k9)]
/-- how many points would have another colour without a pane -/
def sSeenOf (P : PM) (p : Nat) : Nat := cntB (fun k => decide ((nPx P k).1 ≠ (sPix P (nI p) (sN P) k).1)) 960
theorem sPix_hid {P : PM} {p : Nat} (h : P 134 p = 0) (hp : p < 30) : ∀ i, i ≤ 30 → ∀ k, sPix P (nI p) i k = sPix P (-1) i k := by
  intro i
  induction i with
  | zero => intro _ k; rfl
  | succ i ih =>
    intro hi k
    have ih := ih (by omega) k
    have n1 : ¬ nI i = -1 := fun q => by
      have := congrArg Int32.toInt q
      rw [n_int (by omega), tv_m1] at this
      omega
    show (if P 134 i = 0 ∨ nI i = nI p then sPix P (nI p) i k else sP2 P i k (sPix P (nI p) i k)) = (if P 134 i = 0 ∨ nI i = -1 then sPix P (-1) i k else sP2 P i k (sPix P (-1) i k))
    rw [ih]
    by_cases c : P 134 i = 0
    · rw [if_pos (Or.inl c), if_pos (Or.inl c)]
    · have : ¬ nI i = nI p := fun q => by
        rw [n_eq (by omega) (by omega)] at q
        rw [q] at c; exact c h
      rw [if_neg (fun q => q.elim c this), if_neg (fun q => q.elim c n1)]
theorem sSeenOf_hid {P : PM} {p : Nat} (hO : OK P) (h : P 134 p = 0) (hp : p < 30) : sSeenOf P p = 0 := by
  obtain ⟨-, n2, -, -⟩ := sN_of hO
  unfold sSeenOf
  rw [cntB_congr (g := fun _ => false) fun k _ => ?_, cntB_ff]
  rw [sPix_hid h hp (sN P) n2 k, decide_eq_false_iff_not]
  intro q; exact q rfl
theorem op_seenOf {P : PM} {M : GM} {F : Nat} (hF : 3000 ≤ F) (hI : Inv P M) (a : Int32) : Both WI (f_L_seenOf F a M) (f_X11_seenOf F a) := by
  obtain ⟨⟨hO, hD⟩, hC, hR⟩ := id hI
  obtain ⟨n1, n2, -, -⟩ := sN_of hO
  by_cases h1 : inR a 0 ((sN P : Int) - 1)
  rotate_left
  · refine op_fail (c := 1) hI (by unfold f_L_seenOf f_X10_seenOf; rw [c_reqPane hO hC.1, if_neg h1]; rfl) (by omega) hC (fun _ _ _ => rfl) fun M1 hR1 => rEnd_no hR1 (by omega) ?_
    unfold f_X11_seenOf; rw [bnd_d, r_isPane hO (RV_thr hR1 _), one_if, if_neg h1]; rfl
  have h1' := h1
  obtain ⟨p, rfl, hp, p30⟩ := pane_in hO h1
  obtain ⟨-, -, -, -, -, -, e6⟩ := hC.1.2.2.2.1 p p30
  have ref : ∀ M1, RV P M1 → REnd P M1 (f_X11_seenOf F (nI p) M1) (nI (sSeenOf P p)) 0 := fun M1 hR1 => by
    have hR0 := RV_thr hR1 0
    obtain ⟨M4, e4, x4, -, i4, l4, -⟩ := r_draw (F := F) (wo := -1) hF hO hR0 n1 n2
    have q4 := rQ.ra hR0 i4 l4
    obtain ⟨M5, hM5⟩ : ∃ M5, M5 = sC M4 161 0 960 (fun j => gI M4 141 j) := ⟨_, rfl⟩
    have i5 : ∀ g k, g ≠ 161 → gI M5 g k = gI M4 g k := fun g k h => by rw [hM5, gI_sC, if_neg (by omega)]
    have c5 : ∀ k, k < 960 → gI M5 161 k = (nPx P k).1 := fun k hk => by
      rw [hM5, gI_sC, if_pos ⟨rfl, by omega, by omega⟩]
      exact congrArg (fun z : Px => z.1) (x4 k hk)
    have q5 : rQ P M4 M5 := rQ.of q4.1 (fun g k h => i5 g k (by unfold rqS at h; omega)) fun g k _ => by rw [hM5]; rfl
    obtain ⟨M6, e7, x6, -, i6, l6, -⟩ := r_draw (F := F) (wo := nI p) hF hO q5.1 n1 n2
    have q6 := rQ.ra q5.1 i6 l6
    have c6 : ∀ k, k < 960 → gI M6 161 k = (nPx P k).1 := fun k hk => by rw [i6 161 k (by unfold rA; omega)]; exact c5 k hk
    have d6 : ∀ k, k < 960 → gI M6 141 k = (sPix P (nI p) (sN P) k).1 := fun k hk => congrArg (fun z : Px => z.1) (x6 k hk)
    have L : ∃ q : Int32 × GM, lp_X11_seenOf_49 F F 0 0 M6 = some q ∧ q = (nI (sSeenOf P p), M6) := by
      refine run_up (fun n (s : Int32 × Int32 × GM) => lp_X11_seenOf_49 F n s.1 s.2.1 s.2.2) (fun i s => s.2.1 = nI i ∧ s.1 = nI (cntB (fun k => decide ((nPx P k).1 ≠ (sPix P (nI p) (sN P) k).1)) i) ∧ s.2.2 = M6) _ 0 960 F (by omega) (by omega) (s := (0, 0, M6)) ⟨rfl, rfl, rfl⟩ ?_ ?_
      · rintro i ⟨c, x, M7⟩ - hi ⟨rfl, rfl, hm⟩
        have hm : M7 = M6 := hm
        subst hm
        refine ⟨(nI (cntB (fun k => decide ((nPx P k).1 ≠ (sPix P (nI p) (sN P) k).1)) (i + 1)), nI (i + 1), M7), ⟨rfl, rfl, rfl⟩, fun n => ?_⟩
        show lp_X11_seenOf_49 F (n + 1) (nI (cntB (fun k => decide ((nPx P k).1 ≠ (sPix P (nI p) (sN P) k).1)) i)) (nI i) M7 = lp_X11_seenOf_49 F n (nI (cntB (fun k => decide ((nPx P k).1 ≠ (sPix P (nI p) (sN P) k).1)) i + if decide ((nPx P i).1 ≠ (sPix P (nI p) (sN P) i).1) = true then 1 else 0)) (nI (i + 1)) M7
        rw [el_X11_seenOf_49]
        unfold st_X11_seenOf_49
        rw [if_neg (by rw [i_960, n_le (by omega) (by omega)]; omega), gn_141, gn_161, n_in hi (by omega), n_cl (by omega), c6 i hi, d6 i hi, grdT, grdT]
        by_cases w : (nPx P i).1 = (sPix P (nI p) (sN P) i).1
        · rw [if_pos w.symm, if_neg (by rw [decide_eq_true_eq]; exact fun h => h w), bnd_d, bnd_d, i_0, i_1, n_a, n_a]
        · rw [if_neg (fun h => w h.symm), if_pos (decide_eq_true w), bnd_d, bnd_d, i_1, n_a, n_a]
      · rintro ⟨c, x, M7⟩ ⟨rfl, rfl, hm⟩
        have hm : M7 = M6 := hm
        subst hm
        refine ⟨_, rfl, fun n => ?_⟩
        show lp_X11_seenOf_49 F (n + 1) _ (nI 960) M7 = _
        rw [el_X11_seenOf_49]
        unfold st_X11_seenOf_49
        rw [if_pos (by decide)] <;> rfl
    obtain ⟨q, e8, rfl⟩ := L
    refine rQ.fin (M' := M6) ?_ rfl (q4.tr (q5.tr q6))
    unfold f_X11_seenOf
    rw [bnd_d, r_isPane hO hR0, one_if, if_pos h1', bndO_s _ e4, gn_141, gn_161, grd_t (by decide), grd_t (by decide), bnd_d, ← hM5, bndO_s _ e7, bnd_d, bnd_d, bndO_s _ e8]
  by_cases h2 : P 134 p = 0
  · refine op_ok (w := 0) (W := WI) (P' := P) (M' := M) hI ?_ hI.1 hC (fun _ _ _ => rfl) (fun M1 hR1 => ?_)
    · unfold f_L_seenOf f_X10_seenOf
      rw [c_reqPane hO hC.1, if_pos h1', bndTr, gn_2, grd_t (n_in p30 (by omega)), bnd_d, n_cl (by omega), gr_2, e6, if_pos h2, bndTr]
      rfl
    · have := ref M1 hR1
      rw [sSeenOf_hid hO h2 p30] at this
      exact this
  · obtain ⟨M1, e1, x1, f1, -⟩ := c_drawAll (F := F) (s := 31) (wo := -1) hF hO hC (by omega)
    have hC1 : CS P M1 := hC.to fun g k h => f1 g k (by unfold cqS at h; unfold cdI fsI; omega)
    obtain ⟨M2, e2, x2, f2, -⟩ := c_drawAll (F := F) (s := 35) (wo := nI p) hF hO hC1 (by omega)
    have hC2 : CS P M2 := hC1.to fun g k h => f2 g k (by unfold cqS at h; unfold cdI fsI; omega)
    have c6 : ∀ k, k < 960 → gI M2 32 k = (nPx P k).1 := fun k hk => by rw [f2 32 k (by unfold cdI fsI; omega)]; exact congrArg (fun z : Px => z.1) (x1 k hk)
    have d6 : ∀ k, k < 960 → gI M2 36 k = (sPix P (nI p) (sN P) k).1 := fun k hk => congrArg (fun z : Px => z.1) (x2 k hk)
    have L : ∃ q : Int32 × GM, lp_X10_seenOf_49 F F 0 0 M2 = some q ∧ q = (nI (sSeenOf P p), M2) := by
      refine run_up (fun n (s : Int32 × Int32 × GM) => lp_X10_seenOf_49 F n s.1 s.2.1 s.2.2) (fun i s => s.2.1 = nI i ∧ s.1 = nI (cntB (fun k => decide ((nPx P k).1 ≠ (sPix P (nI p) (sN P) k).1)) i) ∧ s.2.2 = M2) _ 0 960 F (by omega) (by omega) (s := (0, 0, M2)) ⟨rfl, rfl, rfl⟩ ?_ ?_
      · rintro i ⟨c, x, M7⟩ - hi ⟨rfl, rfl, hm⟩
        have hm : M7 = M2 := hm
        subst hm
        refine ⟨(nI (cntB (fun k => decide ((nPx P k).1 ≠ (sPix P (nI p) (sN P) k).1)) (i + 1)), nI (i + 1), M7), ⟨rfl, rfl, rfl⟩, fun n => ?_⟩
        show lp_X10_seenOf_49 F (n + 1) (nI (cntB (fun k => decide ((nPx P k).1 ≠ (sPix P (nI p) (sN P) k).1)) i)) (nI i) M7 = lp_X10_seenOf_49 F n (nI (cntB (fun k => decide ((nPx P k).1 ≠ (sPix P (nI p) (sN P) k).1)) i + if decide ((nPx P i).1 ≠ (sPix P (nI p) (sN P) i).1) = true then 1 else 0)) (nI (i + 1)) M7
        rw [el_X10_seenOf_49]
        unfold st_X10_seenOf_49
        rw [if_neg (by rw [i_960, n_le (by omega) (by omega)]; omega), gn_32, gn_36, n_in hi (by omega), n_cl (by omega), c6 i hi, d6 i hi, grdT, grdT]
        by_cases w : (nPx P i).1 = (sPix P (nI p) (sN P) i).1
        · rw [if_pos w, if_neg (by rw [decide_eq_true_eq]; exact fun h => h w), bnd_d, i_1, n_a] <;> rfl
        · rw [if_neg w, if_pos (decide_eq_true w), bnd_d, bnd_d, i_1, n_a, n_a]
      · rintro ⟨c, x, M7⟩ ⟨rfl, rfl, hm⟩
        have hm : M7 = M2 := hm
        subst hm
        refine ⟨_, rfl, fun n => ?_⟩
        show lp_X10_seenOf_49 F (n + 1) _ (nI 960) M7 = _
        rw [el_X10_seenOf_49]
        unfold st_X10_seenOf_49
        rw [if_pos (by decide)] <;> rfl
    obtain ⟨q, e8, rfl⟩ := L
    refine op_ok (w := nI (sSeenOf P p)) (W := WI) (P' := P) (M' := M2) hI ?_ hI.1 hC2 (fun g k h => (f2 g k (by unfold cdI fsI; omega)).trans (f1 g k (by unfold cdI fsI; omega))) ref
    unfold f_L_seenOf f_X10_seenOf
    rw [c_reqPane hO hC.1, if_pos h1', bndTr, gn_2, grd_t (n_in p30 (by omega)), bnd_d, n_cl (by omega), gr_2, e6, if_neg h2, bndO_s _ e1, bndO_s _ e2, bnd_d, bnd_d, bndO_s _ e8, bndTr]
    rfl
theorem op_glassAt {P : PM} {M : GM} {F : Nat} (hF : 3000 ≤ F) (hI : Inv P M) (a b : Int32) : Both WI (f_L_glassAt F a b M) (f_X11_glassAt F a b) := by
  obtain ⟨⟨hO, hD⟩, hC, hR⟩ := id hI
  obtain ⟨n1, n2, -, -⟩ := sN_of hO
  by_cases h1 : ptR a b
  rotate_left
  · refine op_fail (c := 1) hI (by unfold f_L_glassAt f_X10_glassAt; rw [c_reqPoint, if_neg h1]; rfl) (by omega) hC (fun _ _ _ => rfl) fun M1 hR1 => rEnd_no hR1 (by omega) ?_
    unfold f_X11_glassAt; rw [bnd_d, r_isPoint, one_if, if_neg h1]; rfl
  have h1' := h1
  obtain ⟨x, y, rfl, rfl, hx, hy⟩ := pt_in h1
  have ex : (nI x).toInt = x := n_int (by omega)
  have ey : (nI y).toInt = y := n_int (by omega)
  obtain ⟨kk, hkk⟩ : ∃ kk, kk = y * 40 + x := ⟨_, rfl⟩
  have k9 : kk < 960 := by omega
  have inb : ∀ k, k < 960 → (inB x x y y k ↔ k = kk) := fun k hk => by rw [hkk]; exact inB_one hx hk
  obtain ⟨b0, f0, l0⟩ := c_span (M := M) (o := 43) ex ey ex ey (by omega) (by omega) (by omega) (by omega)
  have hC0 : CS P (f_X0_span 43 (nI x) (nI y) (nI x) (nI y) M) := hC.to fun g k h => f0 g k (by unfold cqS at h; omega)
  obtain ⟨-, -, e14, -⟩ := hC0.1.1
  obtain ⟨M1, e1, x1, f1, -⟩ := c_blank (F := F) (s := 31) (o := 43) (col := P 122 5) hF (by omega) (Or.inr rfl) b0
  have L : ∃ q : Int32 × GM, lp_X10_glassAt_36 F F 0 0 M1 = some q ∧ (q.1 = nI (sGls P (sN P) kk) ∧ (∀ g k, ¬ cdI 31 g k → gI q.2 g k = gI (f_X0_span 43 (nI x) (nI y) (nI x) (nI y) M) g k)) := by
    refine run_up (fun m (z : Int32 × Int32 × GM) => lp_X10_glassAt_36 F m z.1 z.2.1 z.2.2) (fun i z => z.2.1 = nI i ∧ z.1 = nI (sGls P i kk) ∧ cPx z.2.2 31 kk = sPix P (-1) i kk ∧ (∀ g k, ¬ cdI 31 g k → gI z.2.2 g k = gI (f_X0_span 43 (nI x) (nI y) (nI x) (nI y) M) g k)) _ 0 (sN P) F (by omega) (by omega) (s := (0, 0, M1)) ⟨rfl, rfl, (x1 kk k9).1 ((inb kk k9).mpr rfl), fun g k h => f1 g k (fun q => h (Or.inr q))⟩ ?_ ?_
    · rintro i ⟨c, x0, M2⟩ - hi ⟨rfl, rfl, k1, k2⟩
      have hi3 : i < 30 := by omega
      have hC2 : CS P M2 := hC0.to fun g k h => k2 g k (by unfold cqS at h; unfold cdI fsI; omega)
      have hB2 : cBx M2 43 x x y y := b0.to fun k => k2 _ _ (by unfold cdI fsI; omega)
      obtain ⟨-, c13, -⟩ := hC2.1.1
      obtain ⟨-, -, -, -, -, -, e6⟩ := hC2.1.2.2.2.1 i hi3
      have n1' : ¬ nI i = -1 := fun q => by
        have := congrArg Int32.toInt q
        rw [n_int (by omega), tv_m1] at this
        omega
      have step : ∀ m, lp_X10_glassAt_36 F (m + 1) (nI (sGls P i kk)) (nI i) M2 = st_X10_glassAt_36 F (lp_X10_glassAt_36 F m) (nI (sGls P i kk)) (nI i) M2 := fun m => rfl
      have gs : sGls P (i + 1) kk = sGls P i kk + if ¬ P 134 i = 0 ∧ ¬ P 132 i = 0 ∧ sH2 P i kk (sPix P (-1) i kk) = true then 1 else 0 := rfl
      have px : sPix P (-1) (i + 1) kk = if P 134 i = 0 ∨ nI i = -1 then sPix P (-1) i kk else sP2 P i kk (sPix P (-1) i kk) := rfl
      by_cases h0 : P 134 i = 0
      · refine ⟨(nI (sGls P (i + 1) kk), nI (i + 1), M2), ⟨rfl, rfl, by rw [px, if_pos (Or.inl h0)]; exact k1, k2⟩, fun m => ?_⟩
        refine (step m).trans ?_
        unfold st_X10_glassAt_36
        rw [show gI M2 0 13 = nI (sN P) from c13.trans n1, if_neg (by rw [n_le (by omega) (by omega)]; omega), gn_2, grd_t (n_in hi3 (by omega)), bnd_d, n_cl (by omega), gr_2, e6, if_pos h0, bnd_d, i_1, n_a, gs, if_neg (fun q => q.1 h0)] <;> rfl
      · obtain ⟨v, M3, t3, v3, x3, f3, -⟩ := c_drawPane (F := F) (s := 31) hF hO hC2.1 hi3 (by omega) (Or.inr rfl) hB2 (fun k hk h => by rw [(inb k hk).mp h, k1]; exact sPix_OK hO (-1) i kk)
        have v4 : fl v (sH2 P i kk (sPix P (-1) i kk) = true) := by
          refine v3.congr ⟨?_, fun h => ⟨kk, k9, (inb kk k9).mpr rfl, by rw [k1]; exact h⟩⟩
          rintro ⟨k, q1, q2, q3⟩
          have := (inb k q1).mp q2
          subst this
          rw [k1] at q3; exact q3
        have k3 : ∀ g k, ¬ cdI 31 g k → gI M3 g k = gI (f_X0_span 43 (nI x) (nI y) (nI x) (nI y) M) g k := fun g k h => (f3 g k h).trans (k2 g k h)
        have e4 : gI M3 (84 + i) 4 = P 132 i := by
          have hC3 : CS P M3 := hC0.to fun g k h => k3 g k (by unfold cqS at h; unfold cdI fsI; omega)
          exact (hC3.1.2.2.2.1 i hi3).2.2.2.2.1
        refine ⟨(nI (sGls P (i + 1) kk), nI (i + 1), M3), ⟨rfl, rfl, by rw [px, if_neg (fun q => q.elim h0 n1'), (x3 kk k9).1 ((inb kk k9).mpr rfl), k1], k3⟩, fun m => ?_⟩
        refine (step m).trans ?_
        unfold st_X10_glassAt_36
        rw [show gI M2 0 13 = nI (sN P) from c13.trans n1, if_neg (by rw [n_le (by omega) (by omega)]; omega), gn_2, grd_t (n_in hi3 (by omega)), bnd_d, n_cl (by omega), gr_2, e6, if_neg h0, bndO_s _ t3]
        show (if v = 0 then _ else _) = _
        rcases v4 with ⟨hv, w⟩ | ⟨hv, w⟩
        · rw [hv, if_neg (by decide), grd_t (n_in hi3 (by omega)), bnd_d, e4]
          by_cases c : P 132 i = 0
          · rw [if_pos c, bnd_d, i_1, n_a, gs, if_neg (fun q => q.2.1 c)] <;> rfl
          · rw [if_neg c, bnd_d, bnd_d, i_1, n_a, n_a, gs, if_pos ⟨h0, c, w⟩]
        · rw [hv, if_pos rfl, bnd_d, i_1, n_a, gs, if_neg (fun q => w q.2.2)] <;> rfl
    · rintro ⟨c, x0, M2⟩ ⟨rfl, rfl, k1, k2⟩
      have hC2 : CS P M2 := hC0.to fun g k h => k2 g k (by unfold cqS at h; unfold cdI fsI; omega)
      refine ⟨(nI (sGls P (sN P) kk), M2), ⟨rfl, k2⟩, fun m => ?_⟩
      show lp_X10_glassAt_36 F (m + 1) _ (nI _) M2 = _
      rw [el_X10_glassAt_36]
      unfold st_X10_glassAt_36
      rw [show gI M2 0 13 = nI (sN P) from hC2.1.1.2.1.trans n1, if_pos (by rw [n_le (by omega) (by omega)]; omega)]
  obtain ⟨⟨c, M2⟩, e2, rfl, f2⟩ := L
  have hC2 : CS P M2 := hC0.to fun g k h => f2 g k (by unfold cqS at h; unfold cdI fsI; omega)
  refine op_ok (w := nI (sGls P (sN P) kk)) (W := WI) (P' := P) (M' := M2) hI ?_ hI.1 hC2 (fun g k h => (f2 g k (by unfold cdI fsI; omega)).trans (f0 g k (by omega))) (fun M3 hR3 => ?_)
  · unfold f_L_glassAt f_X10_glassAt
    rw [c_reqPoint, if_pos h1', bndTr, bnd_d, e14, bndO_s _ e1, bnd_d, bnd_d, bndO_s _ e2, bndTr]
    rfl
  · have hR0 := RV_thr hR3 0
    obtain ⟨M4, hM4⟩ : ∃ M4, M4 = sI (sI M3 122 0 0) 122 25 (nI kk) := ⟨_, rfl⟩
    have i4 : ∀ g k, ¬ (g = 122 ∧ k = 25) → gI M4 g k = gI (sI M3 122 0 0) g k := fun g k h => by rw [hM4, gI_sI, if_neg h]
    have q4 : rQ P (sI M3 122 0 0) M4 := rQ.of hR0 (fun g k h => i4 g k (fun q => h (Or.inr (Or.inr q)))) fun g k _ => by rw [hM4]; rfl
    obtain ⟨M5, e5, -, g5, i5, l5, -⟩ := r_draw (F := F) (wo := -1) hF hO q4.1 n1 n2
    have q5 := rQ.ra q4.1 i5 l5
    have g24 : gI M5 122 24 = nI (sGls P (sN P) kk) := g5 kk k9 (by rw [hM4, gI_sI, if_pos ⟨rfl, rfl⟩]) rfl
    have q6 : rQ P M5 (sI M5 122 25 (-1)) := rQ.of q5.1 (fun g k h => by rw [gI_sI, if_neg (fun q => h (Or.inr (Or.inr q)))]) fun _ _ _ => rfl
    refine rQ.fin (M' := sI M5 122 25 (-1)) ?_ rfl (q4.tr (q5.tr q6))
    unfold f_X11_glassAt
    rw [bnd_d, r_isPoint, one_if, if_pos h1', pt_ix, ← hkk, bnd_d, ← hM4, bndO_s _ e5, bnd_d, gI_sI, if_neg (by omega), g24]
