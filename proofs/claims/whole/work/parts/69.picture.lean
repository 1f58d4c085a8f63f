/-! PURE PART: calls about the picture -/
def BothP (fc : Option (Int32 × GM)) (rf : GM → Option (Int32 × GM)) : Prop := ∃ v M1 M2 P', fc = some (v, M1) ∧ rf M1 = some (v, M2) ∧ Inv P' M2
theorem op_p {P P' : PM} {M M' : GM} {fc : Option (Int32 × GM)} {rf : GM → Option (Int32 × GM)} {v : Int32} (hI : Inv P M) (hfc : fc = some (v, M')) (hK : OK P' ∧ DJ P') (hC : CS P' M') (hf : ∀ g k, 122 ≤ g → gI M' g k = gI M g k) (hr : ∀ M1, RV P M1 → ∃ M2, rf M1 = some (v, M2) ∧ RV P' M2 ∧ ∀ g k, g < 122 → gI M2 g k = gI M1 g k) : BothP fc rf := by
  obtain ⟨M2, e1, e2, e3⟩ := hr M' (hI.2.2.to fun g k h => hf g k (by omega))
  exact ⟨v, M', M2, P', hfc, e1, hK, ⟨hC.1.to fun g k h => e3 g k (by unfold cvS at h; omega), hC.2.to fun k => e3 _ _ (by omega)⟩, e2⟩
theorem op_corners {P : PM} {M : GM} {F : Nat} (hI : Inv P M) : BothP (some (f_X10_corners M, M)) (f_X11_corners F) := by
  obtain ⟨⟨hO, hD⟩, hC, hR⟩ := id hI
  refine op_p (P' := P) (v := P 122 1) hI (by rw [show f_X10_corners M = P 122 1 from hC.1.1.1]) hI.1 hC (fun _ _ _ => rfl) fun M1 hR1 => ⟨sI M1 122 0 0, ?_, RV_thr hR1 0, fun g k h => by rw [gI_sI, if_neg (by omega)]⟩
  unfold f_X11_corners f_X11_ok
  rw [hR1.1 1 (by omega) (by omega)]; rfl
theorem op_panes {P : PM} {M : GM} {F : Nat} (hI : Inv P M) : BothP (some (f_X10_panes M, M)) (f_X11_panes F) := by
  obtain ⟨⟨hO, hD⟩, hC, hR⟩ := id hI
  refine op_p (P' := P) (v := P 122 2) hI (by rw [show f_X10_panes M = P 122 2 from hC.1.1.2.1]) hI.1 hC (fun _ _ _ => rfl) fun M1 hR1 => ⟨sI M1 122 0 0, ?_, RV_thr hR1 0, fun g k h => by rw [gI_sI, if_neg (by omega)]⟩
  unfold f_X11_panes f_X11_ok
  rw [hR1.1 2 (by omega) (by omega)]; rfl
theorem rq_look {P : PM} {M : GM} {F : Nat} (hF : 3000 ≤ F) (hO : OK P) (hR : RV P M) :
    ∃ M', f_X11_look F M = some (nI (sStale P), M') ∧ (∀ k, k < 960 → rPx M' k = nPx P k) ∧ (∀ t, t < 15 → gI M' 160 t = if dTile (nPx P) (pPx P) t = true then 1 else 0) ∧ rQ P M M' := by
  obtain ⟨M', e, x, o, f, l⟩ := r_look (F := F) hF hO hR
  exact ⟨M', e, x, o, rQ.of hR (fun g k h => f g k fun q => h (q.elim Or.inl fun e => Or.inr (Or.inl ⟨by omega, by omega⟩))) l⟩
theorem op_stale {P : PM} {M : GM} {F : Nat} (hF : 3000 ≤ F) (hI : Inv P M) : BothP (f_X10_stale F M) (f_X11_stale F) := by
  obtain ⟨⟨hO, hD⟩, hC, hR⟩ := id hI
  obtain ⟨M1, M2, e1, e2, -, f2, -⟩ := c_look0 (F := F) hF hO hC
  have q := cQ.of hC f2
  refine op_p (P' := P) (v := nI (sStale P)) (M' := M2) hI (by unfold f_X10_stale; rw [bndO_s _ e1, bndO_s _ e2]) hI.1 q.1 q.2 fun M3 hR3 => ?_
  obtain ⟨M4, e4, -, -, q4⟩ := rq_look (F := F) hF hO hR3
  refine ⟨sI M4 122 0 0, ?_, RV_thr q4.1 0, fun g k h => by rw [gI_sI, if_neg (by omega)]; exact q4.2.1 g k h⟩
  unfold f_X11_stale
  rw [bndO_s _ e4]; rfl
/-- P with another picture -/
def picP (P : PM) (f : Nat → Px) : PM := fun g k => if k < 960 then (if g = 138 then (f k).1 else if g = 139 then (f k).2.1 else if g = 140 then (f k).2.2 else P g k) else P g k
theorem picP_o (P : PM) (f : Nat → Px) {g k : Nat} (h : ¬ (138 ≤ g ∧ g ≤ 140 ∧ k < 960)) : picP P f g k = P g k := by
  unfold picP
  by_cases q : k < 960
  · rw [if_pos q, if_neg (by omega), if_neg (by omega), if_neg (by omega)]
  · rw [if_neg q]
theorem picP_8 (P : PM) (f : Nat → Px) {k : Nat} (h : k < 960) : picP P f 138 k = (f k).1 ∧ picP P f 139 k = (f k).2.1 ∧ picP P f 140 k = (f k).2.2 := by
  unfold picP
  exact ⟨by rw [if_pos h, if_pos rfl], by rw [if_pos h, if_neg (by omega), if_pos rfl], by rw [if_pos h, if_neg (by omega), if_neg (by omega), if_pos rfl]⟩
theorem picP_OK {P : PM} {f : Nat → Px} (h : OK P) (hf : ∀ k, k < 960 → pxOK (f k)) : OK (picP P f) := by
  rw [OK_iff] at h ⊢
  intro g k
  by_cases q : 138 ≤ g ∧ g ≤ 140 ∧ k < 960
  · obtain ⟨h8, h9, h0⟩ := picP_8 P f q.2.2
    rcases (show g = 138 ∨ g = 139 ∨ g = 140 by omega) with rfl | rfl | rfl
    · rw [h8]; exact okC_col (by omega) (hf k q.2.2)
    · exact okC_no (by omega)
    · exact okC_no (by omega)
  · rw [picP_o P f q]; exact h g k
theorem picP_DJ {P : PM} {f : Nat → Px} (h : DJ P) : DJ (picP P f) := DJ_same h (picP_o P f (by omega)) fun k => picP_o P f (by omega)
theorem cm_pic' {g k a b : Nat} (h : cm g k a b) : (138 ≤ g ∧ g ≤ 140 ∧ k < 960 ∧ a + 110 = g ∧ b = k) ∨ (¬ (138 ≤ g ∧ g ≤ 140 ∧ k < 960) ∧ ¬ (28 ≤ a ∧ a ≤ 30)) := by
  unfold cm at h
  rcases h with h | h | h | h | h | h | h | h <;> omega
theorem picP_CS {P : PM} {M M' : GM} {f : Nat → Px} (h : CS P M) (hx : ∀ k, k < 960 → cPx M' 27 k = f k) (hf : ∀ g k, ¬ (28 ≤ g ∧ g ≤ 30) → gI M' g k = gI M g k) : CS (picP P f) M' := by
  refine ⟨?_, h.2.to fun k => hf _ _ (by omega)⟩
  have hv := (CV_iff P M).mp h.1
  rw [CV_iff]
  intro g k a b hc
  rcases cm_pic' hc with ⟨h1, h2, h3, h4, rfl⟩ | ⟨h1, h2⟩
  · obtain ⟨h8, h9, h0⟩ := picP_8 P f h3
    have e := hx b h3
    rcases (show a = 28 ∨ a = 29 ∨ a = 30 by omega) with rfl | rfl | rfl <;> subst h4
    · rw [h8, ← e]; rfl
    · rw [h9, ← e]; rfl
    · rw [h0, ← e]; rfl
  · rw [picP_o P f h1, hf a b h2]; exact hv g k a b hc
theorem picP_RV {P : PM} {M M' : GM} {f : Nat → Px} (h : RV P M) (hx : ∀ k, k < 960 → (gI M' 138 k, gI M' 139 k, gI M' 140 k) = f k) (hf : ∀ g k, ¬ (138 ≤ g ∧ g ≤ 140 ∧ k < 960) → gI M' g k = gI M g k) : RV (picP P f) M' := by
  refine ⟨fun k a b => by rw [hf _ _ (by omega), picP_o P f (by omega)]; exact h.1 k a b, fun g k a b => ?_⟩
  by_cases q : 138 ≤ g ∧ g ≤ 140 ∧ k < 960
  · obtain ⟨h8, h9, h0⟩ := picP_8 P f q.2.2
    have e := hx k q.2.2
    rcases (show g = 138 ∨ g = 139 ∨ g = 140 by omega) with rfl | rfl | rfl
    · rw [h8, ← e]
    · rw [h9, ← e]
    · rw [h0, ← e]
  · rw [hf g k q, picP_o P f q]; exact h.2 g k a b
theorem r_empty {P : PM} {M : GM} {F : Nat} (hF : 3000 ≤ F) (hR : RV P M) : ∃ M', f_X11_empty F M = some M' ∧ RV (picP P (fun _ => sBg P)) M' ∧ (∀ g k, g < 122 → gI M' g k = gI M g k) := by
  have L : ∃ M', lp_X11_empty_2 F F 0 M = some M' ∧ ((∀ k, k < 960 → (gI M' 138 k, gI M' 139 k, gI M' 140 k) = sBg P) ∧ (∀ g k, ¬ (138 ≤ g ∧ g ≤ 140 ∧ k < 960) → gI M' g k = gI M g k)) := by
    refine run_up (fun n (s : Int32 × GM) => lp_X11_empty_2 F n s.1 s.2) (fun i s => s.1 = nI i ∧ (∀ k, k < i → (gI s.2 138 k, gI s.2 139 k, gI s.2 140 k) = sBg P) ∧ (∀ g k, ¬ (138 ≤ g ∧ g ≤ 140 ∧ k < 960) → gI s.2 g k = gI M g k)) _ 0 960 F (by omega) (by omega) (s := (0, M)) ⟨rfl, fun k h => absurd h (by omega), fun _ _ _ => rfl⟩ ?_ ?_
    · rintro i ⟨x, M1⟩ - hi ⟨rfl, k1, k2⟩
      have e5 : gI M1 122 5 = P 122 5 := (k2 122 5 (by omega)).trans (hR.1 5 (by omega) (by omega))
      refine ⟨(nI (i + 1), sI (sI (sI M1 138 i (P 122 5)) 139 i 65535) 140 i (-1)), ⟨rfl, fun k hk => ?_, fun g k h => ?_⟩, fun n => ?_⟩
      · by_cases q : k = i
        · subst q
          unfold sBg
          simp only [gI_sI]
          simp
        · rw [← k1 k (by omega)]
          simp only [gI_sI, q, and_false, if_false]
      · rw [gI_sI, if_neg (by omega), gI_sI, if_neg (by omega), gI_sI, if_neg (by omega)]; exact k2 g k h
      · show lp_X11_empty_2 F (n + 1) (nI i) M1 = _
        rw [el_X11_empty_2]
        unfold st_X11_empty_2
        rw [if_neg (by rw [i_960, n_le (by omega) (by omega)]; omega), gn_138, gn_139, gn_140, n_in hi (by omega), n_cl (by omega), e5]
        simp only [grdT, bnd_d, i_1, n_a]
    · rintro ⟨x, M1⟩ ⟨rfl, k1, k2⟩
      refine ⟨M1, ⟨k1, k2⟩, fun n => ?_⟩
      show lp_X11_empty_2 F (n + 1) (nI 960) M1 = _
      rw [el_X11_empty_2]
      unfold st_X11_empty_2
      rw [if_pos (by decide)]
  obtain ⟨M', e, k1, k2⟩ := L
  refine ⟨M', ?_, picP_RV hR k1 k2, fun g k h => k2 g k (by omega)⟩
  unfold f_X11_empty
  rw [bnd_d, bndO_s _ e]
theorem op_clear {P : PM} {M : GM} {F : Nat} (hF : 3000 ≤ F) (hI : Inv P M) : BothP (f_X10_clear F M) (f_X11_clear F) := by
  obtain ⟨⟨hO, hD⟩, hC, hR⟩ := id hI
  have hO' : OK (picP P (fun _ => sBg P)) := picP_OK hO fun _ _ => hO.2.2.2.1
  have hD' : DJ (picP P (fun _ => sBg P)) := picP_DJ hD
  obtain ⟨-, -, e14, -⟩ := hC.1.1
  obtain ⟨M0, e0, x0, f0, -⟩ := c_blank (F := F) (s := 27) (o := 42) (col := P 122 5) hF (by omega) (by omega) hC.2
  have hC0 : CS (picP P (fun _ => sBg P)) M0 := picP_CS hC (fun k hk => (x0 k hk).1 (inB_all hk)) (fun g k h => f0 g k (by omega))
  generalize hP : picP P (fun _ => sBg P) = P' at hO' hD' hC0
  obtain ⟨M1, M2, e1, e2, -, f2, -⟩ := c_look0 (F := F) hF hO' hC0
  have q := cQ.of hC0 f2
  refine op_p (P' := P') (v := nI (sStale P')) (M' := M2) hI (by unfold f_X10_clear; rw [e14, bndO_s _ e0, bndO_s _ e1, bndO_s _ e2]) ⟨hO', hD'⟩ q.1 (fun g k h => (q.2 g k h).trans (f0 g k (by omega))) fun M3 hR3 => ?_
  obtain ⟨M4, e4, h4, g4⟩ := r_empty (F := F) hF hR3
  rw [hP] at h4
  obtain ⟨M5, e5, -, -, q5⟩ := rq_look (F := F) hF hO' h4
  refine ⟨sI M5 122 0 0, ?_, RV_thr q5.1 0, fun g k h => by rw [gI_sI, if_neg (by omega), q5.2.1 g k h]; exact g4 g k h⟩
  unfold f_X11_clear
  rw [bndO_s _ e4, bndO_s _ e5]; rfl
theorem c_copyScr {M : GM} {F : Nat} : ∃ M', f_X7_copy F 27 31 M = some M' ∧ (∀ k, k < 960 → cPx M' 27 k = cPx M 31 k) ∧ (∀ g k, ¬ (28 ≤ g ∧ g ≤ 30) → gI M' g k = gI M g k) := by
  refine ⟨sC (sC (sC M (27 + 1) 0 960 (fun j => gI M (31 + 1) j)) (27 + 2) 0 960 (fun j => gI M (31 + 2) j)) (27 + 3) 0 960 (fun j => gI M (31 + 3) j), ?_, fun k hk => ?_, fun g k h => ?_⟩
  · unfold f_X7_copy
    rw [gN_scr (by omega) (by omega) (by omega), gN_scr (by omega) (by omega) (by omega), gN_scr (by omega) (by omega) (by omega), gN_scr (by omega) (by omega) (by omega), gN_scr (by omega) (by omega) (by omega), gN_scr (by omega) (by omega) (by omega)]
    rw [grd_t (by decide), grd_t (by decide), bnd_d, grd_t (by decide), grd_t (by decide), bnd_d, grd_t (by decide), grd_t (by decide), bnd_d]
    rfl
  · unfold cPx
    simp only [gI_sC]
    simp [hk]
  · rw [gI_sC, if_neg (by omega), gI_sC, if_neg (by omega), gI_sC, if_neg (by omega)]
theorem op_paint {P : PM} {M : GM} {F : Nat} (hF : 3000 ≤ F) (hI : Inv P M) : BothP (f_X10_paint F M) (f_X11_paint F) := by
  obtain ⟨⟨hO, hD⟩, hC, hR⟩ := id hI
  have hO' : OK (picP P (nPx P)) := picP_OK hO fun k _ => sPix_OK hO (-1) (sN P) k
  have hD' : DJ (picP P (nPx P)) := picP_DJ hD
  obtain ⟨M1, M2, e1, e2, x2, f2, -⟩ := c_look0 (F := F) hF hO hC
  have q := cQ.of hC f2
  obtain ⟨M3, e3, x3, f3⟩ := c_copyScr (M := M2) (F := F)
  have hC' : CS (picP P (nPx P)) M3 := picP_CS q.1 (fun k hk => (x3 k hk).trans (x2 k hk)) f3
  refine op_p (P' := picP P (nPx P)) (v := nI (sStale P)) (M' := M3) hI (by unfold f_X10_paint; rw [bndO_s _ e1, bndO_s _ e2]; show bnd (nI (sStale P)) _ = _; rw [bnd_d, bndO_s _ e3]) ⟨hO', hD'⟩ hC' (fun g k h => (f3 g k (by omega)).trans (q.2 g k h)) fun M4 hR4 => ?_
  obtain ⟨M5, e5, x5, -, q5⟩ := rq_look (F := F) hF hO hR4
  have L : ∃ M', lp_X11_paint_7 F (nI (sStale P)) F 0 M5 = some M' ∧ ((∀ k, k < 960 → (gI M' 138 k, gI M' 139 k, gI M' 140 k) = nPx P k) ∧ (∀ g k, ¬ (138 ≤ g ∧ g ≤ 140 ∧ k < 960) → gI M' g k = gI M5 g k)) := by
    refine run_up (fun n (s : Int32 × GM) => lp_X11_paint_7 F (nI (sStale P)) n s.1 s.2) (fun i s => s.1 = nI i ∧ (∀ k, k < i → (gI s.2 138 k, gI s.2 139 k, gI s.2 140 k) = nPx P k) ∧ (∀ g k, ¬ (138 ≤ g ∧ g ≤ 140 ∧ k < 960) → gI s.2 g k = gI M5 g k)) _ 0 960 F (by omega) (by omega) (s := (0, M5)) ⟨rfl, fun k h => absurd h (by omega), fun _ _ _ => rfl⟩ ?_ ?_
    · rintro i ⟨x, M6⟩ - hi ⟨rfl, k1, k2⟩
      have ex := x5 i hi
      have e141 : gI M6 141 i = (nPx P i).1 := by rw [← ex]; exact k2 141 i (by omega)
      have e142 : gI (sI M6 138 i (nPx P i).1) 142 i = (nPx P i).2.1 := by rw [gI_sI, if_neg (by omega), ← ex]; exact k2 142 i (by omega)
      have e143 : gI (sI (sI M6 138 i (nPx P i).1) 139 i (nPx P i).2.1) 143 i = (nPx P i).2.2 := by rw [gI_sI, if_neg (by omega), gI_sI, if_neg (by omega), ← ex]; exact k2 143 i (by omega)
      refine ⟨(nI (i + 1), sI (sI (sI M6 138 i (nPx P i).1) 139 i (nPx P i).2.1) 140 i (nPx P i).2.2), ⟨rfl, fun k hk => ?_, fun g k h => ?_⟩, fun n => ?_⟩
      · by_cases q : k = i
        · subst q
          simp only [gI_sI]
          simp
        · rw [← k1 k (by omega)]
          simp only [gI_sI, q, and_false, if_false]
      · rw [gI_sI, if_neg (by omega), gI_sI, if_neg (by omega), gI_sI, if_neg (by omega)]; exact k2 g k h
      · show lp_X11_paint_7 F (nI (sStale P)) (n + 1) (nI i) M6 = _
        rw [el_X11_paint_7]
        unfold st_X11_paint_7
        rw [if_neg (by rw [i_960, n_le (by omega) (by omega)]; omega), gn_141, gn_142, gn_143, gn_138, gn_139, gn_140, n_in hi (by omega), n_cl (by omega), grdT, grdT, bnd_d, e141, grdT, grdT, bnd_d, e142, grdT, grdT, bnd_d, e143, bnd_d, i_1, n_a]
    · rintro ⟨x, M6⟩ ⟨rfl, k1, k2⟩
      refine ⟨M6, ⟨k1, k2⟩, fun n => ?_⟩
      show lp_X11_paint_7 F (nI (sStale P)) (n + 1) (nI 960) M6 = _
      rw [el_X11_paint_7]
      unfold st_X11_paint_7
      rw [if_pos (by decide)]
  obtain ⟨M6, e6, k1, k2⟩ := L
  refine ⟨sI M6 122 0 0, ?_, RV_thr (picP_RV q5.1 k1 k2) 0, fun g k h => by rw [gI_sI, if_neg (by omega), k2 g k (by omega)]; exact q5.2.1 g k h⟩
  unfold f_X11_paint
  rw [bndO_s _ e5]
  show bnd (nI (sStale P)) _ = _
  rw [bnd_d, bnd_d, bndO_s _ e6]; rfl
theorem op_isStale {P : PM} {M : GM} {F : Nat} (hF : 3000 ≤ F) (hI : Inv P M) (a : Int32) : Both WB (f_L_isStale F a M) (f_X11_isStale F a) := by
  obtain ⟨⟨hO, hD⟩, hC, hR⟩ := id hI
  obtain ⟨n1, n2, -, -⟩ := sN_of hO
  by_cases h1 : inR a 0 14
  rotate_left
  · refine op_fail (c := 1) hI (by unfold f_L_isStale f_X10_isStale; rw [w_in a tv_0 tv_14, one_if, if_neg h1]; rfl) (by omega) hC (fun _ _ _ => rfl) fun M1 hR1 => rEnd_no hR1 (by omega) ?_
    unfold f_X11_isStale; rw [bnd_d, w_in' a tv_0 tv_14, one_if, if_neg h1]; rfl
  have h1' := h1
  obtain ⟨t, rfl, ht⟩ := in_nat' h1 (by omega)
  have t15 : t < 15 := by omega
  obtain ⟨b0, f0, l0⟩ := c_spanTile (M := M) t15
  have hC0 : CS P (f_X10_spanTile (nI t) M) := hC.to fun g k h => f0 g k (by unfold cqS at h; omega)
  obtain ⟨M1, e1, x1, f1, -⟩ := c_draw (F := F) (s := 31) (wo := -1) hF hO hC0.1 n1 n2 (by omega) (Or.inr rfl) b0
  have hC1 : CS P M1 := hC0.to fun g k h => f1 g k (by unfold cqS at h; unfold cdI fsI; omega)
  obtain ⟨v, e2, v2⟩ := c_differs (F := F) (M := M1) (s1 := 31) (s2 := 27) hF (by omega) (by omega) (b0.to fun k => f1 43 k (by unfold cdI fsI; omega))
  have v3 : fl v (dTile (nPx P) (pPx P) t = true) := by
    refine v2.congr ?_
    rw [dTile_iff]
    constructor
    · rintro ⟨k, k1, k2, k3⟩
      rw [(x1 k k1).1 k2, c_pic hC1.1 k k1] at k3
      exact ⟨k, k1, (inB_tile t15 k1).mp k2, k3⟩
    · rintro ⟨k, k1, k2, k3⟩
      have k2' := (inB_tile t15 k1).mpr k2
      exact ⟨k, k1, k2', by rw [(x1 k k1).1 k2', c_pic hC1.1 k k1]; exact k3⟩
  have ev : v = if dTile (nPx P) (pPx P) t = true then 1 else 0 := by
    rcases v3 with ⟨h, h2⟩ | ⟨h, h2⟩
    · rw [h, if_pos h2]
    · rw [h, if_neg h2]
  refine op_ok (w := v) (W := WB) (P' := P) (M' := M1) hI ?_ hI.1 hC1 (fun g k h => (f1 g k (by unfold cdI fsI; omega)).trans (f0 g k (by omega))) (fun M3 hR3 => ?_)
  · unfold f_L_isStale f_X10_isStale
    rw [w_in _ tv_0 tv_14, one_if, if_pos h1', bnd_d, bndO_s _ e1, bndO_s _ e2, v3.tf, grdT, bndTr]
    show (if v = 0 then _ else _) = _
    unfold WB
    rcases v3 with ⟨h, -⟩ | ⟨h, -⟩ <;> rw [h] <;> rfl
  · obtain ⟨M4, e4, -, o4, q4⟩ := rq_look (F := F) hF hO (RV_thr hR3 0)
    refine rQ.fin (M' := M4) (b := v) ?_ rfl q4
    unfold f_X11_isStale
    rw [bnd_d, w_in' _ tv_0 tv_14, one_if, if_pos h1', bndO_s _ e4]
    show grd (gIn (nI t) (gN 160)) (grd (gTf (gI M4 160 (nI t).toNatClampNeg)) (some (gI M4 160 (nI t).toNatClampNeg, M4))) = _
    rw [gn_160, grd_t (n_in t15 (by omega)), n_cl (by omega), o4 t t15, ← ev, v3.tf, grdT]
theorem pt_ix {x y : Nat} : nI y * (40 : Int32) + nI x = nI (y * 40 + x) := by rw [i_40, n_m, n_a]
theorem r_inPic {P : PM} {M1 : GM} {F x y g : Nat} (hR : RV P M1) (hx : x < 40) (hy : y < 24) (hg : 138 ≤ g ∧ g ≤ 140) (h : ptR (nI x) (nI y)) : f_X11_inPicture F (nI x) (nI y) g M1 = some (P g (y * 40 + x), sI M1 122 0 0) := by
  have gl : gN g = 960 := by rcases (show g = 138 ∨ g = 139 ∨ g = 140 by omega) with rfl | rfl | rfl <;> decide +kernel
  unfold f_X11_inPicture
  rw [bnd_d, r_isPoint, one_if, if_pos h, pt_ix, gl, grd_t (n_in (by omega) (by omega)), n_cl (by omega), (RV_thr hR 0).2 g _ (by omega) (by omega)]
theorem r_inPicNo {M1 : GM} {F g : Nat} {a b : Int32} (h : ¬ ptR a b) : f_X11_inPicture F a b g M1 = some (0, sI (sI M1 122 0 0) 122 0 (nI 1)) := by
  unfold f_X11_inPicture
  rw [bnd_d, r_isPoint, one_if, if_neg h]; rfl
theorem op_colourAt {P : PM} {M : GM} {F : Nat} (hI : Inv P M) (a b : Int32) : Both WI (f_L_colourAt F a b M) (f_X11_colourAt F a b) := by
  obtain ⟨⟨hO, hD⟩, hC, hR⟩ := id hI
  by_cases h1 : ptR a b
  rotate_left
  · refine op_fail (c := 1) hI (by unfold f_L_colourAt f_X10_colourAt; rw [c_reqPoint, if_neg h1]; rfl) (by omega) hC (fun _ _ _ => rfl) fun M1 hR1 => rEnd_no hR1 (by omega) ?_
    unfold f_X11_colourAt; rw [bndO_s _ (r_inPicNo h1)]
  have h1' := h1
  obtain ⟨x, y, rfl, rfl, hx, hy⟩ := pt_in h1
  refine op_ok (w := P 138 (y * 40 + x)) (W := WI) (P' := P) (M' := M) hI ?_ hI.1 hC (fun _ _ _ => rfl) (fun M1 hR1 => ?_)
  · unfold f_L_colourAt f_X10_colourAt
    rw [c_reqPoint, if_pos h1', bndTr, pt_ix, gn_28, grd_t (n_in (by omega) (by omega)), n_cl (by omega), (hC.1.2.2.2.2.2 (y * 40 + x) (by omega)).1, bndTr]
    rfl
  · refine rQ.fin (M' := sI M1 122 0 0) ?_ rfl (rQ.rf (RV_thr hR1 0))
    unfold f_X11_colourAt
    rw [bndO_s _ (r_inPic hR1 hx hy (by omega) h1')]
theorem op_depthAt {P : PM} {M : GM} {F : Nat} (hI : Inv P M) (a b : Int32) : Both WI (f_L_depthAt F a b M) (f_X11_depthAt_ F a b) := by
  obtain ⟨⟨hO, hD⟩, hC, hR⟩ := id hI
  by_cases h1 : ptR a b
  rotate_left
  · refine op_fail (c := 1) hI (by unfold f_L_depthAt f_X10_depthAt; rw [c_reqPoint, if_neg h1]; rfl) (by omega) hC (fun _ _ _ => rfl) fun M1 hR1 => rEnd_no hR1 (by omega) ?_
    unfold f_X11_depthAt_; rw [bndO_s _ (r_inPicNo h1)]
  have h1' := h1
  obtain ⟨x, y, rfl, rfl, hx, hy⟩ := pt_in h1
  refine op_ok (w := P 139 (y * 40 + x)) (W := WI) (P' := P) (M' := M) hI ?_ hI.1 hC (fun _ _ _ => rfl) (fun M1 hR1 => ?_)
  · unfold f_L_depthAt f_X10_depthAt
    rw [c_reqPoint, if_pos h1', bndTr, pt_ix, gn_29, grd_t (n_in (by omega) (by omega)), n_cl (by omega), (hC.1.2.2.2.2.2 (y * 40 + x) (by omega)).2.1, bndTr]
    rfl
  · refine rQ.fin (M' := sI M1 122 0 0) ?_ rfl (rQ.rf (RV_thr hR1 0))
    unfold f_X11_depthAt_
    rw [bndO_s _ (r_inPic hR1 hx hy (by omega) h1')]
theorem op_paneAt {P : PM} {M : GM} {F : Nat} (hI : Inv P M) (a b : Int32) : Both WI (f_L_paneAt F a b M) (f_X11_paneAt F a b) := by
  obtain ⟨⟨hO, hD⟩, hC, hR⟩ := id hI
  by_cases h1 : ptR a b
  rotate_left
  · refine op_fail (c := 1) hI (by unfold f_L_paneAt f_X10_paneAt; rw [c_reqPoint, if_neg h1]; rfl) (by omega) hC (fun _ _ _ => rfl) fun M1 hR1 => rEnd_no hR1 (by omega) ?_
    unfold f_X11_paneAt; rw [bndO_s _ (r_inPicNo h1)]
  have h1' := h1
  obtain ⟨x, y, rfl, rfl, hx, hy⟩ := pt_in h1
  refine op_ok (w := P 140 (y * 40 + x)) (W := WI) (P' := P) (M' := M) hI ?_ hI.1 hC (fun _ _ _ => rfl) (fun M1 hR1 => ?_)
  · unfold f_L_paneAt f_X10_paneAt
    rw [c_reqPoint, if_pos h1', bndTr, pt_ix, gn_30, grd_t (n_in (by omega) (by omega)), n_cl (by omega), (hC.1.2.2.2.2.2 (y * 40 + x) (by omega)).2.2, bndTr]
    rfl
  · refine rQ.fin (M' := sI M1 122 0 0) ?_ rfl (rQ.rf (RV_thr hR1 0))
    unfold f_X11_paneAt
    rw [bndO_s _ (r_inPic hR1 hx hy (by omega) h1')]
/-- how many points of a row have a number -/
theorem r_count {M : GM} {F g : Nat} {a : Int32} (hF : 3000 ≤ F) (hg : gN g = 960) : f_X11_count F g a M = some (nI (cntB (fun k => decide (gI M g k = a)) 960)) := by
  have L : ∃ q, lp_X11_count_4 F g a M F 0 0 = some q ∧ q = nI (cntB (fun k => decide (gI M g k = a)) 960) := by
    refine run_up (fun n (s : Int32 × Int32) => lp_X11_count_4 F g a M n s.1 s.2) (fun i s => s.2 = nI i ∧ s.1 = nI (cntB (fun k => decide (gI M g k = a)) i)) _ 0 960 F (by omega) (by omega) (s := (0, 0)) ⟨rfl, rfl⟩ ?_ ?_
    · rintro i ⟨c, x⟩ - hi ⟨rfl, rfl⟩
      refine ⟨(nI (cntB (fun k => decide (gI M g k = a)) (i + 1)), nI (i + 1)), ⟨rfl, rfl⟩, fun n => ?_⟩
      show lp_X11_count_4 F g a M (n + 1) (nI (cntB (fun k => decide (gI M g k = a)) i)) (nI i) = lp_X11_count_4 F g a M n (nI (cntB (fun k => decide (gI M g k = a)) i + if decide (gI M g i = a) = true then 1 else 0)) (nI (i + 1))
      rw [el_X11_count_4]
      unfold st_X11_count_4
      rw [if_neg (by rw [i_960, n_le (by omega) (by omega)]; omega), hg, grd_t (n_in hi (by omega)), n_cl (by omega)]
      by_cases w : gI M g i = a
      · rw [if_pos w, if_pos (decide_eq_true w), bnd_d, bnd_d, i_1, n_a, n_a]
      · rw [if_neg w, if_neg (by rw [decide_eq_true_eq]; exact w), bnd_d, bnd_d, i_0, i_1, n_a, n_a]
    · rintro ⟨c, x⟩ ⟨rfl, rfl⟩
      refine ⟨_, rfl, fun n => ?_⟩
      show lp_X11_count_4 F g a M (n + 1) _ (nI 960) = _
      rw [el_X11_count_4]
      unfold st_X11_count_4
      rw [if_pos (by decide)] <;> rfl
  obtain ⟨q, e, rfl⟩ := L
  unfold f_X11_count
  rw [bnd_d, bnd_d, bndO_s _ e]
def sWith (P : PM) (p : Nat) : Nat := cntB (fun k => decide (P 140 k = nI p)) 960
theorem cq_pointsWith {P : PM} {M : GM} {F p : Nat} (hF : 3000 ≤ F) (hO : OK P) (hC : CV P M) (hp : p < sN P) : f_X10_pointsWith F (nI p) M = some (.inr (nI (sWith P p))) := by
  have L : ∃ q, lp_X10_pointsWith_22 F (nI p) 960 M F 0 0 = some q ∧ q = nI (sWith P p) := by
    refine run_up (fun n (s : Int32 × Int32) => lp_X10_pointsWith_22 F (nI p) 960 M n s.1 s.2) (fun i s => s.2 = nI i ∧ s.1 = nI (cntB (fun k => decide (P 140 k = nI p)) i)) _ 0 960 F (by omega) (by omega) (s := (0, 0)) ⟨rfl, rfl⟩ ?_ ?_
    · rintro i ⟨c, x⟩ - hi ⟨rfl, rfl⟩
      refine ⟨(nI (cntB (fun k => decide (P 140 k = nI p)) (i + 1)), nI (i + 1)), ⟨rfl, rfl⟩, fun n => ?_⟩
      show lp_X10_pointsWith_22 F (nI p) 960 M (n + 1) (nI (cntB (fun k => decide (P 140 k = nI p)) i)) (nI i) = lp_X10_pointsWith_22 F (nI p) 960 M n (nI (cntB (fun k => decide (P 140 k = nI p)) i + if decide (P 140 i = nI p) = true then 1 else 0)) (nI (i + 1))
      rw [el_X10_pointsWith_22]
      unfold st_X10_pointsWith_22
      rw [if_neg (by rw [i_960, n_le (by omega) (by omega)]; omega), gn_30, grd_t (n_in hi (by omega)), n_cl (by omega), bnd_d, (hC.2.2.2.2.2 i hi).2.2]
      by_cases w : P 140 i = nI p
      · rw [if_pos w, if_pos (decide_eq_true w), bnd_d, bnd_d, i_1, n_a, n_a]
      · rw [if_neg w, if_neg (by rw [decide_eq_true_eq]; exact w), bnd_d, i_1, n_a] <;> rfl
    · rintro ⟨c, x⟩ ⟨rfl, rfl⟩
      refine ⟨_, rfl, fun n => ?_⟩
      show lp_X10_pointsWith_22 F (nI p) 960 M (n + 1) _ (nI 960) = _
      rw [el_X10_pointsWith_22]
      unfold st_X10_pointsWith_22
      rw [if_pos (by decide)] <;> rfl
  obtain ⟨q, e, rfl⟩ := L
  unfold f_X10_pointsWith
  rw [c_reqPane hO hC, if_pos (in_pane hO hp), bndTr, bnd_d, bnd_d, bnd_d, bndO_s _ e]
theorem rq_with {P : PM} {M : GM} {F p : Nat} (hF : 3000 ≤ F) (hR : RV P M) : f_X11_count F 140 (nI p) M = some (nI (sWith P p)) := by
  rw [r_count hF gn_140]
  unfold sWith
  rw [cntB_congr fun k _ => by rw [hR.2 140 k (by omega) (by omega)]]
theorem op_pointsWith {P : PM} {M : GM} {F : Nat} (hF : 3000 ≤ F) (hI : Inv P M) (a : Int32) : Both WI (f_L_pointsWith F a M) (f_X11_pointsWith F a) := by
  obtain ⟨⟨hO, hD⟩, hC, hR⟩ := id hI
  by_cases h1 : inR a 0 ((sN P : Int) - 1)
  rotate_left
  · refine op_fail (c := 1) hI (by unfold f_L_pointsWith f_X10_pointsWith; rw [c_reqPane hO hC.1, if_neg h1]; rfl) (by omega) hC (fun _ _ _ => rfl) fun M1 hR1 => rEnd_no hR1 (by omega) ?_
    unfold f_X11_pointsWith; rw [bnd_d, r_isPane hO (RV_thr hR1 _), one_if, if_neg h1]; rfl
  have h1' := h1
  obtain ⟨p, rfl, hp, p30⟩ := pane_in hO h1
  refine op_ok (w := nI (sWith P p)) (W := WI) (P' := P) (M' := M) hI (by unfold f_L_pointsWith; rw [bndT_r _ _ (cq_pointsWith hF hO hC.1 hp)]; rfl) hI.1 hC (fun _ _ _ => rfl) (fun M1 hR1 => ?_)
  refine rQ.fin (M' := sI M1 122 0 0) ?_ rfl (rQ.rf (RV_thr hR1 0))
  unfold f_X11_pointsWith
  rw [bnd_d, r_isPane hO (RV_thr hR1 _), one_if, if_pos h1', bndO_s _ (rq_with hF (RV_thr hR1 0))]
