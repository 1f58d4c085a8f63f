/-! PURE PART: calls that ask for steps on the way -/
def cQ (P : PM) (M M' : GM) : Prop := CS P M' ∧ ∀ g k, 122 ≤ g → gI M' g k = gI M g k
theorem cQ.of {P : PM} {M M' : GM} (hC : CS P M) (f : ∀ g k, ¬ cqS g k → gI M' g k = gI M g k) : cQ P M M' := ⟨hC.to f, fun g k h => f g k (by unfold cqS; omega)⟩
theorem cQ.fs {P : PM} {M M' : GM} (hC : CS P M) (f : ∀ g k, ¬ fsI g k → gI M' g k = gI M g k) : cQ P M M' := cQ.of hC fun g k h => f g k (by unfold cqS at h; unfold fsI; omega)
theorem cQ.tr {P : PM} {M M1 M2 : GM} (h1 : cQ P M M1) (h2 : cQ P M1 M2) : cQ P M M2 := ⟨h2.1, fun g k h => (h2.2 g k h).trans (h1.2 g k h)⟩
theorem cQ.rf {P : PM} {M : GM} (hC : CS P M) : cQ P M M := ⟨hC, fun _ _ _ => rfl⟩
theorem cQ.eq {P : PM} {M M' : GM} (hC : CS P M) (f : M'.1 = M.1) : cQ P M M' := cQ.of hC fun g k _ => by show M'.1 g k = M.1 g k; rw [f]
def rQ (P : PM) (M M' : GM) : Prop := RV P M' ∧ (∀ g k, g < 122 → gI M' g k = gI M g k) ∧ gL M' 162 0 = gL M 162 0 ∧ gI M' 122 0 = gI M 122 0
def rqS (g k : Nat) : Prop := rA g k ∨ (159 ≤ g ∧ g ≤ 161) ∨ (g = 122 ∧ k = 25)
theorem rQ.of {P : PM} {M M' : GM} (hR : RV P M) (f : ∀ g k, ¬ rqS g k → gI M' g k = gI M g k) (l : ∀ g k, ¬ raL g → gL M' g k = gL M g k) : rQ P M M' :=
  ⟨hR.to fun g k h => f g k (by unfold rqS rA; omega), fun g k h => f g k (by unfold rqS rA; omega), l 162 0 (by unfold raL; omega), f 122 0 (by unfold rqS rA; omega)⟩
theorem rQ.ra {P : PM} {M M' : GM} (hR : RV P M) (f : ∀ g k, ¬ rA g k → gI M' g k = gI M g k) (l : ∀ g k, ¬ raL g → gL M' g k = gL M g k) : rQ P M M' := rQ.of hR (fun g k h => f g k fun q => h (Or.inl q)) l
theorem rQ.tr {P : PM} {M M1 M2 : GM} (h1 : rQ P M M1) (h2 : rQ P M1 M2) : rQ P M M2 := ⟨h2.1, fun g k h => (h2.2.1 g k h).trans (h1.2.1 g k h), h2.2.2.1.trans h1.2.2.1, h2.2.2.2.trans h1.2.2.2⟩
theorem rQ.rf {P : PM} {M : GM} (hR : RV P M) : rQ P M M := ⟨hR, fun _ _ _ => rfl, rfl, rfl⟩
theorem rQ.fin {P : PM} {M1 M' : GM} {r : Option (Int32 × GM)} {b w : Int32} (hr : r = some (b, M')) (hb : b = w) (h : rQ P (sI M1 122 0 0) M') : REnd P M1 r w 0 :=
  ⟨b, M', hr, fun _ => hb, h.1, fun g k q => (h.2.1 g k q).trans (by rw [gI_sI, if_neg (by omega)]), h.2.2.1, h.2.2.2.trans (by rw [gI_sI, if_pos ⟨rfl, rfl⟩]; rfl)⟩
theorem rQ.no {P : PM} {M1 M' : GM} {r : Option (Int32 × GM)} {w : Int32} {c : Nat} (hc : 0 < c) (hr : r = some (0, sI M' 122 0 (nI c))) (h : rQ P (sI M1 122 0 0) M') : REnd P M1 r w c :=
  ⟨0, _, hr, fun q => absurd q (by omega), RV_thr h.1 _, fun g k q => by rw [gI_sI, if_neg (by omega), h.2.1 g k q, gI_sI, if_neg (by omega)], h.2.2.1, by rw [gI_sI, if_pos ⟨rfl, rfl⟩]⟩
theorem op_seen {P : PM} {M : GM} {F : Nat} (hF : 3000 ≤ F) (hI : Inv P M) (a b : Int32) : Both WI (f_L_seen F a b M) (f_X11_seen F a b) := by
  obtain ⟨⟨hO, hD⟩, hC, hR⟩ := id hI
  obtain ⟨-, -, -, m2⟩ := sN_of hO
  by_cases h1 : inR a 0 ((sC1 P : Int) - 1)
  rotate_left
  · refine op_fail (c := 1) hI (by unfold f_L_seen f_X10_seen; rw [c_reqCorner hO hC.1, if_neg h1]; rfl) (by omega) hC (fun _ _ _ => rfl) fun M1 hR1 => rEnd_no hR1 (by omega) ?_
    unfold f_X11_seen; rw [bnd_d, r_isCorner hO (RV_thr hR1 _), one_if, if_neg h1]; rfl
  by_cases h2 : inR b 0 2
  rotate_left
  · refine op_fail (c := 1) hI (by unfold f_L_seen f_X10_seen f_X10_requireCameraRow; rw [c_reqCorner hO hC.1, if_pos h1, bndTr, w_in b tv_0 tv_2, one_if, if_neg h2]; rfl) (by omega) hC (fun _ _ _ => rfl) fun M1 hR1 => rEnd_no hR1 (by omega) ?_
    unfold f_X11_seen; rw [bnd_d, r_isCorner hO (RV_thr hR1 _), one_if, if_pos h1, w_in' b tv_0 tv_2, one_if, if_neg h2]; rfl
  have h1' := h1
  have h2' := h2
  obtain ⟨n, rfl, hn⟩ := in_nat h1
  obtain ⟨r, rfl, hr⟩ := in_nat' h2 (by omega)
  have n4 : n < 40 := by omega
  obtain ⟨v, v1, v2⟩ := c_along (F := F) (r := r) hO hC.1 n4 (by omega)
  refine op_ok (w := v) (W := WI) (P' := P) (M' := M) hI ?_ hI.1 hC (fun _ _ _ => rfl) (fun M1 hR1 => ?_)
  · unfold f_L_seen f_X10_seen f_X10_requireCameraRow
    rw [c_reqCorner hO hC.1, if_pos h1', bndTr, w_in _ tv_0 tv_2, one_if, if_pos h2', bndTr, gn_1, grd_t (n_in n4 (by omega)), bnd_d, n_cl (by omega), gr_1, bndO_s _ v1, bndTr]
    rfl
  · have hR0 := RV_thr hR1 0
    obtain ⟨b, b1, b2⟩ := r_seenBy hF hO hR0 n4 (r := r) (by omega)
    refine rQ.fin (M' := sI M1 122 0 0) (b := b) ?_ (a_ext (b2.trans v2.symm)) (rQ.rf hR0)
    unfold f_X11_seen
    rw [bnd_d, r_isCorner hO hR0, one_if, if_pos h1', w_in' _ tv_0 tv_2, one_if, if_pos h2', bndO_s _ b1]
theorem cq_polygonOf {P : PM} {M : GM} {F p : Nat} (hF : 3000 ≤ F) (hO : OK P) (hC : CS P M) (hp : p < sN P) : ∃ M', f_X10_polygonOf F (nI p) M = some (.inr (nI (sPane P p).length, M')) ∧ cQ P M M' := by
  obtain ⟨n1, n2, -, -⟩ := sN_of hO
  obtain ⟨M', e, s, f, -⟩ := c_formShape (F := F) hF hO hC.1 (show p < 30 by omega)
  refine ⟨M', ?_, cQ.fs hC f⟩
  unfold f_X10_polygonOf
  rw [c_reqPane hO hC.1, if_pos (show inR (nI p) 0 _ by unfold inR; rw [n_int (by omega)]; omega), bndTr, bndO_s _ e, s.1]
theorem rq_sidesOf {P : PM} {M : GM} {F p : Nat} (hF : 3000 ≤ F) (hO : OK P) (hR : RV P M) (hp : p < 30) : ∃ M', f_X11_sidesOf F (nI p) M = some (nI (sPane P p).length, M') ∧ rPoly M' (sPane P p) ∧ rQ P M M' := by
  obtain ⟨M', e, y, f, s⟩ := r_makePolygon hF hO hR hp
  refine ⟨M', ?_, y, rQ.ra hR (fun g k h => f g k (by unfold mpS; unfold rA at h; omega)) fun g k _ => by show M'.2.1 g k = M.2.1 g k; rw [s]⟩
  unfold f_X11_sidesOf
  rw [bndO_s _ e, y.1]
theorem pane_in {P : PM} {a : Int32} (hO : OK P) (h : inR a 0 ((sN P : Int) - 1)) : ∃ p, a = nI p ∧ p < sN P ∧ p < 30 := by
  obtain ⟨n1, n2, -, -⟩ := sN_of hO
  obtain ⟨p, e, hp⟩ := in_nat h
  exact ⟨p, e, hp, by omega⟩
theorem in_pane {P : PM} {p : Nat} (hO : OK P) (h : p < sN P) : inR (nI p) 0 ((sN P : Int) - 1) := by
  obtain ⟨n1, n2, -, -⟩ := sN_of hO
  unfold inR; rw [n_int (by omega)]; omega
theorem op_polygonOf {P : PM} {M : GM} {F : Nat} (hF : 3000 ≤ F) (hI : Inv P M) (a : Int32) : Both WI (f_L_polygonOf F a M) (f_X11_polygonOf F a) := by
  obtain ⟨⟨hO, hD⟩, hC, hR⟩ := id hI
  by_cases h1 : inR a 0 ((sN P : Int) - 1)
  rotate_left
  · refine op_fail (c := 1) hI (by unfold f_L_polygonOf f_X10_polygonOf; rw [c_reqPane hO hC.1, if_neg h1]; rfl) (by omega) hC (fun _ _ _ => rfl) fun M1 hR1 => rEnd_no hR1 (by omega) ?_
    unfold f_X11_polygonOf; rw [bnd_d, r_isPane hO (RV_thr hR1 _), one_if, if_neg h1]; rfl
  have h1' := h1
  obtain ⟨p, rfl, hp, p30⟩ := pane_in hO h1
  obtain ⟨M', e, c1, c2⟩ := cq_polygonOf (F := F) hF hO hC hp
  refine op_ok (w := nI (sPane P p).length) (W := WI) (P' := P) (M' := M') hI (by unfold f_L_polygonOf; rw [bndT_r _ _ e]; rfl) hI.1 c1 c2 (fun M1 hR1 => ?_)
  obtain ⟨M2, e2, -, q2⟩ := rq_sidesOf (F := F) hF hO (RV_thr hR1 0) p30
  refine rQ.fin (M' := M2) ?_ rfl q2
  unfold f_X11_polygonOf
  rw [bnd_d, r_isPane hO (RV_thr hR1 _), one_if, if_pos h1', bndO_s _ e2]
theorem cq_piecesOf {P : PM} {M : GM} {F p : Nat} (hF : 3000 ≤ F) (hO : OK P) (hC : CS P M) (hp : p < sN P) : ∃ M', f_X10_piecesOf F (nI p) M = some (.inr (nI (sPieces P p), M')) ∧ cQ P M M' := by
  obtain ⟨n1, n2, -, -⟩ := sN_of hO
  obtain ⟨M', e, s, f, -⟩ := c_formShape (F := F) hF hO hC.1 (show p < 30 by omega)
  refine ⟨M', ?_, cQ.fs hC f⟩
  unfold f_X10_piecesOf
  rw [c_reqPane hO hC.1, if_pos (in_pane hO hp), bndTr, bndO_s _ e, bnd_d, bnd_d, bnd_d, bndO_s _ (c_piecesLoop hF s)]
theorem op_piecesOf {P : PM} {M : GM} {F : Nat} (hF : 3000 ≤ F) (hI : Inv P M) (a : Int32) : Both WI (f_L_piecesOf F a M) (f_X11_piecesOf F a) := by
  obtain ⟨⟨hO, hD⟩, hC, hR⟩ := id hI
  by_cases h1 : inR a 0 ((sN P : Int) - 1)
  rotate_left
  · refine op_fail (c := 1) hI (by unfold f_L_piecesOf f_X10_piecesOf; rw [c_reqPane hO hC.1, if_neg h1]; rfl) (by omega) hC (fun _ _ _ => rfl) fun M1 hR1 => rEnd_no hR1 (by omega) ?_
    unfold f_X11_piecesOf; rw [bnd_d, r_isPane hO (RV_thr hR1 _), one_if, if_neg h1]; rfl
  have h1' := h1
  obtain ⟨p, rfl, hp, p30⟩ := pane_in hO h1
  obtain ⟨M', e, c1, c2⟩ := cq_piecesOf (F := F) hF hO hC hp
  refine op_ok (w := nI (sPieces P p)) (W := WI) (P' := P) (M' := M') hI (by unfold f_L_piecesOf; rw [bndT_r _ _ e]; rfl) hI.1 c1 c2 (fun M1 hR1 => ?_)
  obtain ⟨M2, e2, f2, l2⟩ := r_drawnPieces (F := F) hF hO (RV_thr hR1 0) p30
  refine rQ.fin (M' := M2) ?_ rfl (rQ.ra (RV_thr hR1 0) f2 l2)
  unfold f_X11_piecesOf
  rw [bnd_d, r_isPane hO (RV_thr hR1 _), one_if, if_pos h1', bndO_s _ e2]
theorem cq_pointsOf {P : PM} {M : GM} {F p : Nat} (hF : 3000 ≤ F) (hO : OK P) (hC : CS P M) (hp : p < sN P) : ∃ M', f_X10_pointsOf F (nI p) M = some (.inr (nI (sPoints P p), M')) ∧ cQ P M M' := by
  obtain ⟨n1, n2, -, -⟩ := sN_of hO
  obtain ⟨M', e, s, f, -⟩ := c_formShape (F := F) hF hO hC.1 (show p < 30 by omega)
  obtain ⟨M2, e2, f2⟩ := c_pointsLoop (F := F) hF hO s
  have q := cQ.fs hC f
  refine ⟨M2, ?_, q.tr (cQ.eq q.1 f2)⟩
  unfold f_X10_pointsOf
  rw [c_reqPane hO hC.1, if_pos (in_pane hO hp), bndTr, bndO_s _ e, bnd_d, bnd_d, bndO_s _ e2]
theorem op_pointsOf {P : PM} {M : GM} {F : Nat} (hF : 3000 ≤ F) (hI : Inv P M) (a : Int32) : Both WI (f_L_pointsOf F a M) (f_X11_pointsOf F a) := by
  obtain ⟨⟨hO, hD⟩, hC, hR⟩ := id hI
  by_cases h1 : inR a 0 ((sN P : Int) - 1)
  rotate_left
  · refine op_fail (c := 1) hI (by unfold f_L_pointsOf f_X10_pointsOf; rw [c_reqPane hO hC.1, if_neg h1]; rfl) (by omega) hC (fun _ _ _ => rfl) fun M1 hR1 => rEnd_no hR1 (by omega) ?_
    unfold f_X11_pointsOf; rw [bnd_d, r_isPane hO (RV_thr hR1 _), one_if, if_neg h1]; rfl
  have h1' := h1
  obtain ⟨p, rfl, hp, p30⟩ := pane_in hO h1
  obtain ⟨M', e, c1, c2⟩ := cq_pointsOf (F := F) hF hO hC hp
  refine op_ok (w := nI (sPoints P p)) (W := WI) (P' := P) (M' := M') hI (by unfold f_L_pointsOf; rw [bndT_r _ _ e]; rfl) hI.1 c1 c2 (fun M1 hR1 => ?_)
  obtain ⟨M2, e2, -, f2, l2⟩ := r_pointsIn (F := F) hF hO (RV_thr hR1 0) p30
  refine rQ.fin (M' := M2) ?_ rfl (rQ.of (RV_thr hR1 0) (fun g k h => f2 g k fun q => h (q.elim Or.inl fun e => Or.inr (Or.inl ⟨by omega, by omega⟩))) l2)
  unfold f_X11_pointsOf
  rw [bnd_d, r_isPane hO (RV_thr hR1 _), one_if, if_pos h1', bndO_s _ e2]
/-- the first piece in which a point lies -/
def sFst (P : PM) (p x y : Nat) : Option (V × V × V) := if sLq P p 0 x y = true then sPcs P p 0 else if sLq P p 1 x y = true then sPcs P p 1 else none
theorem sFst_of {P : PM} {p x y q : Nat} {t : V × V × V} (hq : q < 2) (h1 : sPcs P p q = some t) (h2 : sLq P p q x y = true) (h3 : q = 1 → sLq P p 0 x y = false) : sFst P p x y = some t := by
  unfold sFst
  rcases (show q = 0 ∨ q = 1 by omega) with rfl | rfl
  · rw [if_pos h2]; exact h1
  · rw [if_neg (by rw [h3 rfl]; decide), if_pos h2]; exact h1
theorem sFst_no {P : PM} {p x y : Nat} (h1 : sLq P p 0 x y = false) (h2 : sLq P p 1 x y = false) : sFst P p x y = none := by
  unfold sFst; rw [h1, h2]; rfl
theorem pt_in {a b : Int32} (h : ptR a b) : ∃ x y, a = nI x ∧ b = nI y ∧ x < 40 ∧ y < 24 := by
  obtain ⟨x, rfl, hx⟩ := in_nat' h.1 (by omega)
  obtain ⟨y, rfl, hy⟩ := in_nat' h.2 (by omega)
  exact ⟨x, y, rfl, rfl, by omega, by omega⟩
theorem nI_ne {q : Nat} (hq : q < 2) : ¬ nI q = -1 := fun h => by
  have := congrArg Int32.toInt h
  rw [n_int (by omega)] at this
  have e : (-1 : Int32).toInt = -1 := by decide
  omega
theorem op_liesIn {P : PM} {M : GM} {F : Nat} (hF : 3000 ≤ F) (hI : Inv P M) (a b c : Int32) : Both WB (f_L_liesIn F a b c M) (f_X11_liesIn F a b c) := by
  obtain ⟨⟨hO, hD⟩, hC, hR⟩ := id hI
  by_cases h1 : inR a 0 ((sN P : Int) - 1)
  rotate_left
  · refine op_fail (c := 1) hI (by unfold f_L_liesIn f_X10_liesIn; rw [c_reqPane hO hC.1, if_neg h1]; rfl) (by omega) hC (fun _ _ _ => rfl) fun M1 hR1 => rEnd_no hR1 (by omega) ?_
    unfold f_X11_liesIn; rw [bnd_d, r_isPane hO (RV_thr hR1 _), one_if, if_neg h1]; rfl
  by_cases h2 : ptR b c
  rotate_left
  · refine op_fail (c := 1) hI (by unfold f_L_liesIn f_X10_liesIn; rw [c_reqPane hO hC.1, if_pos h1, bndTr, c_reqPoint, if_neg h2]; rfl) (by omega) hC (fun _ _ _ => rfl) fun M1 hR1 => rEnd_no hR1 (by omega) ?_
    unfold f_X11_liesIn; rw [bnd_d, r_isPane hO (RV_thr hR1 _), one_if, if_pos h1, r_isPoint, one_if, if_neg h2]; rfl
  have h1' := h1
  have h2' := h2
  obtain ⟨p, rfl, hp, p30⟩ := pane_in hO h1
  obtain ⟨x, y, rfl, rfl, hx, hy⟩ := pt_in h2
  obtain ⟨M', e, s, f, -⟩ := c_formShape (F := F) hF hO hC.1 p30
  obtain ⟨v, M2, e2, v2, s2, f2, -⟩ := c_firstPiece (F := F) hF hO s hx hy
  have q := cQ.fs hC f
  have q2 := q.tr (cQ.eq q.1 f2)
  have hv : (v = -1 ∧ sFst P p x y = none) ∨ (¬ v = -1 ∧ ¬ sFst P p x y = none) := by
    rcases v2 with ⟨q, t, hq, rfl, a1, -, -, a2, a3⟩ | ⟨rfl, a1, a2⟩
    · exact Or.inr ⟨nI_ne hq, by rw [sFst_of hq a1 a2 a3]; intro h; cases h⟩
    · exact Or.inl ⟨rfl, sFst_no a1 a2⟩
  refine op_ok (w := if sFst P p x y = none then 0 else 1) (W := WB) (P' := P) (M' := M2) hI ?_ hI.1 q2.1 q2.2 (fun M1 hR1 => ?_)
  · unfold f_L_liesIn f_X10_liesIn
    rw [c_reqPane hO hC.1, if_pos h1', bndTr, c_reqPoint, if_pos h2', bndTr, bndO_s _ e, bndO_s _ e2]
    rcases hv with ⟨c1, c2⟩ | ⟨c1, c2⟩
    · rw [if_pos c2]
      show bndT (if v = -1 then _ else _) _ _ = _
      rw [if_pos c1]; rfl
    · rw [if_neg c2]
      show bndT (if v = -1 then _ else _) _ _ = _
      rw [if_neg c1]; rfl
  · obtain ⟨w, M3, e3, w3, f3, l3⟩ := r_pieceAt (F := F) hF hO (RV_thr hR1 0) p30 hx hy
    have hw : (w = -1 ∧ sFst P p x y = none) ∨ (¬ w = -1 ∧ ¬ sFst P p x y = none) := by
      rcases w3 with ⟨q, t, hq, rfl, a1, -, -, a2, a3⟩ | ⟨rfl, a1, a2⟩
      · exact Or.inr ⟨nI_ne hq, by rw [sFst_of hq a1 a2 a3]; intro h; cases h⟩
      · exact Or.inl ⟨rfl, sFst_no a1 a2⟩
    refine rQ.fin (M' := M3) (b := if sFst P p x y = none then 0 else 1) ?_ rfl (rQ.ra (RV_thr hR1 0) f3 l3)
    unfold f_X11_liesIn
    rw [bnd_d, r_isPane hO (RV_thr hR1 _), one_if, if_pos h1', r_isPoint, one_if, if_pos h2', bndO_s _ e3]
    show (if w = -1 then _ else _) = _
    rcases hw with ⟨c1, c2⟩ | ⟨c1, c2⟩
    · rw [if_pos c1, if_pos c2]
    · rw [if_neg c1, if_neg c2]
def sDepO (P : PM) (p x y : Nat) : Int := match sFst P p x y with
  | some t => sDep P t x y
  | none => -1
theorem op_depthOf {P : PM} {M : GM} {F : Nat} (hF : 3000 ≤ F) (hI : Inv P M) (a b c : Int32) : Both WI (f_L_depthOf F a b c M) (f_X11_depthOf F a b c) := by
  obtain ⟨⟨hO, hD⟩, hC, hR⟩ := id hI
  by_cases h1 : inR a 0 ((sN P : Int) - 1)
  rotate_left
  · refine op_fail (c := 1) hI (by unfold f_L_depthOf f_X10_depthOf; rw [c_reqPane hO hC.1, if_neg h1]; rfl) (by omega) hC (fun _ _ _ => rfl) fun M1 hR1 => rEnd_no hR1 (by omega) ?_
    unfold f_X11_depthOf; rw [bnd_d, r_isPane hO (RV_thr hR1 _), one_if, if_neg h1]; rfl
  by_cases h2 : ptR b c
  rotate_left
  · refine op_fail (c := 1) hI (by unfold f_L_depthOf f_X10_depthOf; rw [c_reqPane hO hC.1, if_pos h1, bndTr, c_reqPoint, if_neg h2]; rfl) (by omega) hC (fun _ _ _ => rfl) fun M1 hR1 => rEnd_no hR1 (by omega) ?_
    unfold f_X11_depthOf; rw [bnd_d, r_isPane hO (RV_thr hR1 _), one_if, if_pos h1, r_isPoint, one_if, if_neg h2]; rfl
  have h1' := h1
  have h2' := h2
  obtain ⟨p, rfl, hp, p30⟩ := pane_in hO h1
  obtain ⟨x, y, rfl, rfl, hx, hy⟩ := pt_in h2
  obtain ⟨M', e, s, f, -⟩ := c_formShape (F := F) hF hO hC.1 p30
  obtain ⟨v, M2, e2, v2, s2, f2, -⟩ := c_firstPiece (F := F) hF hO s hx hy
  have q := cQ.fs hC f
  have q2 := q.tr (cQ.eq q.1 f2)
  have main : ∃ w : Int32, f_L_depthOf F (nI p) (nI x) (nI y) M = some (0, sL M2 162 0 w.toInt64) ∧ w.toInt = sDepO P p x y := by
    unfold f_L_depthOf f_X10_depthOf
    rw [c_reqPane hO hC.1, if_pos h1', bndTr, c_reqPoint, if_pos h2', bndTr, bndO_s _ e, bndO_s _ e2]
    rcases v2 with ⟨q, t, hq, rfl, a1, ai, at1, a2, a3⟩ | ⟨rfl, a1, a2⟩
    · obtain ⟨w, w1, w2⟩ := c_depthHere (F := F) hO (sPcs_ok hO a1) at1 ai
      refine ⟨w, ?_, by unfold sDepO; rw [sFst_of hq a1 a2 a3]; exact w2⟩
      show bndT (bnd (nI q) _) _ _ = _
      rw [bnd_d, if_neg (nI_ne hq), gn_16, grd_t (n_in hq (by omega)), bnd_d, n_cl (by omega), gr_16, bndO_s _ w1, bndTr]
      rfl
    · refine ⟨-1, ?_, by unfold sDepO; rw [sFst_no a1 a2]; exact tv_m1⟩
      show bndT (bnd (-1) _) _ _ = _
      rw [bnd_d, if_pos rfl, bndTr]
      rfl
  obtain ⟨w, m1, m2⟩ := main
  refine op_ok (w := w) (W := WI) (P' := P) (M' := M2) hI m1 hI.1 q2.1 q2.2 (fun M1 hR1 => ?_)
  obtain ⟨w', M3, e3, w3, f3, l3⟩ := r_pieceAt (F := F) hF hO (RV_thr hR1 0) p30 hx hy
  have main2 : ∃ b : Int32, f_X11_depthOf F (nI p) (nI x) (nI y) M1 = some (b, M3) ∧ b.toInt = sDepO P p x y := by
    unfold f_X11_depthOf
    rw [bnd_d, r_isPane hO (RV_thr hR1 _), one_if, if_pos h1', r_isPoint, one_if, if_pos h2', bndO_s _ e3]
    rcases w3 with ⟨q, t, hq, rfl, a1, ai, at1, a2, a3⟩ | ⟨rfl, a1, a2⟩
    · obtain ⟨w, w1, w2⟩ := r_depthHere (F := F) hO (sPcs_ok hO a1) at1 ai
      refine ⟨w, ?_, by unfold sDepO; rw [sFst_of hq a1 a2 a3]; exact w2⟩
      show (if nI q = -1 then _ else _) = _
      rw [if_neg (nI_ne hq), bndO_s _ w1]
    · exact ⟨-1, rfl, by unfold sDepO; rw [sFst_no a1 a2]; exact tv_m1⟩
  obtain ⟨b, b1, b2⟩ := main2
  exact rQ.fin b1 (a_ext (b2.trans m2.symm)) (rQ.ra (RV_thr hR1 0) f3 l3)
def sColO (P : PM) (p x y : Nat) : Int := match sFst P p x y with
  | some t => sCol P p t x y
  | none => -1
theorem op_colourOf {P : PM} {M : GM} {F : Nat} (hF : 3000 ≤ F) (hI : Inv P M) (a b c : Int32) : Both WI (f_L_colourOf F a b c M) (f_X11_colourOf F a b c) := by
  obtain ⟨⟨hO, hD⟩, hC, hR⟩ := id hI
  by_cases h1 : inR a 0 ((sN P : Int) - 1)
  rotate_left
  · refine op_fail (c := 1) hI (by unfold f_L_colourOf f_X10_colourOf; rw [c_reqPane hO hC.1, if_neg h1]; rfl) (by omega) hC (fun _ _ _ => rfl) fun M1 hR1 => rEnd_no hR1 (by omega) ?_
    unfold f_X11_colourOf; rw [bnd_d, r_isPane hO (RV_thr hR1 _), one_if, if_neg h1]; rfl
  by_cases h2 : ptR b c
  rotate_left
  · refine op_fail (c := 1) hI (by unfold f_L_colourOf f_X10_colourOf; rw [c_reqPane hO hC.1, if_pos h1, bndTr, c_reqPoint, if_neg h2]; rfl) (by omega) hC (fun _ _ _ => rfl) fun M1 hR1 => rEnd_no hR1 (by omega) ?_
    unfold f_X11_colourOf; rw [bnd_d, r_isPane hO (RV_thr hR1 _), one_if, if_pos h1, r_isPoint, one_if, if_neg h2]; rfl
  have h1' := h1
  have h2' := h2
  obtain ⟨p, rfl, hp, p30⟩ := pane_in hO h1
  obtain ⟨x, y, rfl, rfl, hx, hy⟩ := pt_in h2
  obtain ⟨M', e, s, f, -⟩ := c_formShape (F := F) hF hO hC.1 p30
  obtain ⟨v, M2, e2, v2, s2, f2, -⟩ := c_firstPiece (F := F) hF hO s hx hy
  have q := cQ.fs hC f
  have q2 := q.tr (cQ.eq q.1 f2)
  have main : ∃ w : Int32, f_L_colourOf F (nI p) (nI x) (nI y) M = some (0, sL M2 162 0 w.toInt64) ∧ w.toInt = sColO P p x y := by
    unfold f_L_colourOf f_X10_colourOf
    rw [c_reqPane hO hC.1, if_pos h1', bndTr, c_reqPoint, if_pos h2', bndTr, bndO_s _ e, bndO_s _ e2]
    rcases v2 with ⟨q, t, hq, rfl, a1, ai, at1, a2, a3⟩ | ⟨rfl, a1, a2⟩
    · obtain ⟨w, w1, w2⟩ := c_colourHere (F := F) hO q2.1.1 p30 (sPcs_ok hO a1) at1 ai
      refine ⟨w, ?_, by unfold sColO; rw [sFst_of hq a1 a2 a3]; exact w2⟩
      show bndT (bnd (nI q) _) _ _ = _
      rw [bnd_d, if_neg (nI_ne hq), gn_2, grd_t (n_in p30 (by omega)), bnd_d, n_cl (show p < 2147483648 by omega), gr_2, gn_16, grd_t (n_in hq (by omega)), bnd_d, n_cl (show q < 2147483648 by omega), gr_16, bndO_s _ w1, bndTr]
      rfl
    · refine ⟨-1, ?_, by unfold sColO; rw [sFst_no a1 a2]; exact tv_m1⟩
      show bndT (bnd (-1) _) _ _ = _
      rw [bnd_d, if_pos rfl, bndTr]
      rfl
  obtain ⟨w, m1, m2⟩ := main
  refine op_ok (w := w) (W := WI) (P' := P) (M' := M2) hI m1 hI.1 q2.1 q2.2 (fun M1 hR1 => ?_)
  obtain ⟨w', M3, e3, w3, f3, l3⟩ := r_pieceAt (F := F) hF hO (RV_thr hR1 0) p30 hx hy
  have hR3 := (rQ.ra (RV_thr hR1 0) f3 l3).1
  have main2 : ∃ b : Int32, f_X11_colourOf F (nI p) (nI x) (nI y) M1 = some (b, M3) ∧ b.toInt = sColO P p x y := by
    unfold f_X11_colourOf
    rw [bnd_d, r_isPane hO (RV_thr hR1 _), one_if, if_pos h1', r_isPoint, one_if, if_pos h2', bndO_s _ e3]
    rcases w3 with ⟨q, t, hq, rfl, a1, ai, at1, a2, a3⟩ | ⟨rfl, a1, a2⟩
    · obtain ⟨w, w1, w2⟩ := r_colourHere (F := F) hO hR3 p30 (sPcs_ok hO a1) at1 ai
      refine ⟨w, ?_, by unfold sColO; rw [sFst_of hq a1 a2 a3]; exact w2⟩
      show (if nI q = -1 then _ else _) = _
      rw [if_neg (nI_ne hq), bndO_s _ w1]
    · exact ⟨-1, rfl, by unfold sColO; rw [sFst_no a1 a2]; exact tv_m1⟩
  obtain ⟨b, b1, b2⟩ := main2
  exact rQ.fin b1 (a_ext (b2.trans m2.symm)) (rQ.ra (RV_thr hR1 0) f3 l3)
