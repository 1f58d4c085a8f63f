/-! PURE PART: the reference draws pieces, panes, all -/
theorem box_lx {P : PM} {t : V × V × V} {x y : Int} (ht : tOK P t) (hi : sIn (sFoc P) t x y) : (∀ L, L ≤ sX (sFoc P) t.1 → L ≤ sX (sFoc P) t.2.1 → L ≤ sX (sFoc P) t.2.2 → L ≤ 16 * x + 8) ∧ (∀ U, sX (sFoc P) t.1 ≤ U → sX (sFoc P) t.2.1 ≤ U → sX (sFoc P) t.2.2 ≤ U → 16 * x + 8 ≤ U) := by
  have h1 := ht.2.2.2.1
  have h2 := ht.2.2.2.2.1
  have h3 := ht.2.2.2.2.2.1
  unfold sFar at h1 h2 h3
  exact ⟨fun L a b c => (box_x (L := L) (U := 30000) ht hi ⟨a, by omega⟩ ⟨b, by omega⟩ ⟨c, by omega⟩).1, fun U a b c => (box_x (L := -30000) (U := U) ht hi ⟨by omega, a⟩ ⟨by omega, b⟩ ⟨by omega, c⟩).2⟩
theorem box_ly {P : PM} {t : V × V × V} {x y : Int} (ht : tOK P t) (hi : sIn (sFoc P) t x y) : (∀ L, L ≤ sY (sFoc P) t.1 → L ≤ sY (sFoc P) t.2.1 → L ≤ sY (sFoc P) t.2.2 → L ≤ 16 * y + 8) ∧ (∀ U, sY (sFoc P) t.1 ≤ U → sY (sFoc P) t.2.1 ≤ U → sY (sFoc P) t.2.2 ≤ U → 16 * y + 8 ≤ U) := by
  have h1 := ht.2.2.2.1
  have h2 := ht.2.2.2.2.1
  have h3 := ht.2.2.2.2.2.1
  unfold sFar at h1 h2 h3
  exact ⟨fun L a b c => (box_y (L := L) (U := 30000) ht hi ⟨a, by omega⟩ ⟨b, by omega⟩ ⟨c, by omega⟩).1, fun U a b c => (box_y (L := -30000) (U := U) ht hi ⟨by omega, a⟩ ⟨by omega, b⟩ ⟨by omega, c⟩).2⟩
/-- points that have had their turn when y rows and of the next x points are done -/
def dn (y x k : Nat) : Bool := decide (k / 40 < y) || (decide (k / 40 = y) && decide (k % 40 < x))
theorem r_row {P : PM} {M0 M : GM} {F p y lo : Nat} {t : V × V × V} {hi bo : Int32} (hF : 3000 ≤ F) (hO : OK P) (hR : RV P M0) (hp : p < 30) (ht : tOK P t) (hy : y < 24) (hm : rMid P p t M0 M (dn y 0)) (hpx : ∀ k, k < 960 → pxOK (rPx M0 k))
    (l2 : lo ≤ 2000) (h1 : hi.toInt ≤ 39) (h2 : -2000 ≤ hi.toInt) (hin : ∀ k, k < 960 → sIn (sFoc P) t (k % 40 : Nat) (k / 40 : Nat) → lo ≤ k % 40 ∧ ((k % 40 : Nat) : Int) ≤ hi.toInt) :
    ∃ M', lp_X11_drawPiece_100 F (nI p) hi bo (nI y) F (nI lo) M = some M' ∧ rMid P p t M0 M' (dn (y + 1) 0) := by
  refine run_up (fun n (s : Int32 × GM) => lp_X11_drawPiece_100 F (nI p) hi bo (nI y) n s.1 s.2) (fun i s => s.1 = nI i ∧ rMid P p t M0 s.2 (dn y i)) _ lo (max lo (hi.toInt + 1).toNat) F (by omega) (by omega) (s := (nI lo, M)) ⟨rfl, hm.congr fun k hk h => ?_⟩ ?_ ?_
  · have := (hin k hk h).1
    unfold dn
    rw [Bool.eq_iff_iff]
    simp only [Bool.or_eq_true, Bool.and_eq_true, decide_eq_true_eq]
    omega
  · rintro i ⟨x, M1⟩ a1 a2 ⟨rfl, k1⟩
    have hx : i < 40 := by omega
    have hc : ¬ hi < nI i := by rw [a_lt rfl (n_int (by omega))]; omega
    obtain ⟨dv, md⟩ := div_rc (y := y) hx
    obtain ⟨M2, e0, e2⟩ := r_point (F := F) (p := p) (e := dn y (i + 1)) hO hR hp ht hx hy k1 hpx (by
      unfold dn
      rw [dv, md, Bool.eq_false_iff]
      simp only [ne_eq, Bool.or_eq_true, Bool.and_eq_true, decide_eq_true_eq]
      omega) (fun k hk => by
      unfold dn
      rw [Bool.eq_iff_iff]
      simp only [Bool.or_eq_true, Bool.and_eq_true, decide_eq_true_eq]
      omega)
    refine ⟨(nI (i + 1), M2), ⟨rfl, e2⟩, fun n => ?_⟩
    show lp_X11_drawPiece_100 F (nI p) hi bo (nI y) (n + 1) (nI i) M1 = lp_X11_drawPiece_100 F (nI p) hi bo (nI y) n (nI (i + 1)) M2
    rw [el_X11_drawPiece_100]
    unfold st_X11_drawPiece_100
    rw [if_neg hc]
    exact e0 _
  · rintro ⟨x, M1⟩ ⟨rfl, k1⟩
    refine ⟨M1, k1.congr fun k hk h => ?_, fun n => ?_⟩
    · have := (hin k hk h).2
      unfold dn
      rw [Bool.eq_iff_iff]
      simp only [Bool.or_eq_true, Bool.and_eq_true, decide_eq_true_eq]
      omega
    · show lp_X11_drawPiece_100 F (nI p) hi bo (nI y) (n + 1) (nI _) M1 = _
      rw [el_X11_drawPiece_100]
      unfold st_X11_drawPiece_100
      rw [if_pos (by rw [a_lt rfl (n_int (by omega))]; omega)]
theorem r_drawPiece {P : PM} {M : GM} {F p : Nat} {t : V × V × V} (hF : 3000 ≤ F) (hO : OK P) (hR : RV P M) (hp : p < 30) (ht : tOK P t) (hT : rTri P M t) (hpx : ∀ k, k < 960 → pxOK (rPx M k)) :
    ∃ M', f_X11_drawPiece F (nI p) M = some M' ∧ rMid P p t M M' (fun _ => true) := by
  have n1 := ht.2.2.2.1
  have n2 := ht.2.2.2.2.1
  have n3 := ht.2.2.2.2.2.1
  unfold sFar at n1 n2 n3
  obtain ⟨ri, r1, r2, r3, r4⟩ := r_high (F := F) (M := M) (show (39 : Int32).toInt = 39 from rfl) (by omega) hT.1.2.1 hT.2.1.2.1 hT.2.2.1.2.1 (by omega) (by omega) (by omega)
  obtain ⟨bo, b1, b2, b3, b4⟩ := r_high (F := F) (M := M) (show (23 : Int32).toInt = 23 from rfl) (by omega) hT.1.2.2.1 hT.2.1.2.2.1 hT.2.2.1.2.2.1 (by omega) (by omega) (by omega)
  obtain ⟨to, t1, t2, t3⟩ := r_low (F := F) (M := M) hT.1.2.2.1 hT.2.1.2.2.1 hT.2.2.1.2.2.1 (by omega) (by omega) (by omega)
  have L : ∃ M', lp_X11_drawPiece_71 F (nI p) ri bo F (nI to) M = some M' ∧ rMid P p t M M' (fun _ => true) := by
    refine run_up (fun n (s : Int32 × GM) => lp_X11_drawPiece_71 F (nI p) ri bo n s.1 s.2) (fun i s => s.1 = nI i ∧ rMid P p t M s.2 (dn i 0)) _ to (max to (bo.toInt + 1).toNat) F (by omega) (by omega) (s := (nI to, M)) ⟨rfl, ?_⟩ ?_ ?_
    · refine rMid.congr (d := fun _ => false) ⟨hT, fun k hk => rfl, fun kk hk hg => by rw [if_neg (by simp)], fun _ _ _ => rfl, fun _ _ _ => rfl, rfl⟩ fun k hk h => ?_
      have := t3 (k / 40) (box_ly ht h).1
      unfold dn
      rw [Bool.eq_iff_iff]
      simp only [Bool.or_eq_true, Bool.and_eq_true, decide_eq_true_eq]
      constructor
      · intro q; cases q
      · omega
    · rintro i ⟨x, M1⟩ a1 a2 ⟨rfl, k1⟩
      have hy : i < 24 := by omega
      have hc : ¬ bo < nI i := by rw [a_lt rfl (n_int (by omega))]; omega
      have hT1 := k1.1
      obtain ⟨lo, l1, l2, l3⟩ := r_low (F := F) (M := M1) hT1.1.2.1 hT1.2.1.2.1 hT1.2.2.1.2.1 (by omega) (by omega) (by omega)
      obtain ⟨M2, m1, m2⟩ := r_row (F := F) (hi := ri) (bo := bo) (lo := lo) hF hO hR hp ht hy k1 hpx l2 r2 r3 (fun k hk h => ⟨l3 (k % 40) (box_lx ht h).1, r4 (k % 40) (by omega) (box_lx ht h).2⟩)
      refine ⟨(nI (i + 1), M2), ⟨rfl, m2⟩, fun n => ?_⟩
      show lp_X11_drawPiece_71 F (nI p) ri bo (n + 1) (nI i) M1 = lp_X11_drawPiece_71 F (nI p) ri bo n (nI (i + 1)) M2
      rw [el_X11_drawPiece_71]
      unfold st_X11_drawPiece_71
      rw [if_neg hc, bndO_s _ l1, bnd_d, bndO_s _ m1, bnd_d, i_1, n_a]
    · rintro ⟨x, M1⟩ ⟨rfl, k1⟩
      refine ⟨M1, k1.congr fun k hk h => ?_, fun n => ?_⟩
      · have := b4 (k / 40) (by omega) (box_ly ht h).2
        unfold dn
        rw [Bool.eq_iff_iff]
        simp only [Bool.or_eq_true, Bool.and_eq_true, decide_eq_true_eq]
        constructor
        · intro _; trivial
        · intro _; left; omega
      · show lp_X11_drawPiece_71 F (nI p) ri bo (n + 1) (nI _) M1 = _
        rw [el_X11_drawPiece_71]
        unfold st_X11_drawPiece_71
        rw [if_pos (by rw [a_lt rfl (n_int (by omega))]; omega)]
  obtain ⟨M', e, h⟩ := L
  refine ⟨M', ?_, h⟩
  unfold f_X11_drawPiece
  rw [bndO_s _ r1, bnd_d, bndO_s _ b1, bnd_d, bndO_s _ t1, bnd_d, bndO_s _ e]
/-- what the pieces of a pane may change -/
def rqI (g k : Nat) : Prop := (g = 122 ∧ k = 39) ∨ (141 ≤ g ∧ g ≤ 143) ∨ (150 ≤ g ∧ g ≤ 152)
def rqL (g : Nat) : Prop := g = 122 ∨ (153 ≤ g ∧ g ≤ 156)
theorem rPoly.to {M M' : GM} {l : List V} (h : rPoly M l) (h4 : l.length ≤ 4) (f : ∀ g k, ((g = 122 ∧ k = 27) ∨ (145 ≤ g ∧ g ≤ 148)) → gI M' g k = gI M g k) : rPoly M' l := by
  refine ⟨by rw [f 122 27 (Or.inl ⟨rfl, rfl⟩)]; exact h.1, fun j v hv k hk => ?_⟩
  have : j < l.length := by
    rcases Nat.lt_or_ge j l.length with q | q
    · exact q
    · rw [List.getElem?_eq_none q] at hv; cases hv
  rw [f _ k (Or.inr ⟨by omega, by omega⟩)]
  exact h.2 j v hv k hk
theorem r_pq {P : PM} {M : GM} {F p q : Nat} {wo : Int32} (hF : 3000 ≤ F) (hO : OK P) (hR : RV P M) (hp : p < 30) (hq : q < 2) (hl : rPoly M (sPane P p)) (hpx : ∀ k, k < 960 → pxOK (rPx M k)) :
    ∃ M', (∀ rec, st_X11_draw_84 F wo (nI p) rec (nI q) M = rec (nI (q + 1)) M') ∧ (∀ k, k < 960 → rPx M' k = sPq P p q k (rPx M k)) ∧
      (∀ kk, kk < 960 → gI M 122 25 = nI kk → gI M' 122 39 = if sHq P p q kk (rPx M kk) = true ∧ ¬ P 132 p = 0 then 1 else gI M 122 39) ∧
      (∀ g k, ¬ rqI g k → gI M' g k = gI M g k) ∧ (∀ g k, ¬ rqL g → gL M' g k = gL M g k) ∧ M'.2.2 = M.2.2 := by
  obtain ⟨v, M1, e1, e2, i1, l1, p1⟩ := r_layPiece (F := F) hF hO hR hp hq hl
  have hc : ¬ (2 : Int32) ≤ nI q := by rw [i_2, n_le (by omega) (by omega)]; omega
  have px1 : ∀ k, rPx M1 k = rPx M k := fun k => by unfold rPx; rw [i1 _ _ (by unfold lpS; omega), i1 _ _ (by unfold lpS; omega), i1 _ _ (by unfold lpS; omega)]
  rcases e2 with ⟨e2, rfl⟩ | ⟨t, e2, rfl, hT⟩
  · refine ⟨M1, fun rec => ?_, fun k hk => ?_, fun kk hk hg => ?_, fun g k h => i1 g k (by unfold lpS; unfold rqI at h; omega), fun g k h => l1 g k (by unfold lpL; unfold rqL at h; omega), p1⟩
    · unfold st_X11_draw_84
      rw [if_neg hc, bndO_s _ e1]
      show (if (0 : Int32) = 0 then _ else _) = _
      rw [if_pos rfl, bnd_d, i_1, n_a]
    · rw [px1]; unfold sPq; rw [e2]
    · rw [i1 _ _ (by unfold lpS; omega), if_neg]
      unfold sHq; rw [e2]; simp
  · have hR1 : RV P M1 := hR.to fun g k h => i1 g k (by unfold lpS; omega)
    obtain ⟨M2, f1, hT2, x2, g2, i2, l2, p2⟩ := r_drawPiece (F := F) hF hO hR1 hp (sPcs_ok hO e2) hT (fun k hk => by rw [px1]; exact hpx k hk)
    refine ⟨M2, fun rec => ?_, fun k hk => ?_, fun kk hk hg => ?_, fun g k h => ?_, fun g k h => ?_, p2.trans p1⟩
    · unfold st_X11_draw_84
      rw [if_neg hc, bndO_s _ e1]
      show (if (1 : Int32) = 0 then _ else _) = _
      rw [if_neg (by decide), bndO_s _ f1, bnd_d, i_1, n_a]
    · rw [x2 k hk, if_pos rfl, px1]; unfold sPq; rw [e2]
    · rw [g2 kk hk (by rw [i1 _ _ (by unfold lpS; omega)]; exact hg), px1, i1 _ _ (by unfold lpS; omega)]
      unfold sHq
      rw [e2]
      by_cases hh : sHit P t kk (rPx M kk) ∧ ¬ P 132 p = 0
      · rw [if_pos ⟨rfl, hh.1, hh.2⟩, if_pos ⟨decide_eq_true hh.1, hh.2⟩]
      · rw [if_neg (fun h => hh ⟨h.2.1, h.2.2⟩), if_neg (fun h => hh ⟨of_decide_eq_true h.1, h.2⟩)]
    · unfold rqI at h
      rw [i2 g k (by unfold rdI; omega), i1 g k (by unfold lpS; omega)]
    · unfold rqL at h
      rw [l2 g k (by omega), l1 g k (by unfold lpL; omega)]
