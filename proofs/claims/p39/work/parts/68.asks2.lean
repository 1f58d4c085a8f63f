/-! PURE PART: corners of a polygon, asked for -/
theorem at_some {α : Type} {l : List α} {j : Nat} (h : j < l.length) : ∃ v, l[j]? = some v := ⟨_, List.getElem?_eq_getElem h⟩
theorem len_in {n : Nat} {a : Int32} (hn : n ≤ 4) (h : inR a 0 ((n : Int) - 1)) : ∃ k, a = nI k ∧ k < n ∧ k < 4 := by
  obtain ⟨k, e, hk⟩ := in_nat h
  exact ⟨k, e, hk, by omega⟩
theorem len_m1 {M : GM} {g k n : Nat} (h : gI M g k = nI n) (hn : n ≤ 4) : (gI M g k - 1).toInt = (n : Int) - 1 := by rw [h]; exact a_sub (n_int (by omega)) tv_1 (by omega) (by omega)
def sCor (v : V) (w : Nat) : Int := if w = 5 then sMix (v 5) (v 6) (v 7) else v w
theorem c_reqSpot {P : PM} {M : GM} {p : Nat} (hS : cShape P M p) (F : Nat) (a : Int32) : f_X10_requireSpot F a M = if inR a 0 (((sPane P p).length : Int) - 1) then some (.inr ()) else some (.inl 3) := by
  unfold f_X10_requireSpot
  rw [w_in a tv_0 (len_m1 hS.1 (sPane_len P p)), one_if]
/-- a place on the screen, as it is told -/
def sTold (x : Int) : Int := if x < -30000 then -30001 else if 30000 < x then 30001 else x
theorem tv_30001 : (30001 : Int32).toInt = 30001 := rfl
theorem tv_m30001 : (-30001 : Int32).toInt = -30001 := by decide
theorem c_told {a : Int32} {x : Int} (ha : a.toInt = x) : (f_X10_cutToScreenLimit a).toInt = sTold x := by
  unfold f_X10_cutToScreenLimit sTold
  rw [a_max tv_m30001 (a_min tv_30001 ha)]
  split
  · omega
  · split <;> omega
/-- what the screen has of a corner -/
def sScr (P : PM) (v : V) (w : Nat) : Int := if w = 0 then sTold (sX (sFoc P) v) else if w = 1 then sTold (sY (sFoc P) v) else if w = 2 then sDp (sNear P) v else sWt v
theorem sScr_0 (P : PM) (v : V) : sScr P v 0 = sTold (sX (sFoc P) v) := by unfold sScr; rw [if_pos rfl]
theorem sScr_1 (P : PM) (v : V) : sScr P v 1 = sTold (sY (sFoc P) v) := by unfold sScr; rw [if_neg (by decide), if_pos rfl]
theorem sScr_2 (P : PM) (v : V) : sScr P v 2 = sDp (sNear P) v := by unfold sScr; rw [if_neg (by decide), if_neg (by decide), if_pos rfl]
theorem sScr_3 (P : PM) (v : V) : sScr P v 3 = sWt v := by unfold sScr; rw [if_neg (by decide), if_neg (by decide), if_neg (by decide)]
theorem cq_screen {P : PM} {M : GM} {F p k w : Nat} {v : V} (hF : 3000 ≤ F) (hO : OK P) (hC : CS P M) (hp : p < sN P) (ev : (sPane P p)[k]? = some v) (hw : w < 4) : ∃ z M', f_X10_screenOf F (nI p) (nI k) (nI w) M = some (.inr (z, M')) ∧ z.toInt = sScr P v w ∧ cQ P M M' := by
  obtain ⟨n1, n2, -, -⟩ := sN_of hO
  obtain ⟨M', e, s, f, -⟩ := c_formShape (F := F) hF hO hC.1 (show p < 30 by omega)
  have len4 := sPane_len P p
  have hk := at_lt ev
  have sp := s.2.1 k v ev
  have main : ∃ z : Int32, f_X10_screenOf F (nI p) (nI k) (nI w) M = some (.inr (z, M')) ∧ z.toInt = sScr P v w := by
    unfold f_X10_screenOf
    rw [c_reqPane hO hC.1, if_pos (in_pane hO hp), bndTr, bndO_s _ e, c_reqSpot s, if_pos (show inR (nI k) 0 _ by unfold inR; rw [n_int (by omega)]; omega), bndTr, w_in _ tv_0 tv_3, one_if, if_pos (show inR (nI w) 0 3 by unfold inR; rw [n_int (by omega)]; omega), gn_11, grd_t (n_in (show k < 4 by omega) (by omega)), bnd_d, n_cl (by omega), gr_11]
    rcases (show w = 0 ∨ w = 1 ∨ w = 2 ∨ w = 3 by omega) with rfl | rfl | rfl | rfl
    · rw [sScr_0, if_pos (show nI 0 = 0 from rfl)]; exact ⟨_, rfl, c_told sp.2.1⟩
    · rw [sScr_1, if_neg (show ¬ nI 1 = 0 by decide), if_pos (show nI 1 = 1 from rfl)]; exact ⟨_, rfl, c_told sp.2.2.1⟩
    · rw [sScr_2, if_neg (show ¬ nI 2 = 0 by decide), if_neg (show ¬ nI 2 = 1 by decide), if_pos (show nI 2 = 2 from rfl)]; exact ⟨_, rfl, sp.2.2.2.1⟩
    · rw [sScr_3, if_neg (show ¬ nI 3 = 0 by decide), if_neg (show ¬ nI 3 = 1 by decide), if_neg (show ¬ nI 3 = 2 by decide)]; exact ⟨_, rfl, sp.2.2.2.2⟩
  obtain ⟨z, m1, m2⟩ := main
  exact ⟨z, M', m1, m2, cQ.fs hC f⟩
