/-! PURE PART: more calls that set something -/
/-- how many corners are in front -/
def sFront (P : PM) : Nat := cntB (fun c => decide (sNear P ≤ sSeen P c 2)) (sC1 P)
theorem c_front {P : PM} {M : GM} {F : Nat} (hF : 3000 ≤ F) (hO : OK P) (hC : CV P M) : f_X10_cornersInFront F M = some (nI (sFront P)) := by
  obtain ⟨-, -, n1, n2⟩ := sN_of hO
  have e12 : gI M 0 12 = nI (sC1 P) := hC.1.1.trans n1
  have e4 : gI M 4 1 = P 122 3 := hC.1.2.2.2.1
  have L : ∃ q, lp_X10_cornersInFront_4 F M F 0 0 = some q ∧ q = nI (sFront P) := by
    refine run_up (fun n (s : Int32 × Int32) => lp_X10_cornersInFront_4 F M n s.1 s.2) (fun i s => s.2 = nI i ∧ s.1 = nI (cntB (fun c => decide (sNear P ≤ sSeen P c 2)) i)) _ 0 (sC1 P) F (by omega) (by omega) (s := (0, 0)) ⟨rfl, rfl⟩ ?_ ?_
    · rintro i ⟨a, x⟩ - hi ⟨rfl, rfl⟩
      have h4 : i < 40 := by omega
      obtain ⟨v, v1, v2⟩ := c_along (F := F) (r := 2) hO hC h4 (by omega)
      have hlt : v < P 122 3 ↔ ¬ sNear P ≤ sSeen P i 2 := by rw [a_lt v2 (show (P 122 3).toInt = sNear P from rfl)]; omega
      refine ⟨(nI (cntB (fun c => decide (sNear P ≤ sSeen P c 2)) (i + 1)), nI (i + 1)), ⟨rfl, rfl⟩, fun n => ?_⟩
      show lp_X10_cornersInFront_4 F M (n + 1) (nI (cntB (fun c => decide (sNear P ≤ sSeen P c 2)) i)) (nI i) = lp_X10_cornersInFront_4 F M n (nI (cntB (fun c => decide (sNear P ≤ sSeen P c 2)) i + if decide (sNear P ≤ sSeen P i 2) = true then 1 else 0)) (nI (i + 1))
      rw [el_X10_cornersInFront_4]
      unfold st_X10_cornersInFront_4
      rw [e12, if_neg (by rw [n_le (by omega) (by omega)]; omega), gn_1, grd_t (n_in h4 (by omega)), bnd_d, n_cl (by omega), gr_1, bndO_s _ (show f_X1_along F 2 (44 + i) M = some v from v1), e4]
      by_cases c : sNear P ≤ sSeen P i 2
      · rw [if_neg (fun h => hlt.mp h c), if_pos (decide_eq_true c), bnd_d, bnd_d, i_1, n_a, n_a]
      · rw [if_pos (hlt.mpr c), if_neg (by rw [decide_eq_true_eq]; exact c), bnd_d, i_1, n_a] <;> rfl
    · rintro ⟨a, x⟩ ⟨rfl, rfl⟩
      refine ⟨_, rfl, fun n => ?_⟩
      show lp_X10_cornersInFront_4 F M (n + 1) _ (nI _) = _
      rw [el_X10_cornersInFront_4]
      unfold st_X10_cornersInFront_4
      rw [e12, if_pos (by rw [n_le (by omega) (by omega)]; omega)]
      rfl
  obtain ⟨q, e, rfl⟩ := L
  unfold f_X10_cornersInFront
  rw [bnd_d, bnd_d, bndO_s _ e]
