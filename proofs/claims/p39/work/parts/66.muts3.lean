/-! PURE PART: addPane, moveCorner -/
/-- whether a pane has a corner -/
def sHas (P : PM) (c i : Nat) : Bool := decide (P 130 (3 * i) = nI c ∨ P 130 (3 * i + 1) = nI c ∨ P 130 (3 * i + 2) = nI c)
theorem has_cnt {P : PM} (hD : DJ P) (c : Nat) : ∀ i, i ≤ sN P → cntB (fun j => decide (P 130 j = nI c)) (3 * i) = cntB (sHas P c) i := by
  intro i
  induction i with
  | zero => intro _; rfl
  | succ i ih =>
    intro hi
    obtain ⟨d1, d2, d3⟩ := hD i (by omega)
    have ih := ih (by omega)
    show cntB (fun j => decide (P 130 j = nI c)) (3 * i + 1 + 1 + 1) = cntB (sHas P c) i + if sHas P c i = true then 1 else 0
    show ((cntB (fun j => decide (P 130 j = nI c)) (3 * i) + if decide (P 130 (3 * i) = nI c) = true then 1 else 0) + if decide (P 130 (3 * i + 1) = nI c) = true then 1 else 0) + (if decide (P 130 (3 * i + 2) = nI c) = true then 1 else 0) = _
    rw [ih]
    unfold sHas
    by_cases q0 : P 130 (3 * i) = nI c
    · have q1 : ¬ P 130 (3 * i + 1) = nI c := fun h => d1 (q0.trans h.symm)
      have q2 : ¬ P 130 (3 * i + 2) = nI c := fun h => d3 (h.trans q0.symm)
      simp [q0, q1, q2]
    · by_cases q1 : P 130 (3 * i + 1) = nI c
      · have q2 : ¬ P 130 (3 * i + 2) = nI c := fun h => d2 (q1.trans h.symm)
        simp [q0, q1, q2]
      · by_cases q2 : P 130 (3 * i + 2) = nI c
        · simp [q0, q1, q2]
        · simp [q0, q1, q2]
theorem c_having {P : PM} {M : GM} {F c : Nat} (hF : 3000 ≤ F) (hO : OK P) (hC : CV P M) : lp_X10_moveCorner_31 F (nI c) F 0 0 M = some (nI (cntB (sHas P c) (sN P)), M) := by
  obtain ⟨n1, n2, -, -⟩ := sN_of hO
  have e13 : gI M 0 13 = nI (sN P) := hC.1.2.1.trans n1
  have L : ∃ q : Int32 × GM, lp_X10_moveCorner_31 F (nI c) F 0 0 M = some q ∧ q = (nI (cntB (sHas P c) (sN P)), M) := by
    refine run_up (fun n (s : Int32 × Int32 × GM) => lp_X10_moveCorner_31 F (nI c) n s.1 s.2.1 s.2.2) (fun i s => s.2.1 = nI i ∧ s.1 = nI (cntB (sHas P c) i) ∧ s.2.2 = M) _ 0 (sN P) F (by omega) (by omega) (s := (0, 0, M)) ⟨rfl, rfl, rfl⟩ ?_ ?_
    · rintro i ⟨a, x, M1⟩ - hi ⟨rfl, rfl, rfl⟩
      have h3 : i < 30 := by omega
      obtain ⟨q0, q1, q2, -⟩ := hC.2.2.2.1 i h3
      have hh : f_X4_has (84 + i) (nI c) M1 = if sHas P c i = true then 1 else 0 := by
        unfold f_X4_has sHas
        rw [show gI M1 (84 + i) 0 = P 130 (3 * i + 0) from q0, show gI M1 (84 + i) 1 = P 130 (3 * i + 1) from q1, show gI M1 (84 + i) 2 = P 130 (3 * i + 2) from q2, Nat.add_zero]
        by_cases w0 : P 130 (3 * i) = nI c
        · rw [if_pos w0, if_pos (decide_eq_true (Or.inl w0))]
        · by_cases w1 : P 130 (3 * i + 1) = nI c
          · rw [if_neg w0, if_pos w1, if_pos (decide_eq_true (Or.inr (Or.inl w1)))]
          · by_cases w2 : P 130 (3 * i + 2) = nI c
            · rw [if_neg w0, if_neg w1, if_pos w2, if_pos (decide_eq_true (Or.inr (Or.inr w2)))]
            · rw [if_neg w0, if_neg w1, if_neg w2, if_neg]
              rw [decide_eq_true_eq]
              rintro (h | h | h)
              · exact w0 h
              · exact w1 h
              · exact w2 h
      refine ⟨(nI (cntB (sHas P c) (i + 1)), nI (i + 1), M1), ⟨rfl, rfl, rfl⟩, fun n => ?_⟩
      show lp_X10_moveCorner_31 F (nI c) (n + 1) (nI (cntB (sHas P c) i)) (nI i) M1 = lp_X10_moveCorner_31 F (nI c) n (nI (cntB (sHas P c) i + if sHas P c i = true then 1 else 0)) (nI (i + 1)) M1
      rw [el_X10_moveCorner_31]
      unfold st_X10_moveCorner_31
      rw [show gI M1 0 13 = nI (sN P) from e13, if_neg (by rw [n_le (by omega) (by omega)]; omega), gn_2, grd_t (n_in h3 (by omega)), bnd_d, n_cl (by omega), gr_2, hh, one_if]
      by_cases w : sHas P c i = true
      · rw [if_pos w, if_pos w, bnd_d, bnd_d, i_1, n_a, n_a]
      · rw [if_neg w, if_neg w, bnd_d, i_1, n_a] <;> rfl
    · rintro ⟨a, x, M1⟩ ⟨rfl, rfl, rfl⟩
      refine ⟨_, rfl, fun n => ?_⟩
      show lp_X10_moveCorner_31 F (nI c) (n + 1) _ (nI _) M1 = _
      rw [el_X10_moveCorner_31]
      unfold st_X10_moveCorner_31
      rw [show gI M1 0 13 = nI (sN P) from e13, if_pos (by rw [n_le (by omega) (by omega)]; omega)] <;> rfl
  obtain ⟨q, e, rfl⟩ := L
  exact e
