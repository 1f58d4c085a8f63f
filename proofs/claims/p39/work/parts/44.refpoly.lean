/-! PURE PART: the reference's polygon, laid down -/
theorem sOf_lt {P : PM} (h : OK P) (i k : Nat) : sOf P i k < 40 ∧ P 130 (3 * i + k) = nI (sOf P i k) := by
  obtain ⟨-, -, -, -, -, -, -, -, h9, -⟩ := h
  have h := h9 (3 * i + k)
  have e : ((sOf P i k : Nat) : Int) = (P 130 (3 * i + k)).toInt := by
    unfold sOf; rw [a_nat32 rfl]; omega
  exact ⟨by omega, n_of (by rw [e])⟩
