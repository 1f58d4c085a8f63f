/-! PURE PART: the reference's polygon -/
theorem k8 {k : Nat} (h : k < 8) : k = 0 ∨ k = 1 ∨ k = 2 ∨ k = 3 ∨ k = 4 ∨ k = 5 ∨ k = 6 ∨ k = 7 := by omega
/-- the k-th number behind a cut, and its mending -/
def sRaw (near : Int) (p q : V) (k : Nat) : Int := p k + ((q k - p k) * (p 2 - near)) / (p 2 - q 2)
theorem gv0_k {v : V} (h : gv0 v) {k : Nat} (hk : k < 8) : -36000 ≤ v k ∧ v k ≤ 36000 := by
  by_cases h3 : k < 3
  · exact h.1 k h3
  · by_cases h5 : k < 5
    · have := h.2.1 k (by omega) h5; omega
    · have := h.2.2 k (by omega) hk; omega
