/-! PURE PART: calls about what would be -/
theorem inB_one {x y k : Nat} (hx : x < 40) (hk : k < 960) : inB x x y y k ↔ k = y * 40 + x := by unfold inB; omega
/-- how many points would have another colour without a pane -/
def sSeenOf (P : PM) (p : Nat) : Nat := cntB (fun k => decide ((nPx P k).1 ≠ (sPix P (nI p) (sN P) k).1)) 960
theorem sPix_hid {P : PM} {p : Nat} (h : P 134 p = 0) (hp : p < 30) : ∀ i, i ≤ 30 → ∀ k, sPix P (nI p) i k = sPix P (-1) i k := by
  intro i
  induction i with
  | zero => intro _ k; rfl
  | succ i ih =>
    intro hi k
    have ih := ih (by omega) k
    have n1 : ¬ nI i = -1 := fun q => by
      have := congrArg Int32.toInt q
      rw [n_int (by omega), tv_m1] at this
      omega
    show (if P 134 i = 0 ∨ nI i = nI p then sPix P (nI p) i k else sP2 P i k (sPix P (nI p) i k)) = (if P 134 i = 0 ∨ nI i = -1 then sPix P (-1) i k else sP2 P i k (sPix P (-1) i k))
    rw [ih]
    by_cases c : P 134 i = 0
    · rw [if_pos (Or.inl c), if_pos (Or.inl c)]
    · have : ¬ nI i = nI p := fun q => by
        rw [n_eq (by omega) (by omega)] at q
        rw [q] at c; exact c h
      rw [if_neg (fun q => q.elim c this), if_neg (fun q => q.elim c n1)]
theorem sSeenOf_hid {P : PM} {p : Nat} (hO : OK P) (h : P 134 p = 0) (hp : p < 30) : sSeenOf P p = 0 := by
  obtain ⟨-, n2, -, -⟩ := sN_of hO
  unfold sSeenOf
  rw [cntB_congr (g := fun _ => false) fun k _ => ?_, cntB_ff]
  rw [sPix_hid h hp (sN P) n2 k, decide_eq_false_iff_not]
  intro q; exact q rfl
