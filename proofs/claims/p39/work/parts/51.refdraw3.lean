/-! PURE PART: the reference draws all -/
theorem fl_ite (a b : Bool) (c : Prop) [Decidable c] : (if b = true ∧ ¬ c then (1 : Int32) else if a = true ∧ ¬ c then 1 else 0) = if (a || b) = true ∧ ¬ c then 1 else 0 := by
  cases a <;> cases b <;> by_cases h : c <;> simp [h]
