/-! PURE PART: what is stale, by the reference -/
def dTileU (f g : Nat → Px) (i t : Nat) : Bool := (List.range i).any fun k => decide (tOf k = t) && decide (f k ≠ g k)
theorem dTileU_s (f g : Nat → Px) (i t : Nat) : dTileU f g (i + 1) t = (dTileU f g i t || (decide (tOf i = t) && decide (f i ≠ g i))) := by
  unfold dTileU
  rw [List.range_succ, List.any_append]
  simp
theorem tOf_lt {k : Nat} (hk : k < 960) : tOf k < 15 := by unfold tOf; omega
theorem or_tab (a : Bool) (c : Prop) [Decidable c] : (if a = true then (1 : Int32) else 0) ||| (if c then (0 : Int32) else 1) = if (a || decide (¬ c)) = true then 1 else 0 := by
  by_cases h : c <;> cases a <;> simp [h] <;> decide
theorem bit_tf (a : Bool) : gTf (if a = true then (1 : Int32) else 0) = true := by cases a <;> decide
