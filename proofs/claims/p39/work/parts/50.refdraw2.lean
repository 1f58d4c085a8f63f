/-! PURE PART: the reference draws pieces, panes, all -/
theorem box_lx {P : PM} {t : V × V × V} {x y : Int} (ht : tOK P t) (hi : sIn (sFoc P) t x y) : (∀ L, L ≤ sX (sFoc P) t.1 → L ≤ sX (sFoc P) t.2.1 → L ≤ sX (sFoc P) t.2.2 → L ≤ 16 * x + 8) ∧ (∀ U, sX (sFoc P) t.1 ≤ U → sX (sFoc P) t.2.1 ≤ U → sX (sFoc P) t.2.2 ≤ U → 16 * x + 8 ≤ U) := by
  have h1 := ht.2.2.2.1
  have h2 := ht.2.2.2.2.1
  have h3 := ht.2.2.2.2.2.1
  unfold sFar at h1 h2 h3
  exact ⟨fun L a b c => (box_x (L := L) (U := 30000) ht hi ⟨a, by omega⟩ ⟨b, by omega⟩ ⟨c, by omega⟩).1, fun U a b c => (box_x (L := -30000) (U := U) ht hi ⟨by omega, a⟩ ⟨by omega, b⟩ ⟨by omega, c⟩).2⟩
theorem box_ly {P : PM} {t : V × V × V} {x y : Int} (ht : tOK P t) (hi : sIn (sFoc P) t x y) : (∀ L, L ≤ sY (sFoc P) t.1 → L ≤ sY (sFoc P) t.2.1 → L ≤ sY (sFoc P) t.2.2 → L ≤ 16 * y + 8) ∧ (∀ U, sY (sFoc P) t.1 ≤ U → sY (sFoc P) t.2.1 ≤ U → sY (sFoc P) t.2.2 ≤ U → 16 * y + 8 ≤ U) := by
  have h1 := ht.2.2.2.1
  have h2 := ht.2.2.2.2.1
  have h3 := ht.2.2.2.2.2.1
  unfold sFar at h1 h2 h3
  exact ⟨fun L a b c => (box_y (L := L) (U := 30000) ht hi ⟨a, by omega⟩ ⟨b, by omega⟩ ⟨c, by omega⟩).1, fun U a b c => (box_y (L := -30000) (U := U) ht hi ⟨by omega, a⟩ ⟨by omega, b⟩ ⟨by omega, c⟩).2⟩
/-- points that have had their turn when y rows and of the next x points are done -/
def dn (y x k : Nat) : Bool := decide (k / 40 < y) || (decide (k / 40 = y) && decide (k % 40 < x))
