/-! THE WORLD: ids of cells, what each is, the memory, the list of all cells -/
/-- what the cell of an id is: (tag, length): tags 0..11 the classes in the order of vwCl, 20 int[], 21 long[], 22 boolean[], 23..27 arrays of objects, 28 int[][] -/
def gK_tbl : List (Nat × Nat) := [(10, 0), (23, 40), (24, 30), (25, 4), (1, 0), (20, 12), (8, 0), (26, 3), (9, 0), (9, 0), (9, 0), (26, 4), (9, 0), (9, 0), (9, 0), (9, 0), (27, 2), (6, 0), (0, 0), (9, 0), (9, 0), (9, 0), (6, 0), (0, 0), (9, 0), (9, 0), (9, 0), (7, 0), (20, 960), (20, 960), (20, 960), (7, 0), (20, 960), (20, 960), (20, 960), (7, 0), (20, 960), (20, 960), (20, 960), (2, 0), (20, 2048), (20, 30), (0, 0), (0, 0), (3, 0), (3, 0), (3, 0), (3, 0), (3, 0), (3, 0), (3, 0), (3, 0), (3, 0), (3, 0), (3, 0), (3, 0), (3, 0), (3, 0), (3, 0), (3, 0), (3, 0), (3, 0), (3, 0), (3, 0), (3, 0), (3, 0), (3, 0), (3, 0), (3, 0), (3, 0), (3, 0), (3, 0), (3, 0), (3, 0), (3, 0), (3, 0), (3, 0), (3, 0), (3, 0), (3, 0), (3, 0), (3, 0), (3, 0), (3, 0), (4, 0), (4, 0), (4, 0), (4, 0), (4, 0), (4, 0), (4, 0), (4, 0), (4, 0), (4, 0), (4, 0), (4, 0), (4, 0), (4, 0), (4, 0), (4, 0), (4, 0), (4, 0), (4, 0), (4, 0), (4, 0), (4, 0), (4, 0), (4, 0), (4, 0), (4, 0), (4, 0), (4, 0), (4, 0), (4, 0), (5, 0), (20, 64), (5, 0), (20, 64), (5, 0), (20, 64), (5, 0), (20, 64), (11, 0), (28, 40), (28, 30), (29, 30), (28, 3), (28, 4), (22, 4), (20, 64), (20, 64), (20, 64), (20, 64), (20, 6), (20, 6), (20, 6), (20, 6), (20, 6), (20, 6), (20, 6), (20, 6), (20, 6), (20, 6), (20, 6), (20, 6), (20, 6), (20, 6), (20, 6), (20, 6), (20, 6), (20, 6), (20, 6), (20, 6), (20, 6), (20, 6), (20, 6), (20, 6), (20, 6), (20, 6), (20, 6), (20, 6), (20, 6), (20, 6), (20, 6), (20, 6), (20, 6), (20, 6), (20, 6), (20, 6), (20, 6), (20, 6), (20, 6), (20, 6), (20, 4), (20, 4), (20, 4), (20, 4), (20, 4), (20, 4), (20, 4), (20, 4), (20, 4), (20, 4), (20, 4), (20, 4), (20, 4), (20, 4), (20, 4), (20, 4), (20, 4), (20, 4), (20, 4), (20, 4), (20, 4), (20, 4), (20, 4), (20, 4), (20, 4), (20, 4), (20, 4), (20, 4), (20, 4), (20, 4), (22, 3), (22, 3), (22, 3), (22, 3), (22, 3), (22, 3), (22, 3), (22, 3), (22, 3), (22, 3), (22, 3), (22, 3), (22, 3), (22, 3), (22, 3), (22, 3), (22, 3), (22, 3), (22, 3), (22, 3), (22, 3), (22, 3), (22, 3), (22, 3), (22, 3), (22, 3), (22, 3), (22, 3), (22, 3), (22, 3), (20, 4), (20, 4), (20, 4), (30, 6), (30, 4), (31, 3), (30, 3)]
def gK (g : Nat) : Nat × Nat := gK_tbl.getD g (99, 0)
def gT (g : Nat) : Nat := (gK g).1
def gN (g : Nat) : Nat := (gK g).2
def gn : Nat := 236
def gm : Nat := 240
theorem gT_lm {g : Nat} (h : gT g ≠ 99) : g < gm := by
  rcases Nat.lt_or_ge g gm with q | q
  · exact q
  · exact absurd (show gT g = 99 by unfold gT gK; rw [List.getD_eq_getElem?_getD, List.getElem?_eq_none (by exact q)]; rfl) h
theorem gT_lt {g : Nat} (h : gT g < 30) : g < gn := by
  have h1 : g < gm := gT_lm (by omega)
  rcases Nat.lt_or_ge g gn with q | q
  · exact q
  · have h2 : g = 236 ∨ g = 237 ∨ g = 238 ∨ g = 239 := by unfold gm at h1; unfold gn at q; omega
    rcases h2 with rfl | rfl | rfl | rfl <;> exact absurd h (by decide +kernel)
/-- the id that a fixed array of references holds at a place -/
def gR (g j : Nat) : Nat := if g = 1 then 44 + j else if g = 2 then 84 + j else if g = 3 then 114 + 2 * j else if g = 7 then 8 + j else if g = 11 then 12 + j else if g = 16 then 17 + 5 * j else if g = 123 then 133 + j else if g = 124 then 173 + j else if g = 125 then 203 + j else if g = 126 then 233 + j else if g = 127 then 129 + j else 0
abbrev GM := (Nat → Nat → Int32) × (Nat → Nat → Int64) × (Nat → Nat → Nat)
def gI (M : GM) (g k : Nat) : Int32 := M.1 g k
def gL (M : GM) (g k : Nat) : Int64 := M.2.1 g k
def gP (M : GM) (g k : Nat) : Nat := M.2.2 g k
def u2 {α : Type} (f : Nat → Nat → α) (g k : Nat) (v : α) : Nat → Nat → α := fun g9 k9 => if g9 = g ∧ k9 = k then v else f g9 k9
def sI (M : GM) (g k : Nat) (v : Int32) : GM := (u2 M.1 g k v, M.2)
def sL (M : GM) (g k : Nat) (v : Int64) : GM := (M.1, u2 M.2.1 g k v, M.2.2)
def sP (M : GM) (g k : Nat) (v : Nat) : GM := (M.1, M.2.1, u2 M.2.2 g k v)
/-- n ints of the row g from k on, by f -/
def sC (M : GM) (g k n : Nat) (f : Nat → Int32) : GM := (fun g9 k9 => if g9 = g ∧ k ≤ k9 ∧ k9 < k + n then f (k9 - k) else M.1 g9 k9, M.2)
/-- class ids and slots, array classes by tag, addresses of ids, the least address, the rows just made that are in no place yet (236 + t), the script (its address, length, ints) -/
abbrev GZ := va_G × (Nat → ClassId) × (Nat → Nat) × Nat × List Nat × Nat × Nat × (Nat → Int32)
abbrev gD (z : GZ) : va_G := z.1
abbrev gcy (z : GZ) : Nat → ClassId := z.2.1
abbrev gad (z : GZ) : Nat → Nat := z.2.2.1
abbrev gB (z : GZ) : Nat := z.2.2.2.1
abbrev gtz (z : GZ) : List Nat := z.2.2.2.2.1
abbrev gsa (z : GZ) : Nat := z.2.2.2.2.2.1
abbrev gsl (z : GZ) : Nat := z.2.2.2.2.2.2.1
abbrev gsx (z : GZ) : Nat → Int32 := z.2.2.2.2.2.2.2
def gE (z : GZ) (M : GM) (g : Nat) : va_E := match gT g with
  | 0 => .inr (0, [.int (gI M g 0), .int (gI M g 1), .int (gI M g 2), .int (gI M g 3)])
  | 1 => .inr (1, [.ref (gad z (g + 1)), .int (gI M g 1), .int (gI M g 2)])
  | 2 => .inr (2, [.ref (gad z (g + 1)), .int (gI M g 1)])
  | 3 => .inr (3, [.int (gI M g 0), .int (gI M g 1), .int (gI M g 2), .int (gI M g 3), .int (gI M g 4), .int (gI M g 5)])
  | 4 => .inr (4, [.int (gI M g 0), .int (gI M g 1), .int (gI M g 2), .int (gI M g 3), .int (gI M g 4), .int (gI M g 5), .int (gI M g 6)])
  | 5 => .inr (5, [.ref (gad z (g + 1)), .int (gI M g 1)])
  | 6 => .inr (6, [.ref (gad z (g + 1)), .ref (gad z (gP M g 1)), .ref (gad z (gP M g 2)), .ref (gad z (gP M g 3)), .long (gL M g 4), .int (gI M g 5), .long (gL M g 6), .long (gL M g 7), .long (gL M g 8)])
  | 7 => .inr (7, [.ref (gad z (g + 1)), .ref (gad z (g + 2)), .ref (gad z (g + 3))])
  | 8 => .inr (8, [.ref (gad z (g + 1)), .ref (gad z (g + 5)), .ref (gad z (g + 10)), .int (gI M g 3)])
  | 9 => .inr (9, [.int (gI M g 0), .int (gI M g 1), .int (gI M g 2), .int (gI M g 3), .int (gI M g 4), .int (gI M g 5), .int (gI M g 6), .int (gI M g 7), .int (gI M g 8), .int (gI M g 9), .int (gI M g 10), .int (gI M g 11)])
  | 10 => .inr (10, [.ref (gad z 1), .ref (gad z 2), .ref (gad z 3), .ref (gad z 4), .ref (gad z 6), .ref (gad z 27), .ref (gad z 31), .ref (gad z 35), .ref (gad z 39), .ref (gad z 41), .ref (gad z 42), .ref (gad z 43), .int (gI M g 12), .int (gI M g 13), .int (gI M g 14)])
  | 11 => .inr (11, [.ref (gad z 0), .ref (gsa z), .int (gI M g 2), .int (gI M g 3), .int (gI M g 4), .ref (gad z 123), .ref (gad z 124), .ref (gad z 125), .ref (gad z 126), .ref (gad z 127), .ref (gad z 128), .int (gI M g 11), .int (gI M g 12), .int (gI M g 13)])
  | 20 => .inl (gcy z 20, (gN g, .inl (fun j => gI M g j)))
  | 21 => .inl (gcy z 21, (gN g, .inr (.inl (fun j => gL M g j))))
  | 22 => .inl (gcy z 22, (gN g, .inl (fun j => gI M g j)))
  | 23 => .inl (gcy z 23, (gN g, .inr (.inr (.inr (.inr (fun j => some (gad z (gR g j))))))))
  | 24 => .inl (gcy z 24, (gN g, .inr (.inr (.inr (.inr (fun j => some (gad z (gR g j))))))))
  | 25 => .inl (gcy z 25, (gN g, .inr (.inr (.inr (.inr (fun j => some (gad z (gR g j))))))))
  | 26 => .inl (gcy z 26, (gN g, .inr (.inr (.inr (.inr (fun j => some (gad z (gR g j))))))))
  | 27 => .inl (gcy z 27, (gN g, .inr (.inr (.inr (.inr (fun j => some (gad z (gR g j))))))))
  | 28 => .inl (gcy z 28, (gN g, .inr (.inr (.inr (.inr (fun j => some (gad z (gR g j))))))))
  | 29 => .inl (gcy z 29, (gN g, .inr (.inr (.inr (.inr (fun j => some (gad z (gR g j))))))))
  | 30 => .inl (gcy z 20, (gN g, .inl (fun j => gI M g j)))
  | 31 => .inl (gcy z 22, (gN g, .inl (fun j => gI M g j)))
  | _ => .inr (0, [])
theorem gE_0 {z : GZ} {M : GM} {g : Nat} (h : gT g = 0) : gE z M g = .inr (0, [.int (gI M g 0), .int (gI M g 1), .int (gI M g 2), .int (gI M g 3)]) := by unfold gE; simp only [h]
theorem gE_1 {z : GZ} {M : GM} {g : Nat} (h : gT g = 1) : gE z M g = .inr (1, [.ref (gad z (g + 1)), .int (gI M g 1), .int (gI M g 2)]) := by unfold gE; simp only [h]
theorem gE_2 {z : GZ} {M : GM} {g : Nat} (h : gT g = 2) : gE z M g = .inr (2, [.ref (gad z (g + 1)), .int (gI M g 1)]) := by unfold gE; simp only [h]
theorem gE_3 {z : GZ} {M : GM} {g : Nat} (h : gT g = 3) : gE z M g = .inr (3, [.int (gI M g 0), .int (gI M g 1), .int (gI M g 2), .int (gI M g 3), .int (gI M g 4), .int (gI M g 5)]) := by unfold gE; simp only [h]
theorem gE_4 {z : GZ} {M : GM} {g : Nat} (h : gT g = 4) : gE z M g = .inr (4, [.int (gI M g 0), .int (gI M g 1), .int (gI M g 2), .int (gI M g 3), .int (gI M g 4), .int (gI M g 5), .int (gI M g 6)]) := by unfold gE; simp only [h]
theorem gE_5 {z : GZ} {M : GM} {g : Nat} (h : gT g = 5) : gE z M g = .inr (5, [.ref (gad z (g + 1)), .int (gI M g 1)]) := by unfold gE; simp only [h]
theorem gE_6 {z : GZ} {M : GM} {g : Nat} (h : gT g = 6) : gE z M g = .inr (6, [.ref (gad z (g + 1)), .ref (gad z (gP M g 1)), .ref (gad z (gP M g 2)), .ref (gad z (gP M g 3)), .long (gL M g 4), .int (gI M g 5), .long (gL M g 6), .long (gL M g 7), .long (gL M g 8)]) := by unfold gE; simp only [h]
theorem gE_7 {z : GZ} {M : GM} {g : Nat} (h : gT g = 7) : gE z M g = .inr (7, [.ref (gad z (g + 1)), .ref (gad z (g + 2)), .ref (gad z (g + 3))]) := by unfold gE; simp only [h]
theorem gE_8 {z : GZ} {M : GM} {g : Nat} (h : gT g = 8) : gE z M g = .inr (8, [.ref (gad z (g + 1)), .ref (gad z (g + 5)), .ref (gad z (g + 10)), .int (gI M g 3)]) := by unfold gE; simp only [h]
theorem gE_9 {z : GZ} {M : GM} {g : Nat} (h : gT g = 9) : gE z M g = .inr (9, [.int (gI M g 0), .int (gI M g 1), .int (gI M g 2), .int (gI M g 3), .int (gI M g 4), .int (gI M g 5), .int (gI M g 6), .int (gI M g 7), .int (gI M g 8), .int (gI M g 9), .int (gI M g 10), .int (gI M g 11)]) := by unfold gE; simp only [h]
theorem gE_10 {z : GZ} {M : GM} {g : Nat} (h : gT g = 10) : gE z M g = .inr (10, [.ref (gad z 1), .ref (gad z 2), .ref (gad z 3), .ref (gad z 4), .ref (gad z 6), .ref (gad z 27), .ref (gad z 31), .ref (gad z 35), .ref (gad z 39), .ref (gad z 41), .ref (gad z 42), .ref (gad z 43), .int (gI M g 12), .int (gI M g 13), .int (gI M g 14)]) := by unfold gE; simp only [h]
theorem gE_11 {z : GZ} {M : GM} {g : Nat} (h : gT g = 11) : gE z M g = .inr (11, [.ref (gad z 0), .ref (gsa z), .int (gI M g 2), .int (gI M g 3), .int (gI M g 4), .ref (gad z 123), .ref (gad z 124), .ref (gad z 125), .ref (gad z 126), .ref (gad z 127), .ref (gad z 128), .int (gI M g 11), .int (gI M g 12), .int (gI M g 13)]) := by unfold gE; simp only [h]
theorem gE_20 {z : GZ} {M : GM} {g : Nat} (h : gT g = 20) : gE z M g = .inl (gcy z 20, (gN g, .inl (fun j => gI M g j))) := by unfold gE; simp only [h]
theorem gE_21 {z : GZ} {M : GM} {g : Nat} (h : gT g = 21) : gE z M g = .inl (gcy z 21, (gN g, .inr (.inl (fun j => gL M g j)))) := by unfold gE; simp only [h]
theorem gE_22 {z : GZ} {M : GM} {g : Nat} (h : gT g = 22) : gE z M g = .inl (gcy z 22, (gN g, .inl (fun j => gI M g j))) := by unfold gE; simp only [h]
theorem gE_23 {z : GZ} {M : GM} {g : Nat} (h : gT g = 23) : gE z M g = .inl (gcy z 23, (gN g, .inr (.inr (.inr (.inr (fun j => some (gad z (gR g j)))))))) := by unfold gE; simp only [h]
theorem gE_24 {z : GZ} {M : GM} {g : Nat} (h : gT g = 24) : gE z M g = .inl (gcy z 24, (gN g, .inr (.inr (.inr (.inr (fun j => some (gad z (gR g j)))))))) := by unfold gE; simp only [h]
theorem gE_25 {z : GZ} {M : GM} {g : Nat} (h : gT g = 25) : gE z M g = .inl (gcy z 25, (gN g, .inr (.inr (.inr (.inr (fun j => some (gad z (gR g j)))))))) := by unfold gE; simp only [h]
theorem gE_26 {z : GZ} {M : GM} {g : Nat} (h : gT g = 26) : gE z M g = .inl (gcy z 26, (gN g, .inr (.inr (.inr (.inr (fun j => some (gad z (gR g j)))))))) := by unfold gE; simp only [h]
theorem gE_27 {z : GZ} {M : GM} {g : Nat} (h : gT g = 27) : gE z M g = .inl (gcy z 27, (gN g, .inr (.inr (.inr (.inr (fun j => some (gad z (gR g j)))))))) := by unfold gE; simp only [h]
theorem gE_28 {z : GZ} {M : GM} {g : Nat} (h : gT g = 28) : gE z M g = .inl (gcy z 28, (gN g, .inr (.inr (.inr (.inr (fun j => some (gad z (gR g j)))))))) := by unfold gE; simp only [h]
theorem gE_29 {z : GZ} {M : GM} {g : Nat} (h : gT g = 29) : gE z M g = .inl (gcy z 29, (gN g, .inr (.inr (.inr (.inr (fun j => some (gad z (gR g j)))))))) := by unfold gE; simp only [h]
theorem gE_30 {z : GZ} {M : GM} {g : Nat} (h : gT g = 30) : gE z M g = .inl (gcy z 20, (gN g, .inl (fun j => gI M g j))) := by unfold gE; simp only [h]
theorem gE_31 {z : GZ} {M : GM} {g : Nat} (h : gT g = 31) : gE z M g = .inl (gcy z 22, (gN g, .inl (fun j => gI M g j))) := by unfold gE; simp only [h]
/-- the ids of a world: all that have a place, then the rows just made -/
def gL9 (z : GZ) : List Nat := List.range gn ++ (gtz z).map (fun t => 236 + t)
def gW (z : GZ) (M : GM) : va_W := (gL9 z).map (fun g => (gad z g, gE z M g))
theorem gL9_get (z : GZ) {g : Nat} (h : g < gn) : (gL9 z)[g]? = some g := by
  unfold gL9
  rw [List.getElem?_append_left (by rw [List.length_range]; exact h), List.getElem?_range h]
theorem gL9_of {z : GZ} {k g : Nat} (h : (gL9 z)[k]? = some g) : (k < gn ∧ g = k) ∨ (gn ≤ k ∧ gn ≤ g) := by
  unfold gL9 at h
  rcases Nat.lt_or_ge k gn with q | q
  · rw [List.getElem?_append_left (by rw [List.length_range]; exact q), List.getElem?_range q] at h
    exact Or.inl ⟨q, (Option.some.inj h).symm⟩
  · rw [List.getElem?_append_right (by rw [List.length_range]; exact q), List.getElem?_map] at h
    cases h2 : (gtz z)[k - (List.range gn).length]? with
    | none => rw [h2] at h; cases h
    | some t => rw [h2] at h; cases h; exact Or.inr ⟨q, Nat.le_add_right _ _⟩
theorem gW_get (z : GZ) (M : GM) {g : Nat} (h : g < gn) : (gW z M)[g]? = some (gad z g, gE z M g) := by unfold gW; rw [List.getElem?_map, gL9_get z h]; rfl
theorem gW_at {z : GZ} {M : GM} {g t : Nat} {e : va_E} (ht : gT g = t) (h9 : t < 30) (he : gE z M g = e) : (gW z M)[g]? = some (gad z g, e) := by rw [gW_get z M (gT_lt (by rw [ht]; exact h9)), he]
theorem gE_row {z : GZ} {M M' : GM} {g : Nat} (h1 : ∀ k, gI M' g k = gI M g k) (h2 : ∀ k, gL M' g k = gL M g k) (h3 : ∀ k, gP M' g k = gP M g k) : gE z M' g = gE z M g := by
  unfold gE
  simp only [h1, h2, h3]
theorem gW_set {z : GZ} {M M' : GM} {g : Nat} {e : va_E} (hg : gT g < 30) (he : gE z M' g = e) (ho : ∀ g9, g9 ≠ g → gE z M' g9 = gE z M g9) : (gW z M).set g (gad z g, e) = gW z M' := by
  have hg := gT_lt hg
  apply List.ext_getElem?
  intro j
  rw [List.getElem?_set]
  by_cases hj : g = j
  · subst hj
    rw [if_pos rfl]
    split
    · rw [gW_get z M' hg, he]
    · rename_i hl
      exact absurd ((List.getElem?_eq_some_iff.mp (gW_get z M hg)).1) hl
  · rw [if_neg hj]
    unfold gW
    rw [List.getElem?_map, List.getElem?_map]
    cases h : (gL9 z)[j]? with
    | none => rfl
    | some g9 =>
      have h2 : g9 ≠ g := by
        rcases gL9_of h with ⟨-, q⟩ | ⟨-, q⟩ <;> omega
      show some (gad z g9, gE z M g9) = some (gad z g9, gE z M' g9)
      rw [ho g9 h2]
theorem sI_eq (M : GM) (g k : Nat) (v : Int32) : gI (sI M g k v) g k = v := by simp [gI, sI, u2]
theorem sI_ne (M : GM) (g : Nat) {k k9 : Nat} (v : Int32) (h : k9 ≠ k) : gI (sI M g k v) g k9 = gI M g k9 := by simp [gI, sI, u2, h]
theorem sI_o (M : GM) {g g9 : Nat} (k k9 : Nat) (v : Int32) (h : g9 ≠ g) : gI (sI M g k v) g9 k9 = gI M g9 k9 := by simp [gI, sI, u2, h]
theorem sL_eq (M : GM) (g k : Nat) (v : Int64) : gL (sL M g k v) g k = v := by simp [gL, sL, u2]
theorem sL_ne (M : GM) (g : Nat) {k k9 : Nat} (v : Int64) (h : k9 ≠ k) : gL (sL M g k v) g k9 = gL M g k9 := by simp [gL, sL, u2, h]
theorem sL_o (M : GM) {g g9 : Nat} (k k9 : Nat) (v : Int64) (h : g9 ≠ g) : gL (sL M g k v) g9 k9 = gL M g9 k9 := by simp [gL, sL, u2, h]
theorem sP_eq (M : GM) (g k : Nat) (v : Nat) : gP (sP M g k v) g k = v := by simp [gP, sP, u2]
theorem sP_ne (M : GM) (g : Nat) {k k9 : Nat} (v : Nat) (h : k9 ≠ k) : gP (sP M g k v) g k9 = gP M g k9 := by simp [gP, sP, u2, h]
theorem sP_o (M : GM) {g g9 : Nat} (k k9 : Nat) (v : Nat) (h : g9 ≠ g) : gP (sP M g k v) g9 k9 = gP M g9 k9 := by simp [gP, sP, u2, h]
theorem gE_sI {z : GZ} {M : GM} {g k : Nat} {v : Int32} : ∀ g9, g9 ≠ g → gE z (sI M g k v) g9 = gE z M g9 := fun g9 h => gE_row (fun k9 => sI_o M k k9 v h) (fun _ => rfl) (fun _ => rfl)
theorem gE_sL {z : GZ} {M : GM} {g k : Nat} {v : Int64} : ∀ g9, g9 ≠ g → gE z (sL M g k v) g9 = gE z M g9 := fun g9 h => gE_row (fun _ => rfl) (fun k9 => sL_o M k k9 v h) (fun _ => rfl)
theorem gE_sP {z : GZ} {M : GM} {g k : Nat} {v : Nat} : ∀ g9, g9 ≠ g → gE z (sP M g k v) g9 = gE z M g9 := fun g9 h => gE_row (fun _ => rfl) (fun _ => rfl) (fun k9 => sP_o M k k9 v h)
theorem gE_sC {z : GZ} {M : GM} {g k n : Nat} {f : Nat → Int32} : ∀ g9, g9 ≠ g → gE z (sC M g k n f) g9 = gE z M g9 := fun g9 h => gE_row (fun k9 => by simp [gI, sC, h]) (fun _ => rfl) (fun _ => rfl)
/-- every reference that Piece keeps is a Spot -/
def gOK (M : GM) : Prop := ∀ g k, gT (gP M g k) = 9
theorem gOK_sP {M : GM} {g k v : Nat} (h : gOK M) (hv : gT v = 9) : gOK (sP M g k v) := by
  intro a b
  by_cases q : a = g ∧ b = k
  · obtain ⟨rfl, rfl⟩ := q
    rw [sP_eq]; exact hv
  · have : gP (sP M g k v) a b = gP M a b := by simp [gP, sP, u2, q]
    rw [this]; exact h a b
theorem gT_1_rows {g : Nat} (h : gT g = 1) : gT (g + 1) = 20 := (by decide +kernel : ∀ g, g < gn → gT g = 1 → gT (g + 1) = 20) g (gT_lt (by rw [h]; decide)) h
theorem gN_1_rows {g : Nat} (h : gT g = 1) : gN (g + 1) = 12 := (by decide +kernel : ∀ g, g < gn → gT g = 1 → gN (g + 1) = 12) g (gT_lt (by rw [h]; decide)) h
theorem gT_2_places {g : Nat} (h : gT g = 2) : gT (g + 1) = 20 := (by decide +kernel : ∀ g, g < gn → gT g = 2 → gT (g + 1) = 20) g (gT_lt (by rw [h]; decide)) h
theorem gN_2_places {g : Nat} (h : gT g = 2) : gN (g + 1) = 2048 := (by decide +kernel : ∀ g, g < gn → gT g = 2 → gN (g + 1) = 2048) g (gT_lt (by rw [h]; decide)) h
theorem gT_5_tints {g : Nat} (h : gT g = 5) : gT (g + 1) = 20 := (by decide +kernel : ∀ g, g < gn → gT g = 5 → gT (g + 1) = 20) g (gT_lt (by rw [h]; decide)) h
theorem gN_5_tints {g : Nat} (h : gT g = 5) : gN (g + 1) = 64 := (by decide +kernel : ∀ g, g < gn → gT g = 5 → gN (g + 1) = 64) g (gT_lt (by rw [h]; decide)) h
theorem gT_6_box {g : Nat} (h : gT g = 6) : gT (g + 1) = 0 := (by decide +kernel : ∀ g, g < gn → gT g = 6 → gT (g + 1) = 0) g (gT_lt (by rw [h]; decide)) h
theorem gT_7_colours {g : Nat} (h : gT g = 7) : gT (g + 1) = 20 := (by decide +kernel : ∀ g, g < gn → gT g = 7 → gT (g + 1) = 20) g (gT_lt (by rw [h]; decide)) h
theorem gN_7_colours {g : Nat} (h : gT g = 7) : gN (g + 1) = 960 := (by decide +kernel : ∀ g, g < gn → gT g = 7 → gN (g + 1) = 960) g (gT_lt (by rw [h]; decide)) h
theorem gT_7_depths {g : Nat} (h : gT g = 7) : gT (g + 2) = 20 := (by decide +kernel : ∀ g, g < gn → gT g = 7 → gT (g + 2) = 20) g (gT_lt (by rw [h]; decide)) h
theorem gN_7_depths {g : Nat} (h : gT g = 7) : gN (g + 2) = 960 := (by decide +kernel : ∀ g, g < gn → gT g = 7 → gN (g + 2) = 960) g (gT_lt (by rw [h]; decide)) h
theorem gT_7_panes {g : Nat} (h : gT g = 7) : gT (g + 3) = 20 := (by decide +kernel : ∀ g, g < gn → gT g = 7 → gT (g + 3) = 20) g (gT_lt (by rw [h]; decide)) h
theorem gN_7_panes {g : Nat} (h : gT g = 7) : gN (g + 3) = 960 := (by decide +kernel : ∀ g, g < gn → gT g = 7 → gN (g + 3) = 960) g (gT_lt (by rw [h]; decide)) h
theorem gT_8_ends {g : Nat} (h : gT g = 8) : gT (g + 1) = 26 := (by decide +kernel : ∀ g, g < gn → gT g = 8 → gT (g + 1) = 26) g (gT_lt (by rw [h]; decide)) h
theorem gN_8_ends {g : Nat} (h : gT g = 8) : gN (g + 1) = 3 := (by decide +kernel : ∀ g, g < gn → gT g = 8 → gN (g + 1) = 3) g (gT_lt (by rw [h]; decide)) h
theorem gT_8_pieces {g : Nat} (h : gT g = 8) : gT (g + 10) = 27 := (by decide +kernel : ∀ g, g < gn → gT g = 8 → gT (g + 10) = 27) g (gT_lt (by rw [h]; decide)) h
theorem gN_8_pieces {g : Nat} (h : gT g = 8) : gN (g + 10) = 2 := (by decide +kernel : ∀ g, g < gn → gT g = 8 → gN (g + 10) = 2) g (gT_lt (by rw [h]; decide)) h
theorem gT_8_spots {g : Nat} (h : gT g = 8) : gT (g + 5) = 26 := (by decide +kernel : ∀ g, g < gn → gT g = 8 → gT (g + 5) = 26) g (gT_lt (by rw [h]; decide)) h
theorem gN_8_spots {g : Nat} (h : gT g = 8) : gN (g + 5) = 4 := (by decide +kernel : ∀ g, g < gn → gT g = 8 → gN (g + 5) = 4) g (gT_lt (by rw [h]; decide)) h
theorem gR_23 {g j : Nat} (h : gT g = 23) (hj : j < gN g) : gT (gR g j) = 3 := (by decide +kernel : ∀ g, g < gn → gT g = 23 → ∀ j, j < gN g → gT (gR g j) = 3) g (gT_lt (by rw [h]; decide)) h j hj
theorem gR_24 {g j : Nat} (h : gT g = 24) (hj : j < gN g) : gT (gR g j) = 4 := (by decide +kernel : ∀ g, g < gn → gT g = 24 → ∀ j, j < gN g → gT (gR g j) = 4) g (gT_lt (by rw [h]; decide)) h j hj
theorem gR_25 {g j : Nat} (h : gT g = 25) (hj : j < gN g) : gT (gR g j) = 5 := (by decide +kernel : ∀ g, g < gn → gT g = 25 → ∀ j, j < gN g → gT (gR g j) = 5) g (gT_lt (by rw [h]; decide)) h j hj
theorem gR_26 {g j : Nat} (h : gT g = 26) (hj : j < gN g) : gT (gR g j) = 9 := (by decide +kernel : ∀ g, g < gn → gT g = 26 → ∀ j, j < gN g → gT (gR g j) = 9) g (gT_lt (by rw [h]; decide)) h j hj
theorem gR_27 {g j : Nat} (h : gT g = 27) (hj : j < gN g) : gT (gR g j) = 6 := (by decide +kernel : ∀ g, g < gn → gT g = 27 → ∀ j, j < gN g → gT (gR g j) = 6) g (gT_lt (by rw [h]; decide)) h j hj
theorem gR_28 {g j : Nat} (h : gT g = 28) (hj : j < gN g) : gT (gR g j) = 20 := (by decide +kernel : ∀ g, g < gn → gT g = 28 → ∀ j, j < gN g → gT (gR g j) = 20) g (gT_lt (by rw [h]; decide)) h j hj
theorem gR_29 {g j : Nat} (h : gT g = 29) (hj : j < gN g) : gT (gR g j) = 22 := (by decide +kernel : ∀ g, g < gn → gT g = 29 → ∀ j, j < gN g → gT (gR g j) = 22) g (gT_lt (by rw [h]; decide)) h j hj
/-- an index within, to compute with -/
def gIn (i : Int32) (n : Nat) : Bool := !(decide (i < 0) || decide (n ≤ i.toNatClampNeg))
theorem gIn_in {i : Int32} {n : Nat} (h : gIn i n = true) : vp_in i n := by
  unfold gIn at h
  intro q
  rcases q with q | q <;> simp [q] at h
theorem gIn_lt {i : Int32} {n : Nat} (h : gIn i n = true) : i.toNatClampNeg < n := Nat.not_le.mp fun q => gIn_in h (Or.inr q)
/-- a truth value -/
def gTf (v : Int32) : Bool := decide (v = 0) || decide (v = 1)
theorem gTf_of {v : Int32} (h : gTf v = true) : v = 0 ∨ v = 1 := by simpa [gTf] using h
def bnd {α β : Type} (a : α) (k : α → β) : β := k a
theorem bnd_e {α β : Type} {a x : α} {k : α → β} {o : β} (e : x = a) (h : bnd a k = o) : k x = o := by subst e; exact h
def bndO {α β : Type} (a : Option α) (k : α → Option β) : Option β := match a with
  | some v => k v
  | none => none
theorem bndO_e {α β : Type} {a : Option α} {k : α → Option β} {o : β} (h : bndO a k = some o) : ∃ v, a = some v ∧ k v = some o := by
  cases a with
  | none => cases h
  | some v => exact ⟨v, rfl, h⟩
def bndT {ε α β : Type} (a : Option (ε ⊕ α)) (x : ε → Option β) (k : α → Option β) : Option β := match a with
  | some (.inl v) => x v
  | some (.inr v) => k v
  | none => none
theorem bndT_e {ε α β : Type} {a : Option (ε ⊕ α)} {x : ε → Option β} {k : α → Option β} {o : β} (h : bndT a x k = some o) : (∃ v, a = some (.inl v) ∧ x v = some o) ∨ ∃ v, a = some (.inr v) ∧ k v = some o := by
  cases a with
  | none => cases h
  | some v => cases v with
    | inl v => exact Or.inl ⟨v, rfl, h⟩
    | inr v => exact Or.inr ⟨v, rfl, h⟩
/-- behind a loop: on from its end, or a value that the method returns out of it -/
def bndL {ε α β : Type} (a : Option (ε ⊕ α)) (k : ε → Option β) (r : α → Option β) : Option β := bndT a k r
def grd {β : Type} (b : Bool) (t : Option β) : Option β := match b with
  | true => t
  | false => none
theorem grd_e {β : Type} {b : Bool} {t : Option β} {o : β} (h : grd b t = some o) : b = true ∧ t = some o := by
  cases b with
  | false => cases h
  | true => exact ⟨rfl, h⟩
theorem ite_t {α : Sort _} {c : Prop} [Decidable c] {a b o : α} (hc : c) (h : (if c then a else b) = o) : a = o := (if_pos hc).symm.trans h
theorem ite_f {α : Sort _} {c : Prop} [Decidable c] {a b o : α} (hc : ¬ c) (h : (if c then a else b) = o) : b = o := (if_neg hc).symm.trans h
