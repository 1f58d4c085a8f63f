/-! ROWS THAT ARE MADE AND PUT INTO THEIR PLACE -/
/-- the same cell, as far as it reaches -/
def CE (e e2 : va_E) : Prop := e = e2 ∨ (∃ (c : ClassId) (n : Nat) (f f2 : Nat → Int32), e = .inl (c, n, .inl f) ∧ e2 = .inl (c, n, .inl f2) ∧ ∀ j, j < n → f j = f2 j) ∨ ∃ (c : ClassId) (n : Nat) (f f2 : Nat → Option Nat), e = .inl (c, n, .inr (.inr (.inr (.inr f)))) ∧ e2 = .inl (c, n, .inr (.inr (.inr (.inr f2)))) ∧ ∀ j, j < n → f j = f2 j
theorem st_arr {c : ClassId} {n : Nat} {f f2 : Nat → Value} (h : ∀ j, j < n → f j = f2 j) : arrV c n f = arrV c n f2 := by
  unfold arrV
  exact congrArg (fun q : Fin n → Value => ({ cls := c, slots := Array.ofFn q, vm := .none } : Cell)) (funext fun j => h j.val j.isLt)
theorem ce_at {D : va_G} {a : Nat} {e e2 : va_E} {H : Heap} (h : CE e e2) (hat : va_at D vwCl (a, e) H) : va_at D vwCl (a, e2) H := by
  rcases h with rfl | ⟨c, n, f, f2, rfl, rfl, hf⟩ | ⟨c, n, f, f2, rfl, rfl, hf⟩
  · exact hat
  · have hat : H[a]? = some (vp_cell c (n, .inl f)) := hat
    show H[a]? = some (vp_cell c (n, .inl f2))
    rw [hat, vp_cell_i, vp_cell_i, st_arr (fun j hj => by rw [hf j hj])]
  · have hat : H[a]? = some (vp_cell c (n, .inr (.inr (.inr (.inr f))))) := hat
    show H[a]? = some (vp_cell c (n, .inr (.inr (.inr (.inr f2)))))
    rw [hat, vp_cell_q, vp_cell_q, st_arr (fun j hj => by rw [hf j hj])]
theorem gL9_mem {z : GZ} {g : Nat} : g ∈ gL9 z ↔ g < gn ∨ ∃ t, t ∈ gtz z ∧ 236 + t = g := by
  unfold gL9
  rw [List.mem_append, List.mem_range, List.mem_map]
theorem gL9_m {z : GZ} {g : Nat} (h : g ∈ gL9 z) (ht : ∀ t, t ∈ gtz z → t < 4) : g < 240 := by
  rcases gL9_mem.mp h with h | ⟨t, h1, rfl⟩
  · unfold gn at h; omega
  · have := ht t h1; omega
theorem gP_ids {z : GZ} {M : GM} {H : Heap} : va_P (gD z) vwCl (gW z M) H ↔ ∀ g, g ∈ gL9 z → va_at (gD z) vwCl (gad z g, gE z M g) H := by
  constructor
  · intro h g hg
    obtain ⟨i, hi⟩ := List.getElem?_of_mem hg
    exact h i _ (by unfold gW; rw [List.getElem?_map, hi]; rfl)
  · intro h k q hk
    unfold gW at hk
    rw [List.getElem?_map] at hk
    cases h2 : (gL9 z)[k]? with
    | none => rw [h2] at hk; cases hk
    | some g => rw [h2] at hk; cases hk; exact h g (List.mem_of_getElem? h2)
/-- the addresses are apart -/
def DI (z : GZ) : Prop := (gL9 z).Nodup ∧ (∀ g, g ∈ gL9 z → ∀ g9, g9 ∈ gL9 z → gad z g = gad z g9 → g = g9) ∧ ∀ g, g ∈ gL9 z → gB z ≤ gad z g
theorem DI.D {z : GZ} (h : DI z) : ∀ M, va_D (fun q => gB z ≤ q) (gW z M) := by
  intro M
  refine ⟨fun i j p q hi hj he => ?_, fun k q hk => ?_⟩
  · unfold gW at hi hj
    rw [List.getElem?_map] at hi hj
    cases h1 : (gL9 z)[i]? with
    | none => rw [h1] at hi; cases hi
    | some g =>
      cases h2 : (gL9 z)[j]? with
      | none => rw [h2] at hj; cases hj
      | some g9 =>
        rw [h1] at hi; rw [h2] at hj
        cases hi; cases hj
        have e : g = g9 := h.2.1 g (List.mem_of_getElem? h1) g9 (List.mem_of_getElem? h2) he
        subst e
        exact (List.getElem?_inj (List.getElem?_eq_some_iff.mp h1).1 h.1).mp (h1.trans h2.symm)
  · unfold gW at hk
    rw [List.getElem?_map] at hk
    cases h1 : (gL9 z)[k]? with
    | none => rw [h1] at hk; cases hk
    | some g => rw [h1] at hk; cases hk; exact h.2.2 g (List.mem_of_getElem? h1)
theorem DI.of {z : GZ} (hn : (gL9 z).Nodup) (hD : ∀ M, va_D (fun q => gB z ≤ q) (gW z M)) : DI z := by
  have hD := hD (fun _ _ => 0, fun _ _ => 0, fun _ _ => 0)
  have at_ : ∀ g i, (gL9 z)[i]? = some g → (gW z (fun _ _ => 0, fun _ _ => 0, fun _ _ => 0))[i]? = some (gad z g, gE z (fun _ _ => 0, fun _ _ => 0, fun _ _ => 0) g) := fun g i h => by unfold gW; rw [List.getElem?_map, h]; rfl
  refine ⟨hn, fun g hg g9 hg9 he => ?_, fun g hg => ?_⟩
  · obtain ⟨i, hi⟩ := List.getElem?_of_mem hg
    obtain ⟨j, hj⟩ := List.getElem?_of_mem hg9
    have e := hD.1 i j _ _ (at_ g i hi) (at_ g9 j hj) he
    subst e
    exact Option.some.inj (hi.symm.trans hj)
  · obtain ⟨i, hi⟩ := List.getElem?_of_mem hg
    exact hD.2 i _ (at_ g i hi)
/-- which rows have been made and are in no place yet -/
def TZ (z : GZ) (τ : List Nat) : Prop := gtz z = τ ∧ (gL9 z).Nodup ∧ ∀ t, t ∈ τ → t < 4
theorem TZ.nil {z : GZ} (h : gtz z = []) : TZ z [] := ⟨h, by unfold gL9; rw [h, List.map_nil, List.append_nil]; exact List.nodup_range, fun t h => absurd h List.not_mem_nil⟩
theorem TZ.mem {z : GZ} {τ : List Nat} (h : TZ z τ) {t : Nat} (ht : t ∈ τ) : 236 + t ∈ gL9 z := gL9_mem.mpr (Or.inr ⟨t, by rw [h.1]; exact ht, rfl⟩)
theorem TZ.lt {z : GZ} {τ : List Nat} (h : TZ z τ) {g : Nat} (hg : g ∈ gL9 z) : g < 240 := gL9_m hg (fun t ht => h.2.2 t (by rw [← h.1]; exact ht))
theorem GC.DI {x : GX} {cc : ByteArray} {nL d : Nat} {own : String} (X : GC x cc nL own d) {τ : List Nat} (h : TZ (xz x) τ) : DI (xz x) := DI.of h.2.1 X.hD
theorem gB_0 {g : Nat} (hg : g < 240) (h : gT g = 0) : 18 ≤ g ∧ g < 44 := (by decide +kernel : ∀ g, g < 240 → gT g = 0 → 18 ≤ g ∧ g < 44) g hg h
theorem gB_1 {g : Nat} (hg : g < 240) (h : gT g = 1) : 4 ≤ g ∧ g < 5 := (by decide +kernel : ∀ g, g < 240 → gT g = 1 → 4 ≤ g ∧ g < 5) g hg h
theorem gB_2 {g : Nat} (hg : g < 240) (h : gT g = 2) : 39 ≤ g ∧ g < 40 := (by decide +kernel : ∀ g, g < 240 → gT g = 2 → 39 ≤ g ∧ g < 40) g hg h
theorem gB_3 {g : Nat} (hg : g < 240) (h : gT g = 3) : 44 ≤ g ∧ g < 84 := (by decide +kernel : ∀ g, g < 240 → gT g = 3 → 44 ≤ g ∧ g < 84) g hg h
theorem gB_4 {g : Nat} (hg : g < 240) (h : gT g = 4) : 84 ≤ g ∧ g < 114 := (by decide +kernel : ∀ g, g < 240 → gT g = 4 → 84 ≤ g ∧ g < 114) g hg h
theorem gB_5 {g : Nat} (hg : g < 240) (h : gT g = 5) : 114 ≤ g ∧ g < 121 := (by decide +kernel : ∀ g, g < 240 → gT g = 5 → 114 ≤ g ∧ g < 121) g hg h
theorem gB_6 {g : Nat} (hg : g < 240) (h : gT g = 6) : 17 ≤ g ∧ g < 23 := (by decide +kernel : ∀ g, g < 240 → gT g = 6 → 17 ≤ g ∧ g < 23) g hg h
theorem gB_7 {g : Nat} (hg : g < 240) (h : gT g = 7) : 27 ≤ g ∧ g < 36 := (by decide +kernel : ∀ g, g < 240 → gT g = 7 → 27 ≤ g ∧ g < 36) g hg h
theorem gB_8 {g : Nat} (hg : g < 240) (h : gT g = 8) : 6 ≤ g ∧ g < 7 := (by decide +kernel : ∀ g, g < 240 → gT g = 8 → 6 ≤ g ∧ g < 7) g hg h
theorem gB_9 {g : Nat} (hg : g < 240) (h : gT g = 9) : 8 ≤ g ∧ g < 27 := (by decide +kernel : ∀ g, g < 240 → gT g = 9 → 8 ≤ g ∧ g < 27) g hg h
theorem gB_10 {g : Nat} (hg : g < 240) (h : gT g = 10) : 0 ≤ g ∧ g < 1 := (by decide +kernel : ∀ g, g < 240 → gT g = 10 → 0 ≤ g ∧ g < 1) g hg h
theorem gB_11 {g : Nat} (hg : g < 240) (h : gT g = 11) : 122 ≤ g ∧ g < 123 := (by decide +kernel : ∀ g, g < 240 → gT g = 11 → 122 ≤ g ∧ g < 123) g hg h
theorem gB_20 {g : Nat} (hg : g < 240) (h : gT g = 20) : 5 ≤ g ∧ g < 236 := (by decide +kernel : ∀ g, g < 240 → gT g = 20 → 5 ≤ g ∧ g < 236) g hg h
theorem gB_22 {g : Nat} (hg : g < 240) (h : gT g = 22) : 128 ≤ g ∧ g < 233 := (by decide +kernel : ∀ g, g < 240 → gT g = 22 → 128 ≤ g ∧ g < 233) g hg h
theorem gB_23 {g : Nat} (hg : g < 240) (h : gT g = 23) : 1 ≤ g ∧ g < 2 := (by decide +kernel : ∀ g, g < 240 → gT g = 23 → 1 ≤ g ∧ g < 2) g hg h
theorem gB_24 {g : Nat} (hg : g < 240) (h : gT g = 24) : 2 ≤ g ∧ g < 3 := (by decide +kernel : ∀ g, g < 240 → gT g = 24 → 2 ≤ g ∧ g < 3) g hg h
theorem gB_25 {g : Nat} (hg : g < 240) (h : gT g = 25) : 3 ≤ g ∧ g < 4 := (by decide +kernel : ∀ g, g < 240 → gT g = 25 → 3 ≤ g ∧ g < 4) g hg h
theorem gB_26 {g : Nat} (hg : g < 240) (h : gT g = 26) : 7 ≤ g ∧ g < 12 := (by decide +kernel : ∀ g, g < 240 → gT g = 26 → 7 ≤ g ∧ g < 12) g hg h
theorem gB_27 {g : Nat} (hg : g < 240) (h : gT g = 27) : 16 ≤ g ∧ g < 17 := (by decide +kernel : ∀ g, g < 240 → gT g = 27 → 16 ≤ g ∧ g < 17) g hg h
theorem gB_28 {g : Nat} (hg : g < 240) (h : gT g = 28) : 123 ≤ g ∧ g < 128 := (by decide +kernel : ∀ g, g < 240 → gT g = 28 → 123 ≤ g ∧ g < 128) g hg h
theorem gB_29 {g : Nat} (hg : g < 240) (h : gT g = 29) : 125 ≤ g ∧ g < 126 := (by decide +kernel : ∀ g, g < 240 → gT g = 29 → 125 ≤ g ∧ g < 126) g hg h
theorem gB_30 {g : Nat} (hg : g < 240) (h : gT g = 30) : 236 ≤ g ∧ g < 240 := (by decide +kernel : ∀ g, g < 240 → gT g = 30 → 236 ≤ g ∧ g < 240) g hg h
theorem gB_31 {g : Nat} (hg : g < 240) (h : gT g = 31) : 238 ≤ g ∧ g < 239 := (by decide +kernel : ∀ g, g < 240 → gT g = 31 → 238 ≤ g ∧ g < 239) g hg h
theorem gRb_23 {g j : Nat} (hg : g < 240) (h : gT g = 23) (hj : j < gN g) : gR g j < 122 := (by decide +kernel : ∀ g, g < 240 → gT g = 23 → ∀ j, j < gN g → gR g j < 122) g hg h j hj
theorem gRb_24 {g j : Nat} (hg : g < 240) (h : gT g = 24) (hj : j < gN g) : gR g j < 122 := (by decide +kernel : ∀ g, g < 240 → gT g = 24 → ∀ j, j < gN g → gR g j < 122) g hg h j hj
theorem gRb_25 {g j : Nat} (hg : g < 240) (h : gT g = 25) (hj : j < gN g) : gR g j < 122 := (by decide +kernel : ∀ g, g < 240 → gT g = 25 → ∀ j, j < gN g → gR g j < 122) g hg h j hj
theorem gRb_26 {g j : Nat} (hg : g < 240) (h : gT g = 26) (hj : j < gN g) : gR g j < 122 := (by decide +kernel : ∀ g, g < 240 → gT g = 26 → ∀ j, j < gN g → gR g j < 122) g hg h j hj
theorem gRb_27 {g j : Nat} (hg : g < 240) (h : gT g = 27) (hj : j < gN g) : gR g j < 122 := (by decide +kernel : ∀ g, g < 240 → gT g = 27 → ∀ j, j < gN g → gR g j < 122) g hg h j hj
theorem gTs {g : Nat} (hg : g < 240) : gT g = 0 ∨ gT g = 1 ∨ gT g = 2 ∨ gT g = 3 ∨ gT g = 4 ∨ gT g = 5 ∨ gT g = 6 ∨ gT g = 7 ∨ gT g = 8 ∨ gT g = 9 ∨ gT g = 10 ∨ gT g = 11 ∨ gT g = 20 ∨ gT g = 22 ∨ gT g = 23 ∨ gT g = 24 ∨ gT g = 25 ∨ gT g = 26 ∨ gT g = 27 ∨ gT g = 28 ∨ gT g = 29 ∨ gT g = 30 ∨ gT g = 31 := (by decide +kernel : ∀ g, g < 240 → gT g = 0 ∨ gT g = 1 ∨ gT g = 2 ∨ gT g = 3 ∨ gT g = 4 ∨ gT g = 5 ∨ gT g = 6 ∨ gT g = 7 ∨ gT g = 8 ∨ gT g = 9 ∨ gT g = 10 ∨ gT g = 11 ∨ gT g = 20 ∨ gT g = 22 ∨ gT g = 23 ∨ gT g = 24 ∨ gT g = 25 ∨ gT g = 26 ∨ gT g = 27 ∨ gT g = 28 ∨ gT g = 29 ∨ gT g = 30 ∨ gT g = 31) g hg
theorem gE_re {z z' : GZ} {M M' : GM} {g : Nat} (hg : g < 240) (hO : gOK M) (h1 : gcy z' = gcy z) (hs : gsa z' = gsa z) (ha : ∀ g9, g9 < 133 → gad z' g9 = gad z g9) (hr : (gT g = 28 ∨ gT g = 29) → ∀ j, j < gN g → gad z' (gR g j) = gad z (gR g j)) (hI : ∀ k, gI M' g k = gI M g k) (hL : ∀ k, gL M' g k = gL M g k) (hP : ∀ k, gP M' g k = gP M g k) : CE (gE z M g) (gE z' M' g) := by
  have hp : ∀ k, gP M g k < 133 := fun k => by
    have h9 := hO g k
    have h8 : gP M g k < 240 := gT_lm (by rw [h9]; decide)
    have := gB_9 h8 h9
    omega
  rcases gTs hg with h | h | h | h | h | h | h | h | h | h | h | h | h | h | h | h | h | h | h | h | h | h | h
  · have hb := gB_0 hg h
    rw [gE_0 h, gE_0 h]
    exact Or.inl (by simp only [hI, hL, hP, hs])
  · have hb := gB_1 hg h
    rw [gE_1 h, gE_1 h]
    exact Or.inl (by simp only [hI, hL, hP, hs, ha (g + 1) (by omega)])
  · have hb := gB_2 hg h
    rw [gE_2 h, gE_2 h]
    exact Or.inl (by simp only [hI, hL, hP, hs, ha (g + 1) (by omega)])
  · have hb := gB_3 hg h
    rw [gE_3 h, gE_3 h]
    exact Or.inl (by simp only [hI, hL, hP, hs])
  · have hb := gB_4 hg h
    rw [gE_4 h, gE_4 h]
    exact Or.inl (by simp only [hI, hL, hP, hs])
  · have hb := gB_5 hg h
    rw [gE_5 h, gE_5 h]
    exact Or.inl (by simp only [hI, hL, hP, hs, ha (g + 1) (by omega)])
  · have hb := gB_6 hg h
    rw [gE_6 h, gE_6 h]
    exact Or.inl (by simp only [hI, hL, hP, hs, ha (g + 1) (by omega), ha _ (hp _)])
  · have hb := gB_7 hg h
    rw [gE_7 h, gE_7 h]
    exact Or.inl (by simp only [hI, hL, hP, hs, ha (g + 1) (by omega), ha (g + 2) (by omega), ha (g + 3) (by omega)])
  · have hb := gB_8 hg h
    rw [gE_8 h, gE_8 h]
    exact Or.inl (by simp only [hI, hL, hP, hs, ha (g + 1) (by omega), ha (g + 5) (by omega), ha (g + 10) (by omega)])
  · have hb := gB_9 hg h
    rw [gE_9 h, gE_9 h]
    exact Or.inl (by simp only [hI, hL, hP, hs])
  · have hb := gB_10 hg h
    rw [gE_10 h, gE_10 h]
    exact Or.inl (by simp only [hI, hL, hP, hs, ha 1 (by decide), ha 2 (by decide), ha 3 (by decide), ha 4 (by decide), ha 6 (by decide), ha 27 (by decide), ha 31 (by decide), ha 35 (by decide), ha 39 (by decide), ha 41 (by decide), ha 42 (by decide), ha 43 (by decide)])
  · have hb := gB_11 hg h
    rw [gE_11 h, gE_11 h]
    exact Or.inl (by simp only [hI, hL, hP, hs, ha 0 (by decide), ha 123 (by decide), ha 124 (by decide), ha 125 (by decide), ha 126 (by decide), ha 127 (by decide), ha 128 (by decide)])
  · rw [gE_20 h, gE_20 h, h1]
    exact Or.inl (by simp only [hI, hL])
  · rw [gE_22 h, gE_22 h, h1]
    exact Or.inl (by simp only [hI, hL])
  · rw [gE_23 h, gE_23 h, h1]
    exact Or.inr (Or.inr ⟨_, _, _, _, rfl, rfl, fun j hj => by rw [ha _ (Nat.lt_of_lt_of_le (gRb_23 hg h hj) (by decide))]⟩)
  · rw [gE_24 h, gE_24 h, h1]
    exact Or.inr (Or.inr ⟨_, _, _, _, rfl, rfl, fun j hj => by rw [ha _ (Nat.lt_of_lt_of_le (gRb_24 hg h hj) (by decide))]⟩)
  · rw [gE_25 h, gE_25 h, h1]
    exact Or.inr (Or.inr ⟨_, _, _, _, rfl, rfl, fun j hj => by rw [ha _ (Nat.lt_of_lt_of_le (gRb_25 hg h hj) (by decide))]⟩)
  · rw [gE_26 h, gE_26 h, h1]
    exact Or.inr (Or.inr ⟨_, _, _, _, rfl, rfl, fun j hj => by rw [ha _ (Nat.lt_of_lt_of_le (gRb_26 hg h hj) (by decide))]⟩)
  · rw [gE_27 h, gE_27 h, h1]
    exact Or.inr (Or.inr ⟨_, _, _, _, rfl, rfl, fun j hj => by rw [ha _ (Nat.lt_of_lt_of_le (gRb_27 hg h hj) (by decide))]⟩)
  · rw [gE_28 h, gE_28 h, h1]
    exact Or.inr (Or.inr ⟨_, _, _, _, rfl, rfl, fun j hj => by rw [hr (Or.inl h) j hj]⟩)
  · rw [gE_29 h, gE_29 h, h1]
    exact Or.inr (Or.inr ⟨_, _, _, _, rfl, rfl, fun j hj => by rw [hr (Or.inr h) j hj]⟩)
  · rw [gE_30 h, gE_30 h, h1]
    exact Or.inl (by simp only [hI, hL])
  · rw [gE_31 h, gE_31 h, h1]
    exact Or.inl (by simp only [hI, hL])
theorem gR_lt {g j : Nat} (hg : g < 240) (h : gT g = 28 ∨ gT g = 29) (hj : j < gN g) : gR g j < 236 := (by decide +kernel : ∀ g, g < 240 → gT g = 28 ∨ gT g = 29 → ∀ j, j < gN g → gR g j < 236) g hg h j hj
theorem gR_inj {o o2 j j2 : Nat} (h1 : 123 ≤ o) (h2 : o < 133) (h3 : 123 ≤ o2) (h4 : o2 < 133) (h5 : gT o = 28 ∨ gT o = 29) (h6 : gT o2 = 28 ∨ gT o2 = 29) (hj : j < gN o) (hj2 : j2 < gN o2) (h : gR o j = gR o2 j2) : o = o2 ∧ j = j2 := by
  have c : ∀ o, o < 133 → 123 ≤ o → (gT o = 28 ∨ gT o = 29) → o = 123 ∨ o = 124 ∨ o = 125 ∨ o = 126 ∨ o = 127 := by decide +kernel
  have e3 : ∀ j, gR 123 j = 133 + j := fun _ => rfl
  have e4 : ∀ j, gR 124 j = 173 + j := fun _ => rfl
  have e5 : ∀ j, gR 125 j = 203 + j := fun _ => rfl
  have e6 : ∀ j, gR 126 j = 233 + j := fun _ => rfl
  have e7 : ∀ j, gR 127 j = 129 + j := fun _ => rfl
  have n3 : gN 123 = 40 := by decide +kernel
  have n4 : gN 124 = 30 := by decide +kernel
  have n5 : gN 125 = 30 := by decide +kernel
  have n6 : gN 126 = 3 := by decide +kernel
  have n7 : gN 127 = 4 := by decide +kernel
  rcases c o h2 h1 h5 with rfl | rfl | rfl | rfl | rfl <;> rcases c o2 h4 h3 h6 with rfl | rfl | rfl | rfl | rfl <;> (try rw [n3] at hj hj2) <;> (try rw [n4] at hj hj2) <;> (try rw [n5] at hj hj2) <;> (try rw [n6] at hj hj2) <;> (try rw [n7] at hj hj2) <;> (try rw [n3] at hj) <;> (try rw [n4] at hj) <;> (try rw [n5] at hj) <;> (try rw [n6] at hj) <;> (try rw [n7] at hj) <;> (try rw [n3] at hj2) <;> (try rw [n4] at hj2) <;> (try rw [n5] at hj2) <;> (try rw [n6] at hj2) <;> (try rw [n7] at hj2) <;> simp only [e3, e4, e5, e6, e7] at h <;> omega
/-- the context of x, with other counts and another world -/
abbrev xZ (x : GX) (c s : Nat) (z : GZ) : GX := (xp x, xl x, xe x, xR x, xs x, xm x, xargs x, xbelow x, xmeth x, xc x, xQ x, c, s, z)
def ZR (z z' : GZ) : Prop := gD z' = gD z ∧ gcy z' = gcy z ∧ gB z' = gB z ∧ gsa z' = gsa z ∧ gsl z' = gsl z ∧ gsx z' = gsx z ∧ ∀ g, g < 133 → gad z' g = gad z g
theorem ZR.rf (z : GZ) : ZR z z := ⟨rfl, rfl, rfl, rfl, rfl, rfl, fun _ _ => rfl⟩
theorem ZR.tr {z z1 z2 : GZ} (h : ZR z z1) (k : ZR z1 z2) : ZR z z2 := ⟨k.1.trans h.1, k.2.1.trans h.2.1, k.2.2.1.trans h.2.2.1, k.2.2.2.1.trans h.2.2.2.1, k.2.2.2.2.1.trans h.2.2.2.2.1, k.2.2.2.2.2.1.trans h.2.2.2.2.2.1, fun g hg => (k.2.2.2.2.2.2 g hg).trans (h.2.2.2.2.2.2 g hg)⟩
def XR (x x' : GX) : Prop := ∃ (c s : Nat) (z' : GZ), x' = xZ x c s z' ∧ ZR (xz x) z'
theorem XR.rf (x : GX) : XR x x := ⟨xcells x, xslots x, xz x, rfl, ZR.rf _⟩
theorem XR.tr {x x1 x2 : GX} (h : XR x x1) (k : XR x1 x2) : XR x x2 := by
  obtain ⟨c, s, z, rfl, h⟩ := h
  obtain ⟨c2, s2, z2, rfl, k⟩ := k
  exact ⟨c2, s2, z2, rfl, h.tr k⟩
theorem XR.ad {x x' : GX} (h : XR x x') {g : Nat} (hg : g < 133) : gad (xz x) g = gad (xz x') g := by
  obtain ⟨c, s, z, rfl, h⟩ := h
  exact (h.2.2.2.2.2.2 g hg).symm
theorem XR.sa {x x' : GX} (h : XR x x') : gsa (xz x) = gsa (xz x') := by
  obtain ⟨c, s, z, rfl, h⟩ := h
  exact h.2.2.2.1.symm
theorem XR.sc {x x' : GX} (h : XR x x') {L9 : Nat} {f : Nat → Int32} (k : gsl (xz x) = L9 ∧ gsx (xz x) = f) : gsl (xz x') = L9 ∧ gsx (xz x') = f := by
  obtain ⟨c, s, z, rfl, h⟩ := h
  exact ⟨h.2.2.2.2.1.trans k.1, h.2.2.2.2.2.1.trans k.2⟩
theorem XR.l {x x' : GX} (h : XR x x') : xl x' = xl x := by
  obtain ⟨c, s, z, rfl, h⟩ := h
  rfl
/-- room for k rows more -/
def XB (x : GX) (k : Nat) : Prop := xcells x + k ≤ (xR x).cells ∧ xslots x + 6 * k ≤ (xR x).slots
theorem XB.le {x : GX} {j k : Nat} (h : XB x k) (hj : j ≤ k) : XB x j := ⟨Nat.le_trans (Nat.add_le_add_left hj _) h.1, Nat.le_trans (Nat.add_le_add_left (Nat.mul_le_mul_left 6 hj) _) h.2⟩
theorem gKK.re {z z' : GZ} (h : ZR z z') (hD : ∀ M, va_D (fun q => gB z' ≤ q) (gW z' M)) {U : State} (hk : gKK z U) : gKK z' U := by
  obtain ⟨D, cy, ad, B, tz, sa, sl, sx⟩ := z'
  obtain ⟨e1, e2, e3, e4, e5, e6, -⟩ := h
  change D = gD z at e1
  change cy = gcy z at e2
  change B = gB z at e3
  change sa = gsa z at e4
  change sl = gsl z at e5
  change sx = gsx z at e6
  subst e1 e2 e3 e4 e5 e6
  obtain ⟨k1, k2, k3, k4, k5, k6, k7⟩ := hk
  exact ⟨k1, k2, k3, k4, k5, ⟨hD, k6.2⟩, k7⟩
theorem GC.re {x : GX} {cc : ByteArray} {nL d : Nat} {own : String} (X : GC x cc nL own d) {c s : Nat} {z' : GZ} (hc : c ≤ (xR x).cells) (hs : s ≤ (xR x).slots) (hz : ZR (xz x) z') (hD : ∀ M, va_D (fun q => gB z' ≤ q) (gW z' M)) : GC (xZ x c s z') cc nL own d :=
  ⟨X.1, X.2.1, X.2.2.1, X.2.2.2.1, X.2.2.2.2.1, X.2.2.2.2.2.1, gKK.re hz hD X.2.2.2.2.2.2.1, X.2.2.2.2.2.2.2.1, X.2.2.2.2.2.2.2.2.1, hc, hs, X.2.2.2.2.2.2.2.2.2.2.2⟩
section AR
variable {x : GX} {cc : ByteArray} {nL d pc : Nat} {own : String} {M : GM} {lv : List (Nat × Value)} {st : List Value}
theorem gW_put {z : GZ} {M M' : GM} {H H1 : Heap} {g : Nat} (hD : DI z) (hg : g ∈ gL9 z) (hP : va_P (gD z) vwCl (gW z M) H) (he : va_at (gD z) vwCl (gad z g, gE z M' g) H1) (oq : ∀ q : Nat, q ≠ gad z g → H1[q]? = H[q]?) (ho : ∀ g9, g9 ≠ g → gE z M' g9 = gE z M g9) : va_P (gD z) vwCl (gW z M') H1 := gP_ids.mpr fun g9 h9 => by
  by_cases e : g9 = g
  · subst e; exact he
  · rw [ho g9 e]; exact (gP_ids.mp hP g9 h9).kept (oq _ (fun h => e (hD.2.1 g9 h9 g hg h)))
theorem t_iald (X : GC x cc nL own d) {g : Nat} {i : Int32} (hg : g ∈ gL9 (xz x)) (ht : gT g = 30) (hi : gIn i (gN g) = true) (dec : decode cc pc = .ok (.iaload, 1)) (go : WG x M lv (pc + 1) (.int (gI M g i.toNatClampNeg) :: st)) : WG x M lv pc (.int i :: .ref (gad (xz x) g) :: st) := by
  intro H locs ls hP hO hS hl
  have hat : H[gad (xz x) g]? = some (vp_cell (gcy (xz x) 20) (gN g, .inl (fun j => gI M g j))) := by
    have h := gP_ids.mp hP g hg
    rw [gE_30 ht] at h
    exact h
  exact W.iald (v := .int (gI M g i.toNatClampNeg)) X.1 X.2.1 hat ((X.hK.2 0 _ rfl).1 (gN g) (fun j => .int (gI M g j))) (fun q => by cases q) (by show ¬ (i < 0 ∨ (arrV _ _ _).slots.size ≤ _); rw [arrV_size]; exact gIn_in hi) (by show (arrV _ _ _).slots[_]? = _; rw [arrV_read _ _ (gIn_lt hi)]) rfl rfl dec (go H locs ls hP hO hS hl)
theorem t_iast (X : GC x cc nL own d) {τ : List Nat} (hz : TZ (xz x) τ) {g : Nat} {i v : Int32} (hg : g ∈ gL9 (xz x)) (ht : gT g = 30) (hi : gIn i (gN g) = true) (dec : decode cc pc = .ok (.iastore, 1)) (go : WG x (sI M g i.toNatClampNeg v) lv (pc + 1) st) : WG x M lv pc (.int v :: .int i :: .ref (gad (xz x) g) :: st) := by
  intro H locs ls hP hO hS hl
  have hat : H[gad (xz x) g]? = some (vp_cell (gcy (xz x) 20) (gN g, .inl (fun j => gI M g j))) := by
    have h := gP_ids.mp hP g hg
    rw [gE_30 ht] at h
    exact h
  refine W.iast X.1 X.2.1 hat ((X.hK.2 0 _ rfl).1 (gN g) (fun j => .int (gI M g j))) (fun q => by cases q) (by show ¬ (i < 0 ∨ (arrV _ _ _).slots.size ≤ _); rw [arrV_size]; exact gIn_in hi) rfl rfl dec fun H1 e z oq => ?_
  refine go H1 _ ls (gW_put (X.DI hz) hg hP ?_ oq gE_sI) hO (hS.put z oq ((X.DI hz).2.2 g hg)) hl
  rw [gE_30 ht]
  show H1[gad (xz x) g]? = some (vp_cell _ _)
  rw [e, vp_cell_i, vp_cell_i, arrV_store]
  congr 2
  funext q
  by_cases hq : q = i.toNatClampNeg <;> simp [hq, updV, gI, sI, u2]
theorem g_newUi (X : GC x cc nL own d) {τ : List Nat} (hz : TZ (xz x) τ) {t N : Nat} {n : Int32} (ht : t ∉ τ) (ht4 : t < 4) (hN : gN (236 + t) = N) (hT : gT (236 + t) = 30) (hn : ¬ n < 0) (hnN : n.toNatClampNeg = N) (hN6 : N ≤ 6) {k : Nat} (B : XB x (k + 1)) (harr : Cond.arrayClass .int ∈ GW) (dec : decode cc pc = .ok (.newarray .int, 2)) (go : ∀ x' : GX, XR x x' → GC x' cc nL own d → XB x' k → TZ (xz x') (τ ++ [t]) → (∀ g, g ≠ 236 + t → gad (xz x) g = gad (xz x') g) → WG x' (sC M (236 + t) 0 N (fun _ => 0)) lv (pc + 2) (.ref (gad (xz x') (236 + t)) :: st)) : WG x M lv pc (.int n :: st) := by
  intro H locs ls hP hO hS hl
  have hB1 := B.1
  have hB2 := B.2
  refine va_newaK (atype := .int) X.1 X.2.1 (X.hw harr) (g := F0 (xm x) pc ls (.int n :: st)) rfl dec rfl hn hnN (by show N * 4 ≤ _; omega) (by omega) (by omega) rfl fun H1 cA e1 z1 o1 hAr hNm => ?_
  have ec : gcy (xz x) 20 = cA := Option.some.inj (((X.hK.2 0 _ rfl).2).symm.trans hNm)
  have hD := X.DI hz
  have hlt : ∀ g, g ∈ gL9 (xz x) → gad (xz x) g < H.size := fun g hg => (gP_ids.mp hP g hg).lt
  have hne : ∀ g, g ∈ gL9 (xz x) → g ≠ 236 + t := fun g hg h => by
    rcases gL9_mem.mp hg with q | ⟨t9, q1, q2⟩
    · unfold gn at q; omega
    · rw [hz.1] at q1
      have : t9 = t := by omega
      subst this
      exact ht q1
  have h0 : (0 : Nat) ∈ gL9 (xz x) := gL9_mem.mpr (Or.inl (by decide))
  obtain ⟨z', hz'⟩ : ∃ z' : GZ, z' = (gD (xz x), gcy (xz x), (fun g => if g = 236 + t then H.size else gad (xz x) g), gB (xz x), gtz (xz x) ++ [t], gsa (xz x), gsl (xz x), gsx (xz x)) := ⟨_, rfl⟩
  have a1 : ∀ g, g ≠ 236 + t → gad (xz x) g = gad z' g := fun g hg => by rw [hz']; exact (if_neg hg).symm
  have a2 : gad z' (236 + t) = H.size := by rw [hz']; exact if_pos rfl
  have l9 : gL9 z' = gL9 (xz x) ++ [236 + t] := by
    rw [hz']
    show List.range gn ++ (gtz (xz x) ++ [t]).map _ = (List.range gn ++ (gtz (xz x)).map _) ++ _
    rw [List.map_append, List.append_assoc]
    rfl
  have m9 : ∀ g, g ∈ gL9 z' → g ∈ gL9 (xz x) ∨ g = 236 + t := fun g hg => by
    rw [l9] at hg
    rcases List.mem_append.mp hg with h | h
    · exact Or.inl h
    · exact Or.inr (List.mem_singleton.mp h)
  have hB : gB z' = gB (xz x) := by rw [hz']
  have nd : (gL9 z').Nodup := by
    rw [l9]
    exact List.nodup_append.mpr ⟨hD.1, by simp, fun a ha b hb => by rw [List.mem_singleton] at hb; subst hb; exact hne a ha⟩
  have hD' : DI z' := ⟨nd, fun g hg g9 hg9 he => by
    rcases m9 g hg with h | h <;> rcases m9 g9 hg9 with h9 | h9
    · rw [← a1 g (hne g h), ← a1 g9 (hne g9 h9)] at he
      exact hD.2.1 g h g9 h9 he
    · rw [h9, ← a1 g (hne g h), a2] at he
      have := hlt g h
      omega
    · rw [h, ← a1 g9 (hne g9 h9), a2] at he
      have := hlt g9 h9
      omega
    · rw [h, h9], fun g hg => by
    rw [hB]
    rcases m9 g hg with h | h
    · rw [← a1 g (hne g h)]; exact hD.2.2 g h
    · rw [h, a2]
      exact Nat.le_trans (hD.2.2 0 h0) (Nat.le_of_lt (hlt 0 h0))⟩
  have zr : ZR (xz x) z' := by
    rw [hz']
    refine ⟨rfl, rfl, rfl, rfl, rfl, rfl, fun g hg => if_neg (by omega)⟩
  have hcy : gcy z' = gcy (xz x) := zr.2.1
  have hDD : gD z' = gD (xz x) := zr.1
  have tz : TZ z' (τ ++ [t]) := ⟨by rw [hz', ← hz.1], nd, fun t9 h => by
    rcases List.mem_append.mp h with h | h
    · exact hz.2.2 t9 h
    · rw [List.mem_singleton] at h; omega⟩
  rw [← a2]
  refine go (xZ x (xcells x + 1) (xslots x + N) z') ⟨_, _, _, rfl, zr⟩ (X.re (by omega) (by omega) zr hD'.D) ⟨by show xcells x + 1 + k ≤ (xR x).cells; omega, by show xslots x + N + 6 * k ≤ (xR x).slots; omega⟩ tz a1 H1 locs ls ?_ hO ?_ hl
  · show va_P (gD z') vwCl (gW z' (sC M (236 + t) 0 N (fun _ => 0))) H1
    refine gP_ids.mpr fun g hg => ?_
    rw [hDD]
    rcases m9 g hg with h | h
    · rw [← a1 g (hne g h)]
      exact ce_at (gE_re (hz.lt h) hO hcy zr.2.2.2.1 (fun g9 h9 => zr.2.2.2.2.2.2 g9 h9) (fun ht2 j hj => by
        have hb : gR g j < 236 := gR_lt (hz.lt h) ht2 hj
        exact (a1 _ (by omega)).symm) (fun k => by
        have := hne g h
        simp [gI, sC, this]) (fun _ => rfl) (fun _ => rfl)) ((gP_ids.mp hP g h).kept (o1 _ (hlt g h)))
    · rw [h, a2, gE_30 hT, hcy, hN]
      show H1[H.size]? = some (vp_cell _ _)
      rw [e1, ec, vp_cell_i]
      refine congrArg some (st_arr fun j hj => ?_)
      simp [gI, sC, hj]
      rfl
  · show va_S (fun q => gB z' ≤ q) (xs x).heap H1 locs
    rw [hB]
    exact ⟨Nat.le_trans hS.1 (by omega), fun q h1 h2 => (o1 q (Nat.lt_of_lt_of_le h1 hS.1)).trans (hS.2.1 q h1 h2), hS.2.2⟩
theorem g_aastUi (X : GC x cc nL own d) {t : Nat} {τ : List Nat} (hz : TZ (xz x) (t :: τ)) {o : Nat} {i : Int32} (ho : gT o = 28) (hi : gIn i (gN o) = true) (hT : gT (236 + t) = 30) (hrow : ∀ j, j < gN o → 133 ≤ gR o j ∧ gN (gR o j) = gN (236 + t)) (dec : decode cc pc = .ok (.aastore, 1)) (go : ∀ x' : GX, XR x x' → GC x' cc nL own d → (∀ k, XB x k → XB x' k) → TZ (xz x') τ → gad (xz x) (236 + t) = gad (xz x') (gR o i.toNatClampNeg) → (∀ g, g ≠ gR o i.toNatClampNeg → gad (xz x) g = gad (xz x') g) → WG x' (sC M (gR o i.toNatClampNeg) 0 (gN (236 + t)) (fun j => gI M (236 + t) j)) lv (pc + 1) st) : WG x M lv pc (.ref (gad (xz x) (236 + t)) :: .int i :: .ref (gad (xz x) o) :: st) := by
  intro H locs ls hP hO hS hl
  have hD := X.DI hz
  have hi2 := gIn_lt hi
  have ho9 : o < 240 := gT_lm (by rw [ho]; decide)
  have hob := gB_28 ho9 ho
  obtain ⟨r, hr⟩ : ∃ r, r = gR o i.toNatClampNeg := ⟨_, rfl⟩
  obtain ⟨r1, r2⟩ := hrow _ hi2
  have r3 : gT r = 20 := by rw [hr]; exact gR_28 ho hi2
  rw [← hr] at r1 r2 go
  have r4 : r < gn := gT_lt (by rw [r3]; decide)
  have r4' : r < 236 := r4
  have hom : o ∈ gL9 (xz x) := gL9_mem.mpr (Or.inl (gT_lt (by rw [ho]; decide)))
  have htm : 236 + t ∈ gL9 (xz x) := hz.mem List.mem_cons_self
  have hao : gad (xz x) (236 + t) ≠ gad (xz x) o := fun h => by
    have := hD.2.1 _ htm _ hom h
    omega
  have hat : H[gad (xz x) o]? = some (vp_cell (gcy (xz x) 28) (gN o, .inr (.inr (.inr (.inr (fun j => some (gad (xz x) (gR o j)))))))) := by
    have h := gP_ids.mp hP o hom
    rw [gE_28 ho] at h
    exact h
  have htt : H[gad (xz x) (236 + t)]? = some (vp_cell (gcy (xz x) 20) (gN (236 + t), .inl (fun j => gI M (236 + t) j))) := by
    have h := gP_ids.mp hP _ htm
    rw [gE_30 hT] at h
    exact h
  obtain ⟨kA, k1, k2⟩ := X.hRR.1
  obtain ⟨-, kC, hkC, -⟩ := (X.hK.2 0 _ rfl).1 (gN (236 + t)) (fun j => .int (gI M (236 + t) j))
  have h0 : ¬ i < 0 := fun q => gIn_in hi (Or.inl q)
  refine W.aast X.1 X.2.1 hat (fun q h => by cases h) (fun h => by cases h) k1 k2 rfl hkC ⟨h0, by show _ < (arrV _ _ _).slots.size; rw [arrV_size]; exact hi2⟩ htt (fun q h => by cases h) hkC (va_asg _ _) rfl rfl dec fun H1 e z1 oq => ?_
  obtain ⟨z', hz'⟩ : ∃ z' : GZ, z' = (gD (xz x), gcy (xz x), (fun g => if g = r then gad (xz x) (236 + t) else gad (xz x) g), gB (xz x), τ, gsa (xz x), gsl (xz x), gsx (xz x)) := ⟨_, rfl⟩
  have a1 : ∀ g, g ≠ r → gad (xz x) g = gad z' g := fun g hg => by rw [hz']; exact (if_neg hg).symm
  have a2 : gad (xz x) (236 + t) = gad z' r := by rw [hz']; exact (if_pos rfl).symm
  have l9 : gL9 z' = List.range gn ++ τ.map (fun t => 236 + t) := by rw [hz']; rfl
  have l8 : gL9 (xz x) = List.range gn ++ (236 + t) :: τ.map (fun t => 236 + t) := by unfold gL9; rw [hz.1]; rfl
  have nd8 := hD.1
  rw [l8] at nd8
  obtain ⟨n1, n2, n3⟩ := List.nodup_append.mp nd8
  obtain ⟨n4, n5⟩ := List.nodup_cons.mp n2
  have nd : (gL9 z').Nodup := by
    rw [l9]
    exact List.nodup_append.mpr ⟨n1, n5, fun a ha b hb => n3 a ha b (List.mem_cons_of_mem _ hb)⟩
  have m9 : ∀ g, g ∈ gL9 z' → g ∈ gL9 (xz x) ∧ g ≠ 236 + t := fun g hg => by
    rw [l9] at hg
    rw [l8]
    rcases List.mem_append.mp hg with h | h
    · exact ⟨List.mem_append.mpr (Or.inl h), n3 g h _ List.mem_cons_self⟩
    · exact ⟨List.mem_append.mpr (Or.inr (List.mem_cons_of_mem _ h)), fun q => n4 (q ▸ h)⟩
  have hB : gB z' = gB (xz x) := by rw [hz']
  have hD' : DI z' := ⟨nd, fun g hg g9 hg9 he => by
    obtain ⟨p1, p2⟩ := m9 g hg
    obtain ⟨q1, q2⟩ := m9 g9 hg9
    by_cases h : g = r <;> by_cases h9 : g9 = r
    · rw [h, h9]
    · rw [h, ← a2, ← a1 g9 h9] at he
      exact absurd (hD.2.1 _ htm _ q1 he).symm q2
    · rw [h9, ← a2, ← a1 g h] at he
      exact absurd (hD.2.1 _ p1 _ htm he) p2
    · rw [← a1 g h, ← a1 g9 h9] at he
      exact hD.2.1 g p1 g9 q1 he, fun g hg => by
    rw [hB]
    by_cases h : g = r
    · rw [h, ← a2]; exact hD.2.2 _ htm
    · rw [← a1 g h]; exact hD.2.2 g (m9 g hg).1⟩
  have zr : ZR (xz x) z' := by
    rw [hz']
    exact ⟨rfl, rfl, rfl, rfl, rfl, rfl, fun g hg => if_neg (by omega)⟩
  have hcy : gcy z' = gcy (xz x) := zr.2.1
  have hDD : gD z' = gD (xz x) := zr.1
  have tz : TZ z' τ := ⟨by rw [hz'], nd, fun t9 h => hz.2.2 t9 (List.mem_cons_of_mem _ h)⟩
  refine go (xZ x (xcells x) (xslots x) z') ⟨_, _, _, rfl, zr⟩ (X.re X.2.2.2.2.2.2.2.2.2.1 X.2.2.2.2.2.2.2.2.2.2.1 zr hD'.D) (fun k h => h) tz a2 a1 H1 _ ls ?_ hO ?_ hl
  · show va_P (gD z') vwCl (gW z' (sC M r 0 (gN (236 + t)) (fun j => gI M (236 + t) j))) H1
    refine gP_ids.mpr fun g hg => ?_
    rw [hDD]
    obtain ⟨p1, p2⟩ := m9 g hg
    by_cases h : g = r
    · rw [h, ← a2, gE_20 r3, hcy, r2]
      show H1[gad (xz x) (236 + t)]? = some (vp_cell _ _)
      rw [oq _ hao, htt, vp_cell_i, vp_cell_i]
      refine congrArg some (st_arr fun j hj => ?_)
      simp [gI, sC, hj]
    · by_cases h2 : g = o
      · rw [h2, ← a1 o (by omega), gE_28 ho, hcy]
        show H1[gad (xz x) o]? = some (vp_cell _ _)
        rw [e, vp_cell_q, vp_cell_q, arrV_store]
        refine congrArg some (st_arr fun j hj => ?_)
        by_cases hj2 : j = i.toNatClampNeg
        · subst hj2
          simp [updV, va_rf, ← hr, ← a2]
        · have h5 : gR o j ≠ r := fun h5 => by
            rw [hr] at h5
            exact hj2 (gR_inj (by omega) (by omega) (by omega) (by omega) (Or.inl ho) (Or.inl ho) hj hi2 h5).2
          simp [updV, hj2, va_rf, ← a1 _ h5]
      · rw [← a1 g h]
        exact ce_at (gE_re (hz.lt p1) hO hcy zr.2.2.2.1 (fun g9 h9 => zr.2.2.2.2.2.2 g9 h9) (fun ht2 j hj => by
          have h5 : gR g j ≠ r := fun h5 => by
            rw [hr] at h5
            have gb : 123 ≤ g ∧ g < 133 := by
              rcases ht2 with q | q
              · have := gB_28 (hz.lt p1) q; omega
              · have := gB_29 (hz.lt p1) q; omega
            exact h2 (gR_inj gb.1 gb.2 (by omega) (by omega) ht2 (Or.inl ho) hj hi2 h5).1
          exact (a1 _ h5).symm) (fun k => by simp [gI, sC, h]) (fun _ => rfl) (fun _ => rfl)) ((gP_ids.mp hP g p1).kept (oq _ (fun q => h2 (hD.2.1 g p1 o hom q))))
  · show va_S (fun q => gB z' ≤ q) (xs x).heap H1 _
    rw [hB]
    exact hS.put z1 oq (hD.2.2 o hom)
theorem t_zald (X : GC x cc nL own d) {g : Nat} {i : Int32} (hg : g ∈ gL9 (xz x)) (ht : gT g = 31) (hi : gIn i (gN g) = true) (dec : decode cc pc = .ok (.baload, 1)) (go : WG x M lv (pc + 1) (.int (gI M g i.toNatClampNeg) :: st)) : WG x M lv pc (.int i :: .ref (gad (xz x) g) :: st) := by
  intro H locs ls hP hO hS hl
  have hat : H[gad (xz x) g]? = some (vp_cell (gcy (xz x) 22) (gN g, .inl (fun j => gI M g j))) := by
    have h := gP_ids.mp hP g hg
    rw [gE_31 ht] at h
    exact h
  exact W.zald (v := .int (gI M g i.toNatClampNeg)) X.1 X.2.1 hat ((X.hK.2 2 _ rfl).1 (gN g) (fun j => .int (gI M g j))) (fun q => by cases q) (by show ¬ (i < 0 ∨ (arrV _ _ _).slots.size ≤ _); rw [arrV_size]; exact gIn_in hi) (by show (arrV _ _ _).slots[_]? = _; rw [arrV_read _ _ (gIn_lt hi)]) rfl rfl dec (go H locs ls hP hO hS hl)
theorem t_zast (X : GC x cc nL own d) {τ : List Nat} (hz : TZ (xz x) τ) {g : Nat} {i v : Int32} (hg : g ∈ gL9 (xz x)) (ht : gT g = 31) (hi : gIn i (gN g) = true) (hv : v = 0 ∨ v = 1) (dec : decode cc pc = .ok (.bastore, 1)) (go : WG x (sI M g i.toNatClampNeg v) lv (pc + 1) st) : WG x M lv pc (.int v :: .int i :: .ref (gad (xz x) g) :: st) := by
  intro H locs ls hP hO hS hl
  have hat : H[gad (xz x) g]? = some (vp_cell (gcy (xz x) 22) (gN g, .inl (fun j => gI M g j))) := by
    have h := gP_ids.mp hP g hg
    rw [gE_31 ht] at h
    exact h
  refine W.zast X.1 X.2.1 hat ((X.hK.2 2 _ rfl).1 (gN g) (fun j => .int (gI M g j))) (fun q => by cases q) (by show ¬ (i < 0 ∨ (arrV _ _ _).slots.size ≤ _); rw [arrV_size]; exact gIn_in hi) rfl rfl dec fun H1 e z oq => ?_
  refine go H1 _ ls (gW_put (X.DI hz) hg hP ?_ oq gE_sI) hO (hS.put z oq ((X.DI hz).2.2 g hg)) hl
  rw [gE_31 ht]
  show H1[gad (xz x) g]? = some (vp_cell _ _)
  rw [e, vp_cell_i, vp_cell_i, (gT_nar hv).2.1, arrV_store]
  congr 2
  funext q
  by_cases hq : q = i.toNatClampNeg <;> simp [hq, updV, gI, sI, u2]
theorem g_newUz (X : GC x cc nL own d) {τ : List Nat} (hz : TZ (xz x) τ) {t N : Nat} {n : Int32} (ht : t ∉ τ) (ht4 : t < 4) (hN : gN (236 + t) = N) (hT : gT (236 + t) = 31) (hn : ¬ n < 0) (hnN : n.toNatClampNeg = N) (hN6 : N ≤ 6) {k : Nat} (B : XB x (k + 1)) (harr : Cond.arrayClass .boolean ∈ GW) (dec : decode cc pc = .ok (.newarray .boolean, 2)) (go : ∀ x' : GX, XR x x' → GC x' cc nL own d → XB x' k → TZ (xz x') (τ ++ [t]) → (∀ g, g ≠ 236 + t → gad (xz x) g = gad (xz x') g) → WG x' (sC M (236 + t) 0 N (fun _ => 0)) lv (pc + 2) (.ref (gad (xz x') (236 + t)) :: st)) : WG x M lv pc (.int n :: st) := by
  intro H locs ls hP hO hS hl
  have hB1 := B.1
  have hB2 := B.2
  refine va_newaK (atype := .boolean) X.1 X.2.1 (X.hw harr) (g := F0 (xm x) pc ls (.int n :: st)) rfl dec rfl hn hnN (by show N * 1 ≤ _; omega) (by omega) (by omega) rfl fun H1 cA e1 z1 o1 hAr hNm => ?_
  have ec : gcy (xz x) 22 = cA := Option.some.inj (((X.hK.2 2 _ rfl).2).symm.trans hNm)
  have hD := X.DI hz
  have hlt : ∀ g, g ∈ gL9 (xz x) → gad (xz x) g < H.size := fun g hg => (gP_ids.mp hP g hg).lt
  have hne : ∀ g, g ∈ gL9 (xz x) → g ≠ 236 + t := fun g hg h => by
    rcases gL9_mem.mp hg with q | ⟨t9, q1, q2⟩
    · unfold gn at q; omega
    · rw [hz.1] at q1
      have : t9 = t := by omega
      subst this
      exact ht q1
  have h0 : (0 : Nat) ∈ gL9 (xz x) := gL9_mem.mpr (Or.inl (by decide))
  obtain ⟨z', hz'⟩ : ∃ z' : GZ, z' = (gD (xz x), gcy (xz x), (fun g => if g = 236 + t then H.size else gad (xz x) g), gB (xz x), gtz (xz x) ++ [t], gsa (xz x), gsl (xz x), gsx (xz x)) := ⟨_, rfl⟩
  have a1 : ∀ g, g ≠ 236 + t → gad (xz x) g = gad z' g := fun g hg => by rw [hz']; exact (if_neg hg).symm
  have a2 : gad z' (236 + t) = H.size := by rw [hz']; exact if_pos rfl
  have l9 : gL9 z' = gL9 (xz x) ++ [236 + t] := by
    rw [hz']
    show List.range gn ++ (gtz (xz x) ++ [t]).map _ = (List.range gn ++ (gtz (xz x)).map _) ++ _
    rw [List.map_append, List.append_assoc]
    rfl
  have m9 : ∀ g, g ∈ gL9 z' → g ∈ gL9 (xz x) ∨ g = 236 + t := fun g hg => by
    rw [l9] at hg
    rcases List.mem_append.mp hg with h | h
    · exact Or.inl h
    · exact Or.inr (List.mem_singleton.mp h)
  have hB : gB z' = gB (xz x) := by rw [hz']
  have nd : (gL9 z').Nodup := by
    rw [l9]
    exact List.nodup_append.mpr ⟨hD.1, by simp, fun a ha b hb => by rw [List.mem_singleton] at hb; subst hb; exact hne a ha⟩
  have hD' : DI z' := ⟨nd, fun g hg g9 hg9 he => by
    rcases m9 g hg with h | h <;> rcases m9 g9 hg9 with h9 | h9
    · rw [← a1 g (hne g h), ← a1 g9 (hne g9 h9)] at he
      exact hD.2.1 g h g9 h9 he
    · rw [h9, ← a1 g (hne g h), a2] at he
      have := hlt g h
      omega
    · rw [h, ← a1 g9 (hne g9 h9), a2] at he
      have := hlt g9 h9
      omega
    · rw [h, h9], fun g hg => by
    rw [hB]
    rcases m9 g hg with h | h
    · rw [← a1 g (hne g h)]; exact hD.2.2 g h
    · rw [h, a2]
      exact Nat.le_trans (hD.2.2 0 h0) (Nat.le_of_lt (hlt 0 h0))⟩
  have zr : ZR (xz x) z' := by
    rw [hz']
    refine ⟨rfl, rfl, rfl, rfl, rfl, rfl, fun g hg => if_neg (by omega)⟩
  have hcy : gcy z' = gcy (xz x) := zr.2.1
  have hDD : gD z' = gD (xz x) := zr.1
  have tz : TZ z' (τ ++ [t]) := ⟨by rw [hz', ← hz.1], nd, fun t9 h => by
    rcases List.mem_append.mp h with h | h
    · exact hz.2.2 t9 h
    · rw [List.mem_singleton] at h; omega⟩
  rw [← a2]
  refine go (xZ x (xcells x + 1) (xslots x + N) z') ⟨_, _, _, rfl, zr⟩ (X.re (by omega) (by omega) zr hD'.D) ⟨by show xcells x + 1 + k ≤ (xR x).cells; omega, by show xslots x + N + 6 * k ≤ (xR x).slots; omega⟩ tz a1 H1 locs ls ?_ hO ?_ hl
  · show va_P (gD z') vwCl (gW z' (sC M (236 + t) 0 N (fun _ => 0))) H1
    refine gP_ids.mpr fun g hg => ?_
    rw [hDD]
    rcases m9 g hg with h | h
    · rw [← a1 g (hne g h)]
      exact ce_at (gE_re (hz.lt h) hO hcy zr.2.2.2.1 (fun g9 h9 => zr.2.2.2.2.2.2 g9 h9) (fun ht2 j hj => by
        have hb : gR g j < 236 := gR_lt (hz.lt h) ht2 hj
        exact (a1 _ (by omega)).symm) (fun k => by
        have := hne g h
        simp [gI, sC, this]) (fun _ => rfl) (fun _ => rfl)) ((gP_ids.mp hP g h).kept (o1 _ (hlt g h)))
    · rw [h, a2, gE_31 hT, hcy, hN]
      show H1[H.size]? = some (vp_cell _ _)
      rw [e1, ec, vp_cell_i]
      refine congrArg some (st_arr fun j hj => ?_)
      simp [gI, sC, hj]
      rfl
  · show va_S (fun q => gB z' ≤ q) (xs x).heap H1 locs
    rw [hB]
    exact ⟨Nat.le_trans hS.1 (by omega), fun q h1 h2 => (o1 q (Nat.lt_of_lt_of_le h1 hS.1)).trans (hS.2.1 q h1 h2), hS.2.2⟩
theorem g_aastUz (X : GC x cc nL own d) {t : Nat} {τ : List Nat} (hz : TZ (xz x) (t :: τ)) {o : Nat} {i : Int32} (ho : gT o = 29) (hi : gIn i (gN o) = true) (hT : gT (236 + t) = 31) (hrow : ∀ j, j < gN o → 133 ≤ gR o j ∧ gN (gR o j) = gN (236 + t)) (dec : decode cc pc = .ok (.aastore, 1)) (go : ∀ x' : GX, XR x x' → GC x' cc nL own d → (∀ k, XB x k → XB x' k) → TZ (xz x') τ → gad (xz x) (236 + t) = gad (xz x') (gR o i.toNatClampNeg) → (∀ g, g ≠ gR o i.toNatClampNeg → gad (xz x) g = gad (xz x') g) → WG x' (sC M (gR o i.toNatClampNeg) 0 (gN (236 + t)) (fun j => gI M (236 + t) j)) lv (pc + 1) st) : WG x M lv pc (.ref (gad (xz x) (236 + t)) :: .int i :: .ref (gad (xz x) o) :: st) := by
  intro H locs ls hP hO hS hl
  have hD := X.DI hz
  have hi2 := gIn_lt hi
  have ho9 : o < 240 := gT_lm (by rw [ho]; decide)
  have hob := gB_29 ho9 ho
  obtain ⟨r, hr⟩ : ∃ r, r = gR o i.toNatClampNeg := ⟨_, rfl⟩
  obtain ⟨r1, r2⟩ := hrow _ hi2
  have r3 : gT r = 22 := by rw [hr]; exact gR_29 ho hi2
  rw [← hr] at r1 r2 go
  have r4 : r < gn := gT_lt (by rw [r3]; decide)
  have r4' : r < 236 := r4
  have hom : o ∈ gL9 (xz x) := gL9_mem.mpr (Or.inl (gT_lt (by rw [ho]; decide)))
  have htm : 236 + t ∈ gL9 (xz x) := hz.mem List.mem_cons_self
  have hao : gad (xz x) (236 + t) ≠ gad (xz x) o := fun h => by
    have := hD.2.1 _ htm _ hom h
    omega
  have hat : H[gad (xz x) o]? = some (vp_cell (gcy (xz x) 29) (gN o, .inr (.inr (.inr (.inr (fun j => some (gad (xz x) (gR o j)))))))) := by
    have h := gP_ids.mp hP o hom
    rw [gE_29 ho] at h
    exact h
  have htt : H[gad (xz x) (236 + t)]? = some (vp_cell (gcy (xz x) 22) (gN (236 + t), .inl (fun j => gI M (236 + t) j))) := by
    have h := gP_ids.mp hP _ htm
    rw [gE_31 hT] at h
    exact h
  obtain ⟨kA, k1, k2⟩ := X.hRR.2
  obtain ⟨-, kC, hkC, -⟩ := (X.hK.2 2 _ rfl).1 (gN (236 + t)) (fun j => .int (gI M (236 + t) j))
  have h0 : ¬ i < 0 := fun q => gIn_in hi (Or.inl q)
  refine W.aast X.1 X.2.1 hat (fun q h => by cases h) (fun h => by cases h) k1 k2 rfl hkC ⟨h0, by show _ < (arrV _ _ _).slots.size; rw [arrV_size]; exact hi2⟩ htt (fun q h => by cases h) hkC (va_asg _ _) rfl rfl dec fun H1 e z1 oq => ?_
  obtain ⟨z', hz'⟩ : ∃ z' : GZ, z' = (gD (xz x), gcy (xz x), (fun g => if g = r then gad (xz x) (236 + t) else gad (xz x) g), gB (xz x), τ, gsa (xz x), gsl (xz x), gsx (xz x)) := ⟨_, rfl⟩
  have a1 : ∀ g, g ≠ r → gad (xz x) g = gad z' g := fun g hg => by rw [hz']; exact (if_neg hg).symm
  have a2 : gad (xz x) (236 + t) = gad z' r := by rw [hz']; exact (if_pos rfl).symm
  have l9 : gL9 z' = List.range gn ++ τ.map (fun t => 236 + t) := by rw [hz']; rfl
  have l8 : gL9 (xz x) = List.range gn ++ (236 + t) :: τ.map (fun t => 236 + t) := by unfold gL9; rw [hz.1]; rfl
  have nd8 := hD.1
  rw [l8] at nd8
  obtain ⟨n1, n2, n3⟩ := List.nodup_append.mp nd8
  obtain ⟨n4, n5⟩ := List.nodup_cons.mp n2
  have nd : (gL9 z').Nodup := by
    rw [l9]
    exact List.nodup_append.mpr ⟨n1, n5, fun a ha b hb => n3 a ha b (List.mem_cons_of_mem _ hb)⟩
  have m9 : ∀ g, g ∈ gL9 z' → g ∈ gL9 (xz x) ∧ g ≠ 236 + t := fun g hg => by
    rw [l9] at hg
    rw [l8]
    rcases List.mem_append.mp hg with h | h
    · exact ⟨List.mem_append.mpr (Or.inl h), n3 g h _ List.mem_cons_self⟩
    · exact ⟨List.mem_append.mpr (Or.inr (List.mem_cons_of_mem _ h)), fun q => n4 (q ▸ h)⟩
  have hB : gB z' = gB (xz x) := by rw [hz']
  have hD' : DI z' := ⟨nd, fun g hg g9 hg9 he => by
    obtain ⟨p1, p2⟩ := m9 g hg
    obtain ⟨q1, q2⟩ := m9 g9 hg9
    by_cases h : g = r <;> by_cases h9 : g9 = r
    · rw [h, h9]
    · rw [h, ← a2, ← a1 g9 h9] at he
      exact absurd (hD.2.1 _ htm _ q1 he).symm q2
    · rw [h9, ← a2, ← a1 g h] at he
      exact absurd (hD.2.1 _ p1 _ htm he) p2
    · rw [← a1 g h, ← a1 g9 h9] at he
      exact hD.2.1 g p1 g9 q1 he, fun g hg => by
    rw [hB]
    by_cases h : g = r
    · rw [h, ← a2]; exact hD.2.2 _ htm
    · rw [← a1 g h]; exact hD.2.2 g (m9 g hg).1⟩
  have zr : ZR (xz x) z' := by
    rw [hz']
    exact ⟨rfl, rfl, rfl, rfl, rfl, rfl, fun g hg => if_neg (by omega)⟩
  have hcy : gcy z' = gcy (xz x) := zr.2.1
  have hDD : gD z' = gD (xz x) := zr.1
  have tz : TZ z' τ := ⟨by rw [hz'], nd, fun t9 h => hz.2.2 t9 (List.mem_cons_of_mem _ h)⟩
  refine go (xZ x (xcells x) (xslots x) z') ⟨_, _, _, rfl, zr⟩ (X.re X.2.2.2.2.2.2.2.2.2.1 X.2.2.2.2.2.2.2.2.2.2.1 zr hD'.D) (fun k h => h) tz a2 a1 H1 _ ls ?_ hO ?_ hl
  · show va_P (gD z') vwCl (gW z' (sC M r 0 (gN (236 + t)) (fun j => gI M (236 + t) j))) H1
    refine gP_ids.mpr fun g hg => ?_
    rw [hDD]
    obtain ⟨p1, p2⟩ := m9 g hg
    by_cases h : g = r
    · rw [h, ← a2, gE_22 r3, hcy, r2]
      show H1[gad (xz x) (236 + t)]? = some (vp_cell _ _)
      rw [oq _ hao, htt, vp_cell_i, vp_cell_i]
      refine congrArg some (st_arr fun j hj => ?_)
      simp [gI, sC, hj]
    · by_cases h2 : g = o
      · rw [h2, ← a1 o (by omega), gE_29 ho, hcy]
        show H1[gad (xz x) o]? = some (vp_cell _ _)
        rw [e, vp_cell_q, vp_cell_q, arrV_store]
        refine congrArg some (st_arr fun j hj => ?_)
        by_cases hj2 : j = i.toNatClampNeg
        · subst hj2
          simp [updV, va_rf, ← hr, ← a2]
        · have h5 : gR o j ≠ r := fun h5 => by
            rw [hr] at h5
            exact hj2 (gR_inj (by omega) (by omega) (by omega) (by omega) (Or.inr ho) (Or.inr ho) hj hi2 h5).2
          simp [updV, hj2, va_rf, ← a1 _ h5]
      · rw [← a1 g h]
        exact ce_at (gE_re (hz.lt p1) hO hcy zr.2.2.2.1 (fun g9 h9 => zr.2.2.2.2.2.2 g9 h9) (fun ht2 j hj => by
          have h5 : gR g j ≠ r := fun h5 => by
            rw [hr] at h5
            have gb : 123 ≤ g ∧ g < 133 := by
              rcases ht2 with q | q
              · have := gB_28 (hz.lt p1) q; omega
              · have := gB_29 (hz.lt p1) q; omega
            exact h2 (gR_inj gb.1 gb.2 (by omega) (by omega) ht2 (Or.inr ho) hj hi2 h5).1
          exact (a1 _ h5).symm) (fun k => by simp [gI, sC, h]) (fun _ => rfl) (fun _ => rfl)) ((gP_ids.mp hP g p1).kept (oq _ (fun q => h2 (hD.2.1 g p1 o hom q))))
  · show va_S (fun q => gB z' ≤ q) (xs x).heap H1 _
    rw [hB]
    exact hS.put z1 oq (hD.2.2 o hom)
theorem g_newTi (X : GC x cc nL own d) {τ : List Nat} (hz : TZ (xz x) τ) {t g N : Nat} {n : Int32} (hg : 236 + t = g) (ht : t ∉ τ) (ht4 : t < 4) (hN : gN g = N) (hT : gT g = 30) (hn : ¬ n < 0) (hnN : n.toNatClampNeg = N) (hN6 : N ≤ 6) {k : Nat} (B : XB x (k + 1)) (harr : Cond.arrayClass .int ∈ GW) (dec : decode cc pc = .ok (.newarray .int, 2)) (go : ∀ x' : GX, XR x x' → GC x' cc nL own d → XB x' k → TZ (xz x') (τ ++ [t]) → (∀ g9, g9 ≠ g → gad (xz x) g9 = gad (xz x') g9) → WG x' (sC M g 0 N (fun _ => 0)) lv (pc + 2) (.ref (gad (xz x') g) :: st)) : WG x M lv pc (.int n :: st) := by
  subst hg
  exact g_newUi X hz ht ht4 hN hT hn hnN hN6 B harr dec go
theorem g_aastTi (X : GC x cc nL own d) {t g N : Nat} {τ : List Nat} (hz : TZ (xz x) (t :: τ)) {o : Nat} {i : Int32} (hg : 236 + t = g) (hN : gN g = N) (ho : gT o = 28) (hi : gIn i (gN o) = true) (hT : gT g = 30) (hrow : ∀ j, j < gN o → 133 ≤ gR o j ∧ gN (gR o j) = gN g) (dec : decode cc pc = .ok (.aastore, 1)) (go : ∀ x' : GX, XR x x' → GC x' cc nL own d → (∀ k, XB x k → XB x' k) → TZ (xz x') τ → gad (xz x) g = gad (xz x') (gR o i.toNatClampNeg) → (∀ g9, g9 ≠ gR o i.toNatClampNeg → gad (xz x) g9 = gad (xz x') g9) → WG x' (sC M (gR o i.toNatClampNeg) 0 N (fun j => gI M g j)) lv (pc + 1) st) : WG x M lv pc (.ref (gad (xz x) g) :: .int i :: .ref (gad (xz x) o) :: st) := by
  subst hg
  subst hN
  exact g_aastUi X hz ho hi hT hrow dec go
theorem g_newTz (X : GC x cc nL own d) {τ : List Nat} (hz : TZ (xz x) τ) {t g N : Nat} {n : Int32} (hg : 236 + t = g) (ht : t ∉ τ) (ht4 : t < 4) (hN : gN g = N) (hT : gT g = 31) (hn : ¬ n < 0) (hnN : n.toNatClampNeg = N) (hN6 : N ≤ 6) {k : Nat} (B : XB x (k + 1)) (harr : Cond.arrayClass .boolean ∈ GW) (dec : decode cc pc = .ok (.newarray .boolean, 2)) (go : ∀ x' : GX, XR x x' → GC x' cc nL own d → XB x' k → TZ (xz x') (τ ++ [t]) → (∀ g9, g9 ≠ g → gad (xz x) g9 = gad (xz x') g9) → WG x' (sC M g 0 N (fun _ => 0)) lv (pc + 2) (.ref (gad (xz x') g) :: st)) : WG x M lv pc (.int n :: st) := by
  subst hg
  exact g_newUz X hz ht ht4 hN hT hn hnN hN6 B harr dec go
theorem g_aastTz (X : GC x cc nL own d) {t g N : Nat} {τ : List Nat} (hz : TZ (xz x) (t :: τ)) {o : Nat} {i : Int32} (hg : 236 + t = g) (hN : gN g = N) (ho : gT o = 29) (hi : gIn i (gN o) = true) (hT : gT g = 31) (hrow : ∀ j, j < gN o → 133 ≤ gR o j ∧ gN (gR o j) = gN g) (dec : decode cc pc = .ok (.aastore, 1)) (go : ∀ x' : GX, XR x x' → GC x' cc nL own d → (∀ k, XB x k → XB x' k) → TZ (xz x') τ → gad (xz x) g = gad (xz x') (gR o i.toNatClampNeg) → (∀ g9, g9 ≠ gR o i.toNatClampNeg → gad (xz x) g9 = gad (xz x') g9) → WG x' (sC M (gR o i.toNatClampNeg) 0 N (fun j => gI M g j)) lv (pc + 1) st) : WG x M lv pc (.ref (gad (xz x) g) :: .int i :: .ref (gad (xz x) o) :: st) := by
  subst hg
  subst hN
  exact g_aastUz X hz ho hi hT hrow dec go
theorem g_drop (X : GC x cc nL own d) {τ : List Nat} (hz : TZ (xz x) τ) (go : ∀ x' : GX, XR x x' → GC x' cc nL own d → (∀ k, XB x k → XB x' k) → TZ (xz x') [] → (∀ g, gad (xz x) g = gad (xz x') g) → WG x' M lv pc st) : WG x M lv pc st := by
  intro H locs ls hP hO hS hl
  have hD := X.DI hz
  obtain ⟨z', hz'⟩ : ∃ z' : GZ, z' = (gD (xz x), gcy (xz x), gad (xz x), gB (xz x), [], gsa (xz x), gsl (xz x), gsx (xz x)) := ⟨_, rfl⟩
  have tz : TZ z' [] := TZ.nil (by rw [hz'])
  have m9 : ∀ g, g ∈ gL9 z' → g ∈ gL9 (xz x) := fun g hg => by
    rcases gL9_mem.mp hg with h | ⟨t, h, -⟩
    · exact gL9_mem.mpr (Or.inl h)
    · rw [tz.1] at h; exact absurd h List.not_mem_nil
  have hD' : DI z' := ⟨tz.2.1, fun g hg g9 hg9 he => hD.2.1 g (m9 g hg) g9 (m9 g9 hg9) (by rw [hz'] at he; exact he), fun g hg => by rw [hz']; exact hD.2.2 g (m9 g hg)⟩
  have zr : ZR (xz x) z' := by
    rw [hz']
    exact ⟨rfl, rfl, rfl, rfl, rfl, rfl, fun g hg => rfl⟩
  have hg : ∀ M g, gE z' M g = gE (xz x) M g := fun M g => by rw [hz']; rfl
  refine go (xZ x (xcells x) (xslots x) z') ⟨_, _, _, rfl, zr⟩ (X.re X.2.2.2.2.2.2.2.2.2.1 X.2.2.2.2.2.2.2.2.2.2.1 zr hD'.D) (fun k h => h) tz (fun g => by rw [hz']) H locs ls ?_ hO (by rw [hz']; exact hS) hl
  show va_P (gD z') vwCl (gW z' M) H
  refine gP_ids.mpr fun g h => ?_
  rw [hg, show gD z' = gD (xz x) from zr.1, show gad z' g = gad (xz x) g by rw [hz']]
  exact gP_ids.mp hP g (m9 g h)
def aPost (z : GZ) (M1 : GM) (st t : State) : Prop := ∃ z' : GZ, ZR z z' ∧ gtz z' = [] ∧ (∀ M, va_D (fun q => gB z' ≤ q) (gW z' M)) ∧ va_P (gD z') vwCl (gW z' M1) t.heap ∧ gOK M1 ∧ va_F (fun q => gB z ≤ q) st t
/-- a method that makes at most mc rows -/
def aMet (l : Launch) (z : GZ) (y : MethodName) (cc : ByteArray) (nL : Nat) (d : Nat) (As : List Value) (M : GM) (v : Int32) (M1 : GM) (mc : Nat) : Prop :=
  Met l y (gws y cc nL (some .boolean)) { frames := d, cells := mc, slots := 6 * mc, locals := 31 * d } (va_Pc As (fun U => gPre z M U ∧ gtz z = [])) (fun _ st o t => o = .returned (some (.int v)) ∧ aPost z M1 st t) mc (6 * mc) (fun q => gB z ≤ q)
theorem aMet_of {l : Launch} {z : GZ} {y : MethodName} {As : List Value} {M1 : GM} {v : Int32} {mc : Nat} (hy : plainFor y = true) (hn : (lg_sl As).length ≤ nL) (htr : l.stackTraces = false)
    (body : ∀ x : GX, GC x cc nL y.cls d → XB x mc → TZ (xz x) [] → xz x = z → xl x = l → (∀ x' : GX, XR x x' → GC x' cc nL y.cls d → XB x' 0 → TZ (xz x') [] → ∀ lv pc, (v = 0 ∨ v = 1) → decode cc pc = .ok (.ireturn, 1) → WG x' M1 lv pc [.int v]) → WG x M (lv_args 0 As) 0 []) : aMet l z y cc nL d As M v M1 mc := by
  refine gOfW (cc := cc) (maxL := nL) (ret := some .boolean) hy rfl ?_
  intro p e s m args below meth c s₁ B hml hv
  obtain ⟨rfl, ⟨hP, hO, hKK⟩, htz⟩ := hv
  have hts := atoms_spec (ws := gws y cc nL (some .boolean)) B.pre
  have hl := lv_entry As (n := nL) hn
  rw [lg_entry_eq]
  generalize (lg_sl As ++ List.replicate (nL - (lg_sl As).length) Slot.unset).toArray = ls at hl ⊢
  have X : GC (p, l, e, (headSpec (gws y cc nL (some .boolean)) { frames := d, cells := mc, slots := 6 * mc, locals := 31 * d }).room, s, m, As.toArray, below, meth, c, MQ below (fun _ st o t => o = .returned (some (.int v)) ∧ aPost z M1 st t) As.toArray s mc (6 * mc) (fun q => gB z ≤ q), 0, 0, z) cc nL y.cls d :=
    ⟨B.exec, B.bytes, hml, findClass_of_methodNamed B.named, fun w hw => hts w (List.mem_cons_of_mem _ hw), B.notSynchronized, hKK, Nat.le_refl _, Nat.le_refl _, Nat.zero_le _, Nat.zero_le _, htr⟩
  refine body _ X ⟨by show 0 + mc ≤ mc; omega, by show 0 + 6 * mc ≤ 6 * mc; omega⟩ (TZ.nil htz) rfl rfl (fun x' hx' X' B' tz' lv pc hv dec => ?_) s.heap [] ls hP hO va_S.rf (by rw [← hml] at hl; exact hl)
  obtain ⟨c2, s2, z2, rfl, zr⟩ := hx'
  intro H locs ls2 hP2 hO2 hS2 hl2
  have hb1 : c2 + 0 ≤ mc := B'.1
  have hb2 : s2 + 6 * 0 ≤ 6 * mc := B'.2
  have hBB : gB z2 = gB z := zr.2.2.1
  have hS3 : va_S (fun q => gB z ≤ q) s.heap H locs := by
    have h : va_S (fun q => gB z2 ≤ q) s.heap H locs := hS2
    rw [hBB] at h
    exact h
  have K := W.zret (p := p) (l := l) (e := e) (R := (headSpec (gws y cc nL (some .boolean)) { frames := d, cells := mc, slots := 6 * mc, locals := 31 * d }).room) (s := s) (m := m) (args := As.toArray) (below := below) (meth := meth) (c := c) (H := H) (locs := locs) (pc := pc) (ls := ls2) (v := v) (cells := mc) (slots := 6 * mc) (Qc := fun _ st o t => o = .returned (some (.int v)) ∧ aPost z M1 st t) (free := fun q => gB z ≤ q) B.exec B.bytes B.returns (gT_nar hv).2.1 (fun t ht _ => ⟨rfl, z2, zr, tz'.1, X'.hD, by rw [ht]; exact hP2, hO2, hS3.F ht⟩) (fun q h => hS3.2.2 q h) dec (hlocks := B.notSynchronized)
  exact W.widen (by omega) (by omega) K
theorem g_callA (X : GC x cc nL own d) (hz : TZ (xz x) []) {y : MethodName} {bc : ByteArray} {nY d1 n idx g t N k mc : Nat} {As rest st0 : List Value} {r : Int32} {M1 : GM} {C : String} {T : u_T} {fs : List Value} (B : XB x (k + mc))
    (hM : aMet (xl x) (xz x) y bc nY d1 (.ref (gad (xz x) g) :: As) M r M1 mc) (ht : gT g = t) (h9 : t < 30) (he : gE (xz x) M g = .inr (t, fs)) (hc : vwCl[t]? = some (C, T, N))
    (hlk : Cond.methodLink own idx y ∈ GW) (hin : Cond.instanceMethod y ∈ GW) (hse : Cond.selects C y y ∈ GW) (hini : Cond.initialized C ∈ GW) (hcode : Cond.code y bc nY (some .boolean) ∈ GW)
    (hy : y.cls = C ∧ y.cls ≠ "java/lang/invoke/MethodHandle" ∧ y.cls ≠ "java/lang/invoke/VarHandle" ∧ (parseMethodDescriptor y.desc).map (fun d => d.parameters.length) = some n) (hn : As.length = n) (hd : d1 + 1 ≤ d) (hnY : nY ≤ 12)
    (hst : st0 = As.reverse ++ .ref (gad (xz x) g) :: rest) (hsum : (rest.map fun v => v.category).sum ≤ 8) (dec : decode cc pc = .ok (.invokevirtual idx, 3)) (go : ∀ x' : GX, XR x x' → GC x' cc nL own d → XB x' k → TZ (xz x') [] → WG x' M1 lv (pc + 3) (.int r :: rest)) : WG x M lv pc st0 := by
  intro H locs ls hP hO hS hl
  subst hst
  have hgood : GoodIn GW (wsV own idx C y (gws y bc nY (some .boolean))) := by
    intro w hw
    rcases List.mem_append.mp (show w ∈ ([.methodLink own idx y, .instanceMethod y, .selects C y y, .initialized C] : List Cond) ++ gws y bc nY (some .boolean) from hw) with h | h
    · have : w ∈ GW := by
        simp only [List.mem_cons, List.not_mem_nil, or_false] at h
        rcases h with rfl | rfl | rfl | rfl
        · exact hlk
        · exact hin
        · exact hse
        · exact hini
      exact ⟨this, gw_good this⟩
    · exact gws_good (fun w h => h) hcode w h
  have hb1 := B.1
  have hb2 := B.2
  have hr := va_runV (p := xp x) (l := xl x) (e := xe x) (R := xR x) (s := xs x) (m := xm x) (args := xargs x) (below := xbelow x) (meth := xmeth x) (c := xc x) (H := H) (locs := locs) (cells := xcells x) (slots := xslots x) (g := F0 (xm x) pc ls (As.reverse ++ .ref (gad (xz x) g) :: rest)) (As := As) (rest := rest) (Ts := GW) ⟨X.1, X.2.1, rfl, X.2.2.2.1, X.2.2.2.2.1⟩ hM (cwV n X.2.2.2.2.1 hgood rfl rfl rfl hy (g_rm X hd hnY))
    ⟨fun a U g9 mk h => ⟨(gPre.blind _ _ _ a U g9 mk ⟨h.1, h.2.1⟩).1, (gPre.blind _ _ _ a U g9 mk ⟨h.1, h.2.1⟩).2, h.2.2⟩, g_recv X hP ht h9 he hc, fun U hU hW => ⟨rfl, gPre_call X hP hO hS U hU hW, hz.1⟩⟩ rfl hn hl.1 rfl (lv_room hsum) dec ⟨by omega, by omega⟩
  intro T hT X'
  obtain ⟨v, st₀, t, T', L, h0, X1, hL, e1, e2, ⟨hv, z2, zr, tz2, hD2, hP1, hO1, hF1⟩, hgo⟩ := hr T hT X'
  cases hv
  have hS1 : va_S (fun q => gB z2 ≤ q) (xs x).heap T'.heap (locs ++ L) := by
    rw [zr.2.2.1]
    refine ⟨Nat.le_trans hS.1 (by rw [e1, ← h0]; exact hF1.1), fun q h1 h2 => ?_, fun q hq => ?_⟩
    · rw [e1, hF1.2 q (by rw [h0]; exact Nat.lt_of_lt_of_le h1 hS.1) h2, h0]
      exact hS.2.1 q h1 h2
    · rcases List.mem_append.mp hq with h | h
      · exact hS.2.2 q h
      · exact hL q h
  obtain ⟨t2, a1, b1⟩ := go (xZ x (xcells x + mc) (xslots x + 6 * mc) z2) ⟨_, _, _, rfl, zr⟩ (X.re (by omega) (by omega) zr hD2) ⟨by show xcells x + mc + k ≤ (xR x).cells; omega, by show xslots x + 6 * mc + 6 * k ≤ (xR x).slots; omega⟩ (TZ.nil tz2) T'.heap (locs ++ L) ls (by rw [e1]; exact hP1) hO1 hS1 hl T' rfl X1
  exact ⟨t2, hgo t2 a1, b1⟩
end AR
