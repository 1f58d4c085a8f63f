/-! PURE PART: how large the numbers of a polygon can be -/
theorem sVtx_gv0 {P : PM} (h : OK P) (c : Nat) : gv0 (sVtx P c) := by
  have hs := fun r => sSeen_rg h c r
  obtain ⟨-, -, -, -, -, h7, h8, h9, -⟩ := h
  refine ⟨fun k hk => ?_, fun k h1 h2 => ?_, fun k h1 h2 => ?_⟩
  · show _ ≤ (if k < 3 then _ else _) ∧ (if k < 3 then _ else _) ≤ _
    rw [if_pos hk]; exact hs k
  · rcases (show k = 3 ∨ k = 4 by omega) with rfl | rfl
    · exact h8 c
    · exact h9 c
  · have := h7 c
    rcases (show k = 5 ∨ k = 6 ∨ k = 7 by omega) with rfl | rfl | rfl
    · show 0 ≤ (P 127 c).toInt / 65536 ∧ (P 127 c).toInt / 65536 ≤ 255
      omega
    · show 0 ≤ (P 127 c).toInt / 256 % 256 ∧ (P 127 c).toInt / 256 % 256 ≤ 255
      omega
    · show 0 ≤ (P 127 c).toInt % 256 ∧ (P 127 c).toInt % 256 ≤ 255
      omega
theorem sCut_bd {a b d w L U : Int} (h0 : 0 ≤ d) (h1 : d < w) (ha : L ≤ a ∧ a ≤ U) (hb : L ≤ b ∧ b ≤ U) : L ≤ a + ((b - a) * d) / w ∧ a + ((b - a) * d) / w ≤ U := by
  have hw : 0 < w := by omega
  rcases Int.lt_or_le (b - a) 0 with h | h
  · have k1 : (b - a) * d ≤ 0 := Int.mul_nonpos_of_nonpos_of_nonneg (by omega) h0
    have k2 : (b - a) * w ≤ (b - a) * d := Int.mul_le_mul_of_nonpos_left (by omega) (by omega)
    have k3 : b - a ≤ ((b - a) * d) / w := Int.le_ediv_of_mul_le hw k2
    have k4 : ((b - a) * d) / w ≤ 0 := by
      rcases Int.lt_or_le ((b - a) * d) 0 with q | q
      · have := Int.ediv_neg_of_neg_of_pos q hw; omega
      · have : (b - a) * d = 0 := by omega
        rw [this]; simp
    omega
  · have k1 : 0 ≤ (b - a) * d := Int.mul_nonneg h h0
    have k2 : (b - a) * d ≤ (b - a) * w := Int.mul_le_mul_of_nonneg_left (by omega) h
    have k3 := Int.ediv_nonneg k1 (Int.le_of_lt hw)
    have k4 : ((b - a) * d) / w ≤ (b - a) := Int.ediv_le_of_le_mul hw k2
    omega
theorem sCut_gv {near : Int} {p q : V} (hn : 1 ≤ near ∧ near ≤ 1000) (hp : gv0 p) (hq : gv0 q) (h1 : near ≤ p 2) (h2 : ¬ near ≤ q 2) : gv near (sCut near p q) := by
  have h0 : 0 ≤ p 2 - near := by omega
  have hw : p 2 - near < p 2 - q 2 := by omega
  refine ⟨⟨fun k hk => ?_, fun k a b => ?_, fun k a b => ?_⟩, ?_⟩
  · unfold sCut
    split
    · omega
    · exact sCut_bd h0 hw (hp.1 k hk) (hq.1 k hk)
  · unfold sCut
    rw [if_neg (by omega)]
    exact sCut_bd h0 hw (hp.2.1 k a b) (hq.2.1 k a b)
  · unfold sCut
    rw [if_neg (by omega)]
    exact sCut_bd h0 hw (hp.2.2 k a b) (hq.2.2 k a b)
  · unfold sCut; rw [if_pos rfl]; omega
theorem sEdge_gv {near : Int} {p q : V} (hn : 1 ≤ near ∧ near ≤ 1000) (hp : gv0 p) (hq : gv0 q) : ∀ v ∈ sEdge near p q, gv near v := by
  intro v hv
  unfold sEdge at hv
  by_cases h1 : near ≤ p 2
  · rw [if_pos h1] at hv
    by_cases h2 : near ≤ q 2
    · rw [if_pos h2] at hv
      simp at hv; subst hv; exact ⟨hp, h1⟩
    · rw [if_neg h2] at hv
      simp at hv
      rcases hv with rfl | rfl
      · exact ⟨hp, h1⟩
      · exact sCut_gv hn hp hq h1 h2
  · rw [if_neg h1] at hv
    by_cases h2 : near ≤ q 2
    · rw [if_pos h2] at hv
      simp at hv; subst hv; exact sCut_gv hn hq hp h2 h1
    · rw [if_neg h2] at hv; simp at hv
theorem sEdge_len (near : Int) (p q : V) : (sEdge near p q).length = (if near ≤ p 2 then (if near ≤ q 2 then 1 else 2) else (if near ≤ q 2 then 1 else 0)) := by
  unfold sEdge
  split <;> split <;> rfl
theorem sPoly_len (near : Int) (a b c : V) : (sEdge near a b).length ≤ 2 ∧ (sEdge near a b).length + (sEdge near b c).length ≤ 4 ∧ (sPoly near a b c).length ≤ 4 ∧ (sPoly near a b c).length = (sEdge near a b).length + (sEdge near b c).length + (sEdge near c a).length := by
  unfold sPoly
  rw [List.length_append, List.length_append, sEdge_len, sEdge_len, sEdge_len]
  by_cases h1 : near ≤ a 2 <;> by_cases h2 : near ≤ b 2 <;> by_cases h3 : near ≤ c 2 <;> simp [h1, h2, h3]
theorem sPane_gv {P : PM} (h : OK P) (i : Nat) : ∀ v ∈ sPane P i, gv (sNear P) v := by
  have hn : 1 ≤ sNear P ∧ sNear P ≤ 1000 := h.2.1
  intro v hv
  unfold sPane sPoly at hv
  rcases List.mem_append.mp hv with q | q
  · exact sEdge_gv hn (sVtx_gv0 h _) (sVtx_gv0 h _) v q
  · rcases List.mem_append.mp q with q | q
    · exact sEdge_gv hn (sVtx_gv0 h _) (sVtx_gv0 h _) v q
    · exact sEdge_gv hn (sVtx_gv0 h _) (sVtx_gv0 h _) v q
theorem sPane_at {P : PM} (h : OK P) {i j : Nat} {v : V} (hv : (sPane P i)[j]? = some v) : gv (sNear P) v := sPane_gv h i v (List.mem_of_getElem? hv)
theorem sPane_len (P : PM) (i : Nat) : (sPane P i).length ≤ 4 := (sPoly_len _ _ _ _).2.2.1
theorem sX_rg {f near : Int} {v : V} (hf : 1 ≤ f ∧ f ≤ 500) (hn : 1 ≤ near) (h : gv near v) : -288000000 ≤ 16 * f * v 0 ∧ 16 * f * v 0 ≤ 288000000 ∧ -288000000 ≤ (16 * f * v 0) / v 2 ∧ (16 * f * v 0) / v 2 ≤ 288000000 := by
  have k := a_mb (a := 16 * f) (b := v 0) (A := 8000) (B := 36000) (by omega) (by omega) (h.1.1 0 (by omega)).1 (h.1.1 0 (by omega)).2
  have h2 := h.2
  have k2 := a_edb (x := 16 * f * v 0) (y := v 2) (L := 288000000) (by omega) (by omega) (by omega)
  omega
theorem sY_rg {f near : Int} {v : V} (hf : 1 ≤ f ∧ f ≤ 500) (hn : 1 ≤ near) (h : gv near v) : -288000000 ≤ 16 * f * v 1 ∧ 16 * f * v 1 ≤ 288000000 ∧ -288000000 ≤ (16 * f * v 1) / v 2 ∧ (16 * f * v 1) / v 2 ≤ 288000000 := by
  have k := a_mb (a := 16 * f) (b := v 1) (A := 8000) (B := 36000) (by omega) (by omega) (h.1.1 1 (by omega)).1 (h.1.1 1 (by omega)).2
  have h2 := h.2
  have k2 := a_edb (x := 16 * f * v 1) (y := v 2) (L := 288000000) (by omega) (by omega) (by omega)
  omega
theorem sDp_rg {near : Int} {v : V} (hn : 1 ≤ near) (h : gv near v) : 0 ≤ 65535 * near / v 2 ∧ 65535 * near / v 2 ≤ 65535 := by
  have h2 := h.2
  exact ⟨Int.ediv_nonneg (by omega) (by omega), Int.ediv_le_of_le_mul (by omega) (by omega)⟩
theorem sWt_rg {near : Int} {v : V} (hn : 1 ≤ near) (h : gv near v) : 0 ≤ 65536 / v 2 ∧ 65536 / v 2 ≤ 65536 := by
  have h2 := h.2
  exact ⟨Int.ediv_nonneg (by omega) (by omega), Int.ediv_le_self _ (by omega)⟩
theorem a_seen {c0 c1 c2 t x y z : Int32} (b0 : -5000 ≤ c0.toInt ∧ c0.toInt ≤ 5000) (b1 : -5000 ≤ c1.toInt ∧ c1.toInt ≤ 5000) (b2 : -5000 ≤ c2.toInt ∧ c2.toInt ≤ 5000) (bt : -5000 ≤ t.toInt ∧ t.toInt ≤ 5000)
    (p0 : -2000 ≤ x.toInt ∧ x.toInt ≤ 2000) (p1 : -2000 ≤ y.toInt ∧ y.toInt ≤ 2000) (p2 : -2000 ≤ z.toInt ∧ z.toInt ≤ 2000) :
    (((c0 * x + c1 * y + c2 * z) >>> ((10 : Int32) &&& 31)) + t).toInt = (c0.toInt * x.toInt + c1.toInt * y.toInt + c2.toInt * z.toInt) / 1024 + t.toInt := by
  have m0 := a_mb b0.1 b0.2 p0.1 p0.2
  have m1 := a_mb b1.1 b1.2 p1.1 p1.2
  have m2 := a_mb b2.1 b2.2 p2.1 p2.2
  have e0 := a_mul (a := c0) (b := x) rfl rfl (by omega) (by omega)
  have e1 := a_mul (a := c1) (b := y) rfl rfl (by omega) (by omega)
  have e2 := a_mul (a := c2) (b := z) rfl rfl (by omega) (by omega)
  have e3 := a_add (a_add e0 e1 (by omega) (by omega)) e2 (by omega) (by omega)
  have e4 := a_shr10 (c0 * x + c1 * y + c2 * z)
  rw [e3] at e4
  exact a_add e4 rfl (by omega) (by omega)
