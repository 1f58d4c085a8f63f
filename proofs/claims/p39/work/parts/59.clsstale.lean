/-! PURE PART: what is stale, by the class -/
def cntB (f : Nat → Bool) : Nat → Nat
  | 0 => 0
  | i + 1 => cntB f i + if f i = true then 1 else 0
theorem cntB_le (f : Nat → Bool) : ∀ n, cntB f n ≤ n := by
  intro n
  induction n with
  | zero => exact Nat.le_refl 0
  | succ n ih => unfold cntB; split <;> omega
theorem cntB_congr {f g : Nat → Bool} {n : Nat} (h : ∀ k, k < n → f k = g k) : cntB f n = cntB g n := by
  induction n with
  | zero => rfl
  | succ n ih => unfold cntB; rw [ih (fun k hk => h k (by omega)), h n (by omega)]
/-- the picture, and the points drawn now -/
def sN (P : PM) : Nat := (P 122 2).toNatClampNeg
def sC1 (P : PM) : Nat := (P 122 1).toNatClampNeg
theorem sN_of {P : PM} (h : OK P) : P 122 2 = nI (sN P) ∧ sN P ≤ 30 ∧ P 122 1 = nI (sC1 P) ∧ sC1 P ≤ 40 := by
  obtain ⟨⟨c, n, h1, h2, h3, h4⟩, -⟩ := h
  have e : sN P = n := by unfold sN; rw [h3, n_cl (by omega)]
  have e2 : sC1 P = c := by unfold sC1; rw [h1, n_cl (by omega)]
  rw [e, e2]
  exact ⟨h3, h4, h1, h2⟩
def pPx (P : PM) (k : Nat) : Px := (P 138 k, P 139 k, P 140 k)
def nPx (P : PM) (k : Nat) : Px := sPix P (-1) (sN P) k
def tOf (k : Nat) : Nat := k / 40 / 8 * 5 + k % 40 / 8
def dTile (f g : Nat → Px) (t : Nat) : Bool := (List.range 960).any fun k => decide (tOf k = t) && decide (f k ≠ g k)
theorem dTile_iff {f g : Nat → Px} {t : Nat} : dTile f g t = true ↔ ∃ k, k < 960 ∧ tOf k = t ∧ f k ≠ g k := by
  unfold dTile
  rw [List.any_eq_true]
  constructor
  · rintro ⟨k, h1, h2⟩
    rw [List.mem_range] at h1
    rw [Bool.and_eq_true, decide_eq_true_eq, decide_eq_true_eq] at h2
    exact ⟨k, h1, h2.1, h2.2⟩
  · rintro ⟨k, h1, h2, h3⟩
    exact ⟨k, List.mem_range.mpr h1, by rw [Bool.and_eq_true, decide_eq_true_eq, decide_eq_true_eq]; exact ⟨h2, h3⟩⟩
theorem dTile_congr {f g f' g' : Nat → Px} {t : Nat} (hf : ∀ k, k < 960 → f k = f' k) (hg : ∀ k, k < 960 → g k = g' k) : dTile f g t = dTile f' g' t := bool_iff (by
  rw [dTile_iff, dTile_iff]
  constructor
  · rintro ⟨k, h1, h2, h3⟩; exact ⟨k, h1, h2, by rw [← hf k h1, ← hg k h1]; exact h3⟩
  · rintro ⟨k, h1, h2, h3⟩; exact ⟨k, h1, h2, by rw [hf k h1, hg k h1]; exact h3⟩)
def sStale (P : PM) : Nat := cntB (dTile (nPx P) (pPx P)) 15
theorem c_diffRow {M : GM} {F s1 s2 o y : Nat} {l r b u : Int} (hF : 3000 ≤ F) (h1 : s1 = 27 ∨ s1 = 31 ∨ s1 = 35) (h2 : s2 = 27 ∨ s2 = 31 ∨ s2 = 35) (hB : cBx M o l r b u) (hy : b ≤ y ∧ (y : Int) ≤ u) :
    ∃ q, lp_X7_differsFrom_19 F s1 s2 o (nI y) M F (nI l.toNat) = some q ∧ ((q = .inl () ∧ ∀ k, k < 960 → inB l r b u k → k / 40 = y → cPx M s1 k = cPx M s2 k) ∨ (q = .inr 1 ∧ ∃ k, k < 960 ∧ inB l r b u k ∧ cPx M s1 k ≠ cPx M s2 k)) := by
  obtain ⟨x1, x2, x3, x4, bl, bb, br, bu⟩ := hB
  refine run_loop (fun n (z : Int32) => lp_X7_differsFrom_19 F s1 s2 o (nI y) M n z) (fun i z => z = nI i ∧ l.toNat ≤ i ∧ ∀ k, k < 960 → inB l r b u k → k / 40 = y → k % 40 < i → cPx M s1 k = cPx M s2 k) _ (max l.toNat (r + 1).toNat) ?_ ?_ (max l.toNat (r + 1).toNat - l.toNat) l.toNat _ F (by omega) ⟨rfl, Nat.le_refl _, fun k hk h _ q => by unfold inB at h; omega⟩ (by omega)
  · rintro i z hi ⟨rfl, hl, k1⟩
    have hx : i < 40 := by omega
    have hc : ¬ gI M o 2 < nI i := by rw [a_lt x3 (n_int (by omega))]; omega
    have k9 : y * 40 + i < 960 := by omega
    obtain ⟨dv, md⟩ := div_rc (y := y) hx
    have inb : inB l r b u (y * 40 + i) := by unfold inB; rw [dv, md]; omega
    have head : ∀ rec, st_X7_differsFrom_19 F s1 s2 o (nI y) rec (nI i) M = if cPx M s1 (y * 40 + i) = cPx M s2 (y * 40 + i) then rec (nI (i + 1)) else some (.inr 1) := fun rec => by
      unfold st_X7_differsFrom_19
      rw [if_neg hc, i_40, n_m, n_a, bnd_d, gN_scr h1 (by omega) (by omega), gN_scr h1 (by omega) (by omega), gN_scr h1 (by omega) (by omega), gN_scr h2 (by omega) (by omega), gN_scr h2 (by omega) (by omega), gN_scr h2 (by omega) (by omega), n_in k9 (by omega), n_cl (by omega), bnd_d, i_1, n_a]
      simp only [grdT]
      unfold cPx
      by_cases e1 : gI M (s1 + 1) (y * 40 + i) = gI M (s2 + 1) (y * 40 + i)
      · by_cases e2 : gI M (s1 + 2) (y * 40 + i) = gI M (s2 + 2) (y * 40 + i)
        · by_cases e3 : gI M (s1 + 3) (y * 40 + i) = gI M (s2 + 3) (y * 40 + i)
          · rw [if_pos e1, if_pos e2, if_pos e3, if_pos (by rw [e1, e2, e3])]
          · rw [if_pos e1, if_pos e2, if_neg e3, if_neg (fun h => e3 (congrArg (fun z : Px => z.2.2) h))]
        · rw [if_pos e1, if_neg e2, if_neg (fun h => e2 (congrArg (fun z : Px => z.2.1) h))]
      · rw [if_neg e1, if_neg (fun h => e1 (congrArg (fun z : Px => z.1) h))]
    by_cases e : cPx M s1 (y * 40 + i) = cPx M s2 (y * 40 + i)
    · left
      refine ⟨nI (i + 1), ⟨rfl, by omega, fun k hk h hy9 q => ?_⟩, fun n => ?_⟩
      · rcases Nat.lt_or_ge (k % 40) i with q2 | q2
        · exact k1 k hk h hy9 q2
        · have : k = y * 40 + i := by omega
          rw [this]; exact e
      · show lp_X7_differsFrom_19 F s1 s2 o (nI y) M (n + 1) (nI i) = _
        rw [el_X7_differsFrom_19, head, if_pos e]
    · right
      refine ⟨.inr 1, Or.inr ⟨rfl, _, k9, inb, e⟩, fun n => ?_⟩
      show lp_X7_differsFrom_19 F s1 s2 o (nI y) M (n + 1) (nI i) = _
      rw [el_X7_differsFrom_19, head, if_neg e]
  · rintro z ⟨rfl, hl, k1⟩
    refine ⟨.inl (), Or.inl ⟨rfl, fun k hk h hy9 => k1 k hk h hy9 (by unfold inB at h; omega)⟩, fun n => ?_⟩
    show lp_X7_differsFrom_19 F s1 s2 o (nI y) M (n + 1) (nI _) = _
    rw [el_X7_differsFrom_19]
    unfold st_X7_differsFrom_19
    rw [if_pos (by rw [a_lt x3 (n_int (by omega))]; omega)]
theorem c_differs {M : GM} {F s1 s2 o : Nat} {l r b u : Int} (hF : 3000 ≤ F) (h1 : s1 = 27 ∨ s1 = 31 ∨ s1 = 35) (h2 : s2 = 27 ∨ s2 = 31 ∨ s2 = 35) (hB : cBx M o l r b u) :
    ∃ v, f_X7_differsFrom F s1 s2 o M = some v ∧ fl v (∃ k, k < 960 ∧ inB l r b u k ∧ cPx M s1 k ≠ cPx M s2 k) := by
  have hB0 := hB
  obtain ⟨x1, x2, x3, x4, bl, bb, br, bu⟩ := hB
  have e0 : gI M o 0 = nI l.toNat := n_of (by rw [x1]; omega)
  have e1 : gI M o 1 = nI b.toNat := n_of (by rw [x2]; omega)
  have L : ∃ q, lp_X7_differsFrom_5 F s1 s2 o M F (nI b.toNat) = some q ∧ ((q = .inl () ∧ ∀ k, k < 960 → inB l r b u k → cPx M s1 k = cPx M s2 k) ∨ (q = .inr 1 ∧ ∃ k, k < 960 ∧ inB l r b u k ∧ cPx M s1 k ≠ cPx M s2 k)) := by
    refine run_loop (fun n (z : Int32) => lp_X7_differsFrom_5 F s1 s2 o M n z) (fun i z => z = nI i ∧ b.toNat ≤ i ∧ ∀ k, k < 960 → inB l r b u k → k / 40 < i → cPx M s1 k = cPx M s2 k) _ (max b.toNat (u + 1).toNat) ?_ ?_ (max b.toNat (u + 1).toNat - b.toNat) b.toNat _ F (by omega) ⟨rfl, Nat.le_refl _, fun k hk h q => by unfold inB at h; omega⟩ (by omega)
    · rintro i z hi ⟨rfl, hl, k1⟩
      have hc : ¬ gI M o 3 < nI i := by rw [a_lt x4 (n_int (by omega))]; omega
      obtain ⟨q, q1, q2⟩ := c_diffRow (y := i) hF h1 h2 hB0 ⟨by omega, by omega⟩
      rcases q2 with ⟨rfl, q2⟩ | ⟨rfl, q2⟩
      · left
        refine ⟨nI (i + 1), ⟨rfl, by omega, fun k hk h q => ?_⟩, fun n => ?_⟩
        · rcases Nat.lt_or_ge (k / 40) i with w | w
          · exact k1 k hk h w
          · exact q2 k hk h (by omega)
        · show lp_X7_differsFrom_5 F s1 s2 o M (n + 1) (nI i) = lp_X7_differsFrom_5 F s1 s2 o M n (nI (i + 1))
          rw [el_X7_differsFrom_5]
          unfold st_X7_differsFrom_5
          rw [if_neg hc, e0, bnd_d, bndT_l _ _ q1, bnd_d, i_1, n_a]
      · right
        refine ⟨.inr 1, Or.inr ⟨rfl, q2⟩, fun n => ?_⟩
        show lp_X7_differsFrom_5 F s1 s2 o M (n + 1) (nI i) = _
        rw [el_X7_differsFrom_5]
        unfold st_X7_differsFrom_5
        rw [if_neg hc, e0, bnd_d, bndT_r _ _ q1]
    · rintro z ⟨rfl, hl, k1⟩
      refine ⟨.inl (), Or.inl ⟨rfl, fun k hk h => k1 k hk h (by unfold inB at h; omega)⟩, fun n => ?_⟩
      show lp_X7_differsFrom_5 F s1 s2 o M (n + 1) (nI _) = _
      rw [el_X7_differsFrom_5]
      unfold st_X7_differsFrom_5
      rw [if_pos (by rw [a_lt x4 (n_int (by omega))]; omega)]
  obtain ⟨q, q1, q2⟩ := L
  rcases q2 with ⟨rfl, q2⟩ | ⟨rfl, q2⟩
  · refine ⟨0, ?_, Or.inr ⟨rfl, fun h => ?_⟩⟩
    · unfold f_X7_differsFrom
      rw [e1, bnd_d, bndT_l _ _ q1]
    · obtain ⟨k, k1, k2, k3⟩ := h; exact k3 (q2 k k1 k2)
  · refine ⟨1, ?_, Or.inl ⟨rfl, q2⟩⟩
    unfold f_X7_differsFrom
    rw [e1, bnd_d, bndT_r _ _ q1]
theorem c_span {M : GM} {o : Nat} {i0 i1 i2 i3 : Int32} {x0 x1 x2 x3 : Int} (h0 : i0.toInt = x0) (h1 : i1.toInt = x1) (h2 : i2.toInt = x2) (h3 : i3.toInt = x3) (b0 : 0 ≤ x0 ∧ x0 ≤ 39) (b1 : 0 ≤ x1 ∧ x1 ≤ 23) (b2 : 0 ≤ x2 ∧ x2 ≤ 39) (b3 : 0 ≤ x3 ∧ x3 ≤ 23) :
    cBx (f_X0_span o i0 i1 i2 i3 M) o x0 x2 x1 x3 ∧ (∀ g k, g ≠ o → gI (f_X0_span o i0 i1 i2 i3 M) g k = gI M g k) ∧ (f_X0_span o i0 i1 i2 i3 M).2 = M.2 := by
  have m0 := a_max (show (0 : Int32).toInt = 0 from rfl) h0
  have m1 := a_max (show (0 : Int32).toInt = 0 from rfl) h1
  have m2 := a_min (show (39 : Int32).toInt = 39 from rfl) h2
  have m3 := a_min (show (23 : Int32).toInt = 23 from rfl) h3
  unfold f_X0_span
  simp only [bnd_d]
  refine ⟨⟨?_, ?_, ?_, ?_, b0, b1, b2, b3⟩, fun g k h => ?_, rfl⟩
  · simp only [gI_sI]; simp; rw [m0]; omega
  · simp only [gI_sI]; simp; rw [m1]; omega
  · simp only [gI_sI]; simp; rw [m2]; omega
  · simp only [gI_sI]; simp; rw [m3]; omega
  · simp only [gI_sI, h, false_and, if_false]
theorem c_spanTile {M : GM} {t : Nat} (ht : t < 15) :
    cBx (f_X10_spanTile (nI t) M) 43 (8 * (t % 5 : Nat)) (8 * (t % 5 : Nat) + 7) (8 * (t / 5 : Nat)) (8 * (t / 5 : Nat) + 7) ∧ (∀ g k, g ≠ 43 → gI (f_X10_spanTile (nI t) M) g k = gI M g k) ∧ (f_X10_spanTile (nI t) M).2 = M.2 := by
  have k5 : (5 : Int32).toInt = 5 := rfl
  have k8 : (8 : Int32).toInt = 8 := rfl
  have k1 : (1 : Int32).toInt = 1 := rfl
  have e0 : (nI t).toInt = t := n_int (by omega)
  have a0 := a_mul (a_mod e0 k5 (by omega) (by omega)) k8 (by omega) (by omega)
  have a1 := a_mul (a_div e0 k5 (by omega) (by omega)) k8 (by omega) (by omega)
  have a2 := a_sub (a_add a0 k8 (by omega) (by omega)) k1 (by omega) (by omega)
  have a3 := a_sub (a_add a1 k8 (by omega) (by omega)) k1 (by omega) (by omega)
  have h := c_span (M := M) (o := 43) a0 a1 a2 a3 (by omega) (by omega) (by omega) (by omega)
  unfold f_X10_spanTile
  simp only [bnd_d]
  refine ⟨?_, h.2⟩
  have h1 := h.1
  rw [show ((t : Int) % 5 * 8 + 8 - 1) = 8 * (t % 5 : Nat) + 7 by omega, show ((t : Int) / 5 * 8 + 8 - 1) = 8 * (t / 5 : Nat) + 7 by omega, show ((t : Int) % 5 * 8) = 8 * (t % 5 : Nat) by omega, show ((t : Int) / 5 * 8) = 8 * (t / 5 : Nat) by omega] at h1
  exact h1
theorem inB_tile {t k : Nat} (ht : t < 15) (hk : k < 960) : inB (8 * (t % 5 : Nat)) (8 * (t % 5 : Nat) + 7) (8 * (t / 5 : Nat)) (8 * (t / 5 : Nat) + 7) k ↔ tOf k = t := by
  unfold inB tOf; omega
theorem c_staleTile {M : GM} {F t : Nat} (hF : 3000 ≤ F) (ht : t < 15) : ∃ v, f_X7_differsFrom F 31 27 43 (f_X10_spanTile (nI t) M) = some v ∧ fl v (dTile (cPx M 31) (cPx M 27) t = true) := by
  obtain ⟨h1, h2, h3⟩ := c_spanTile (M := M) ht
  obtain ⟨v, v1, v2⟩ := c_differs (F := F) (s1 := 31) (s2 := 27) hF (by omega) (by omega) h1
  have e : ∀ s k, (s = 27 ∨ s = 31) → cPx (f_X10_spanTile (nI t) M) s k = cPx M s k := fun s k hs => by
    unfold cPx; rw [h2 _ _ (by omega), h2 _ _ (by omega), h2 _ _ (by omega)]
  refine ⟨v, v1, v2.congr ?_⟩
  rw [dTile_iff]
  constructor
  · rintro ⟨k, k1, k2, k3⟩
    exact ⟨k, k1, (inB_tile ht k1).mp k2, by rw [e _ _ (by omega), e _ _ (by omega)] at k3; exact k3⟩
  · rintro ⟨k, k1, k2, k3⟩
    exact ⟨k, k1, (inB_tile ht k1).mpr k2, by rw [e _ _ (by omega), e _ _ (by omega)]; exact k3⟩
theorem c_countStale {M : GM} {F : Nat} (hF : 3000 ≤ F) :
    ∃ M', f_X10_countStaleTiles F M = some (nI (cntB (dTile (cPx M 31) (cPx M 27)) 15), M') ∧ (∀ g k, g ≠ 43 → gI M' g k = gI M g k) ∧ M'.2 = M.2 := by
  have L : ∃ q : Int32 × GM, lp_X10_countStaleTiles_4 F F 0 0 M = some q ∧ (q.1 = nI (cntB (dTile (cPx M 31) (cPx M 27)) 15) ∧ (∀ g k, g ≠ 43 → gI q.2 g k = gI M g k) ∧ q.2.2 = M.2) := by
    refine run_up (fun n (z : Int32 × Int32 × GM) => lp_X10_countStaleTiles_4 F n z.1 z.2.1 z.2.2) (fun i z => z.2.1 = nI i ∧ z.1 = nI (cntB (dTile (cPx M 31) (cPx M 27)) i) ∧ (∀ g k, g ≠ 43 → gI z.2.2 g k = gI M g k) ∧ z.2.2.2 = M.2) _ 0 15 F (by omega) (by omega) (s := (0, 0, M)) ⟨rfl, rfl, fun _ _ _ => rfl, rfl⟩ ?_ ?_
    · rintro i ⟨a, x, M1⟩ - hi ⟨rfl, rfl, k1, k2⟩
      obtain ⟨v, v1, v2⟩ := c_staleTile (M := M1) hF hi
      obtain ⟨-, h2, h3⟩ := c_spanTile (M := M1) hi
      have e : ∀ s k, (s = 27 ∨ s = 31) → cPx M1 s k = cPx M s k := fun s k hs => by
        unfold cPx; rw [k1 _ _ (by omega), k1 _ _ (by omega), k1 _ _ (by omega)]
      rw [dTile_congr (f' := cPx M 31) (g' := cPx M 27) (fun k _ => e 31 k (by omega)) (fun k _ => e 27 k (by omega))] at v2
      have hc : ¬ (15 : Int32) ≤ nI i := by rw [i_15, n_le (by omega) (by omega)]; omega
      refine ⟨(nI (cntB (dTile (cPx M 31) (cPx M 27)) (i + 1)), nI (i + 1), f_X10_spanTile (nI i) M1), ⟨rfl, rfl, fun g k h => (h2 g k h).trans (k1 g k h), h3.trans k2⟩, fun n => ?_⟩
      show lp_X10_countStaleTiles_4 F (n + 1) (nI (cntB (dTile (cPx M 31) (cPx M 27)) i)) (nI i) M1 = lp_X10_countStaleTiles_4 F n (nI (cntB (dTile (cPx M 31) (cPx M 27)) i + if dTile (cPx M 31) (cPx M 27) i = true then 1 else 0)) (nI (i + 1)) (f_X10_spanTile (nI i) M1)
      rw [el_X10_countStaleTiles_4]
      unfold st_X10_countStaleTiles_4
      rw [if_neg hc, bnd_d, bndO_s _ v1]
      rcases v2 with ⟨rfl, v2⟩ | ⟨rfl, v2⟩
      · rw [if_neg (by decide), if_pos v2, bnd_d, bnd_d, i_1, n_a, n_a]
      · rw [if_pos rfl, if_neg v2, bnd_d, i_1, n_a] <;> rfl
    · rintro ⟨a, x, M1⟩ ⟨rfl, rfl, k1, k2⟩
      refine ⟨(_, M1), ⟨rfl, k1, k2⟩, fun n => ?_⟩
      show lp_X10_countStaleTiles_4 F (n + 1) _ (nI 15) M1 = _
      rw [el_X10_countStaleTiles_4]
      unfold st_X10_countStaleTiles_4
      rw [if_pos (by decide)] <;> rfl
  obtain ⟨⟨a, M'⟩, e, rfl, h⟩ := L
  refine ⟨M', ?_, h⟩
  unfold f_X10_countStaleTiles
  rw [bnd_d, bnd_d, bndO_s _ e]
/-- the class keeps P, and its box of the whole screen -/
def CS (P : PM) (M : GM) : Prop := CV P M ∧ cBx M 42 0 39 0 23
/-- what the asking may change of the class's cells -/
def cqS (g k : Nat) : Prop := (g = 6 ∧ k = 3) ∨ (8 ≤ g ∧ g ≤ 26) ∨ (32 ≤ g ∧ g ≤ 41) ∨ g = 43
theorem CS.to {P : PM} {M M' : GM} (h : CS P M) (f : ∀ g k, ¬ cqS g k → gI M' g k = gI M g k) : CS P M' :=
  ⟨h.1.to fun g k q => f g k (by unfold cvS at q; unfold cqS; omega), h.2.to fun k => f _ _ (by unfold cqS; omega)⟩
theorem inB_all {k : Nat} (hk : k < 960) : inB 0 39 0 23 k := by unfold inB; omega
/-- all drawn now, on a screen of the class -/
theorem c_drawAll {P : PM} {M : GM} {F s : Nat} {wo : Int32} (hF : 3000 ≤ F) (hO : OK P) (hC : CS P M) (hs : s = 31 ∨ s = 35) :
    ∃ M', f_X10_draw F s 42 wo M = some M' ∧ (∀ k, k < 960 → cPx M' s k = sPix P wo (sN P) k) ∧ (∀ g k, ¬ cdI s g k → gI M' g k = gI M g k) ∧ (∀ g k, ¬ (g = 17 ∨ g = 22) → gL M' g k = gL M g k) := by
  obtain ⟨h1, h2, -, -⟩ := sN_of hO
  obtain ⟨M', e, x, f, l⟩ := c_draw (F := F) (wo := wo) hF hO hC.1 h1 h2 hs (Or.inl rfl) hC.2
  exact ⟨M', e, fun k hk => (x k hk).1 (inB_all hk), f, l⟩
theorem c_pic {P : PM} {M : GM} (hC : CV P M) : ∀ k, k < 960 → cPx M 27 k = pPx P k := fun k hk => by
  obtain ⟨h1, h2, h3⟩ := hC.2.2.2.2.2 k hk
  unfold cPx pPx
  rw [show 27 + 1 = 28 from rfl, show 27 + 2 = 29 from rfl, show 27 + 3 = 30 from rfl, h1, h2, h3]
theorem c_look0 {P : PM} {M : GM} {F : Nat} (hF : 3000 ≤ F) (hO : OK P) (hC : CS P M) :
    ∃ M1 M2, f_X10_draw F 31 42 (-1) M = some M1 ∧ f_X10_countStaleTiles F M1 = some (nI (sStale P), M2) ∧ (∀ k, k < 960 → cPx M2 31 k = nPx P k) ∧ (∀ g k, ¬ cqS g k → gI M2 g k = gI M g k) ∧ (∀ g k, ¬ (g = 17 ∨ g = 22) → gL M2 g k = gL M g k) := by
  obtain ⟨M1, e1, x1, f1, l1⟩ := c_drawAll (s := 31) (wo := -1) hF hO hC (by omega)
  have hC1 : CS P M1 := hC.to fun g k h => f1 g k (by unfold cqS at h; unfold cdI fsI; omega)
  obtain ⟨M2, e2, f2, l2⟩ := c_countStale (M := M1) hF
  refine ⟨M1, M2, e1, ?_, fun k hk => ?_, fun g k h => ?_, fun g k h => ?_⟩
  · rw [e2]
    unfold sStale
    rw [cntB_congr fun t _ => dTile_congr (f' := nPx P) (g' := pPx P) x1 (c_pic hC1.1)]
  · rw [← show cPx M1 31 k = nPx P k from x1 k hk]
    unfold cPx; rw [f2 _ _ (by omega), f2 _ _ (by omega), f2 _ _ (by omega)]
  · rw [f2 g k (by unfold cqS at h; omega), f1 g k (by unfold cqS at h; unfold cdI fsI; omega)]
  · rw [← l1 g k h]; show M2.2.1 g k = M1.2.1 g k; rw [l2]
