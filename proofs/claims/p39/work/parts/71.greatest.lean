/-! PURE PART: the pane with the most points -/
theorem sPt_own (P : PM) (i k : Nat) (t : V × V × V) (p : Px) : (sPt P i t k p).2.2 = p.2.2 ∨ (sPt P i t k p).2.2 = nI i := by
  unfold sPt
  by_cases h : sHit P t k p
  · rw [if_pos h]
    by_cases c : P 132 i = 0
    · rw [if_pos c]; exact Or.inr rfl
    · rw [if_neg c]; exact Or.inl rfl
  · rw [if_neg h]; exact Or.inl rfl
theorem sPq_own (P : PM) (i q k : Nat) (p : Px) : (sPq P i q k p).2.2 = p.2.2 ∨ (sPq P i q k p).2.2 = nI i := by
  unfold sPq
  cases sPcs P i q with
  | none => exact Or.inl rfl
  | some t => exact sPt_own P i k t p
theorem sP2_own (P : PM) (i k : Nat) (p : Px) : (sP2 P i k p).2.2 = p.2.2 ∨ (sP2 P i k p).2.2 = nI i := by
  unfold sP2
  rcases sPq_own P i 1 k (sPq P i 0 k p) with h | h
  · rw [h]; exact sPq_own P i 0 k p
  · exact Or.inr h
theorem sPix_own (P : PM) (wo : Int32) (k : Nat) : ∀ i, (sPix P wo i k).2.2 = -1 ∨ ∃ j, j < i ∧ (sPix P wo i k).2.2 = nI j := by
  intro i
  induction i with
  | zero => exact Or.inl rfl
  | succ i ih =>
    have up : ((sPix P wo i k).2.2 = -1 ∨ ∃ j, j < i ∧ (sPix P wo i k).2.2 = nI j) → (sPix P wo i k).2.2 = -1 ∨ ∃ j, j < i + 1 ∧ (sPix P wo i k).2.2 = nI j := fun h => by
      rcases h with h | ⟨j, h1, h2⟩
      · exact Or.inl h
      · exact Or.inr ⟨j, by omega, h2⟩
    unfold sPix
    split
    · exact up ih
    · rcases sP2_own P i k (sPix P wo i k) with h | h
      · rw [h]; exact up ih
      · exact Or.inr ⟨i, by omega, h⟩
def sOwn (P : PM) (i k : Nat) : Bool := decide ((nPx P k).2.2 = nI i)
def sCnt9 (P : PM) (i : Nat) : Nat := cntB (sOwn P i) 960
def sGr (P : PM) : Nat → Int32 × Nat
  | 0 => (-1, 0)
  | i + 1 => if (sGr P i).2 < sCnt9 P i then (nI i, sCnt9 P i) else sGr P i
theorem sCnt9_0 {P : PM} (hO : OK P) {i : Nat} (h : sN P ≤ i) (h2 : i < 1000) : sCnt9 P i = 0 := by
  obtain ⟨-, n2, -, -⟩ := sN_of hO
  unfold sCnt9
  rw [cntB_congr (g := fun _ => false) fun k _ => ?_, cntB_ff]
  unfold sOwn
  rw [decide_eq_false_iff_not]
  intro q
  rcases sPix_own P (-1) k (sN P) with h3 | ⟨j, h3, h4⟩
  · have := h3.symm.trans q
    have := congrArg Int32.toInt this
    rw [n_int (by omega), tv_m1] at this
    omega
  · have := h4.symm.trans q
    rw [n_eq (by omega) (by omega)] at this
    omega
theorem sGr_stop {P : PM} (hO : OK P) : ∀ d, sN P + d ≤ 30 → sGr P (sN P + d) = sGr P (sN P) := by
  intro d
  induction d with
  | zero => intro _; rfl
  | succ d ih =>
    intro h
    show (if (sGr P (sN P + d)).2 < sCnt9 P (sN P + d) then _ else sGr P (sN P + d)) = _
    rw [sCnt9_0 hO (by omega) (by omega), if_neg (by omega)]
    exact ih (by omega)
theorem sGr_le (P : PM) : ∀ i, (sGr P i).2 ≤ 960 := by
  intro i
  induction i with
  | zero => exact Nat.zero_le _
  | succ i ih =>
    unfold sGr
    split
    · exact cntB_le _ _
    · exact ih
theorem c_fill {M : GM} {F p : Nat} {a : Int32} (hF : 3000 ≤ F) (hp : gN p ≤ 2048) : ∃ M', f_J7_fill_53178 F p a M = some M' ∧ (∀ k, k < gN p → gI M' p k = a) ∧ (∀ g k, g ≠ p → gI M' g k = gI M g k) ∧ M'.2 = M.2 := by
  have L : ∃ M', lp_J7_fill_53178_5 F p a (nI (gN p)) F 0 M = some M' ∧ ((∀ k, k < gN p → gI M' p k = a) ∧ (∀ g k, g ≠ p → gI M' g k = gI M g k) ∧ M'.2 = M.2) := by
    refine run_up (fun n (s : Int32 × GM) => lp_J7_fill_53178_5 F p a (nI (gN p)) n s.1 s.2) (fun i s => s.1 = nI i ∧ (∀ k, k < i → gI s.2 p k = a) ∧ (∀ g k, g ≠ p → gI s.2 g k = gI M g k) ∧ s.2.2 = M.2) _ 0 (gN p) F (by omega) (by omega) (s := (0, M)) ⟨rfl, fun k h => absurd h (by omega), fun _ _ _ => rfl, rfl⟩ ?_ ?_
    · rintro i ⟨x, M1⟩ - hi ⟨rfl, k1, k2, k3⟩
      refine ⟨(nI (i + 1), sI M1 p i a), ⟨rfl, fun k hk => ?_, fun g k h => ?_, k3⟩, fun n => ?_⟩
      · rw [gI_sI]
        by_cases q : k = i
        · rw [if_pos ⟨rfl, q⟩]
        · rw [if_neg (fun h => q h.2)]; exact k1 k (by omega)
      · rw [gI_sI, if_neg (fun q => h q.1)]; exact k2 g k h
      · show lp_J7_fill_53178_5 F p a (nI (gN p)) (n + 1) (nI i) M1 = _
        rw [el_J7_fill_53178_5]
        unfold st_J7_fill_53178_5
        rw [if_neg (by rw [n_le (by omega) (by omega)]; omega), grd_t (n_in hi (by omega)), bnd_d, n_cl (by omega), bnd_d, i_1, n_a]
    · rintro ⟨x, M1⟩ ⟨rfl, k1, k2, k3⟩
      refine ⟨M1, ⟨k1, k2, k3⟩, fun n => ?_⟩
      show lp_J7_fill_53178_5 F p a (nI (gN p)) (n + 1) (nI (gN p)) M1 = _
      rw [el_J7_fill_53178_5]
      unfold st_J7_fill_53178_5
      rw [if_pos (by rw [n_le (by omega) (by omega)]; exact Nat.le_refl _)]
  obtain ⟨M', e, h⟩ := L
  refine ⟨M', ?_, h⟩
  unfold f_J7_fill_53178
  rw [bnd_d, bnd_d, bndO_s _ (show lp_J7_fill_53178_5 F p a (Int32.ofNat (gN p)) F 0 M = some M' from e)]
theorem c_hist {P : PM} {M : GM} {F : Nat} (hF : 3000 ≤ F) (hx : ∀ k, k < 960 → gI M 34 k = (nPx P k).2.2) (hz : ∀ i, i < 30 → gI M 41 i = 0) : ∃ M', lp_X10_greatest_34 F 960 F 0 M = some M' ∧ (∀ i, i < 30 → gI M' 41 i = nI (sCnt9 P i)) ∧ (∀ g k, g ≠ 41 → gI M' g k = gI M g k) ∧ M'.2 = M.2 := by
  refine run_up (fun n (s : Int32 × GM) => lp_X10_greatest_34 F 960 n s.1 s.2) (fun m s => s.1 = nI m ∧ (∀ i, i < 30 → gI s.2 41 i = nI (cntB (sOwn P i) m)) ∧ (∀ g k, g ≠ 41 → gI s.2 g k = gI M g k) ∧ s.2.2 = M.2) _ 0 960 F (by omega) (by omega) (s := (0, M)) ⟨rfl, fun i h => hz i h, fun _ _ _ => rfl, rfl⟩ ?_ ?_
  · rintro m ⟨x, M1⟩ - hm ⟨rfl, k1, k2, k3⟩
    have ev : gI M1 34 m = (nPx P m).2.2 := (k2 34 m (by omega)).trans (hx m hm)
    have head : ∀ rec, st_X10_greatest_34 F 960 rec (nI m) M1 = if inR (nPx P m).2.2 0 29 then (grd (gIn (nPx P m).2.2 30) (rec (nI (m + 1)) (sI M1 41 (nPx P m).2.2.toNatClampNeg ((gI M1 41 (nPx P m).2.2.toNatClampNeg) + (1 : Int32))))) else rec (nI (m + 1)) M1 := fun rec => by
      unfold st_X10_greatest_34
      rw [if_neg (by rw [i_960, n_le (by omega) (by omega)]; omega), gn_34, gn_41, grd_t (n_in hm (by omega)), bnd_d, n_cl (by omega), ev, w_in _ tv_0 (show (29 : Int32).toInt = 29 from rfl), one_if, show (nI m + 1 : Int32) = nI (m + 1) from n_a m 1]
      by_cases c : inR (nPx P m).2.2 0 29
      · rw [if_pos c, if_pos c]
        cases gIn (nPx P m).2.2 30 <;> rfl
      · rw [if_neg c, if_neg c]; rfl
    have step : ∀ n, lp_X10_greatest_34 F 960 (n + 1) (nI m) M1 = st_X10_greatest_34 F 960 (lp_X10_greatest_34 F 960 n) (nI m) M1 := fun n => rfl
    by_cases c : inR (nPx P m).2.2 0 29
    · have c' := c
      obtain ⟨j, ej, hj⟩ := in_nat' c (by omega)
      have j30 : j < 30 := by omega
      refine ⟨(nI (m + 1), sI M1 41 j (gI M1 41 j + 1)), ⟨rfl, fun i hi => ?_, fun g k h => ?_, k3⟩, fun n => ?_⟩
      · rw [gI_sI]
        by_cases q : i = j
        · subst q
          rw [if_pos ⟨rfl, rfl⟩, k1 i hi]
          show nI _ + 1 = nI (cntB (sOwn P i) m + if sOwn P i m = true then 1 else 0)
          rw [if_pos (show sOwn P i m = true from decide_eq_true ej), i_1, n_a]
        · rw [if_neg (fun h => q h.2), k1 i hi]
          show nI _ = nI (cntB (sOwn P i) m + if sOwn P i m = true then 1 else 0)
          rw [if_neg]
          · rfl
          show ¬ decide _ = true
          rw [decide_eq_true_eq, ej, n_eq (by omega) (by omega)]
          exact fun h => q h.symm
      · rw [gI_sI, if_neg (by omega)]; exact k2 g k h
      · refine (step n).trans ?_
        rw [head, if_pos c', ej, grd_t (n_in j30 (by omega)), n_cl (by omega)]
    · refine ⟨(nI (m + 1), M1), ⟨rfl, fun i hi => ?_, k2, k3⟩, fun n => ?_⟩
      · rw [k1 i hi]
        show nI _ = nI (cntB (sOwn P i) m + if sOwn P i m = true then 1 else 0)
        rw [if_neg]
        · rfl
        show ¬ decide _ = true
        rw [decide_eq_true_eq]
        intro h
        apply c
        unfold inR
        rw [h, n_int (by omega)]; omega
      · refine (step n).trans ?_
        rw [head, if_neg c]
  · rintro ⟨x, M1⟩ ⟨rfl, k1, k2, k3⟩
    refine ⟨M1, ⟨k1, k2, k3⟩, fun n => ?_⟩
    show lp_X10_greatest_34 F 960 (n + 1) (nI 960) M1 = _
    rw [el_X10_greatest_34]
    unfold st_X10_greatest_34
    rw [if_pos (by decide)]
