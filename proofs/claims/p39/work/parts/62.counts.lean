/-! PURE PART: how many pieces are drawn, how many points they have -/
def sLies (P : PM) (p k : Nat) : Bool := sLq P p 0 (k % 40) (k / 40) || sLq P p 1 (k % 40) (k / 40)
def sPoints (P : PM) (p : Nat) : Nat := cntB (sLies P p) 960
def sDrawn (P : PM) (p q : Nat) : Nat := match sPcs P p q with
  | some _ => 1
  | none => 0
def sPieces (P : PM) (p : Nat) : Nat := sDrawn P p 0 + sDrawn P p 1
theorem c_firstBool {P : PM} {M : GM} {F p k : Nat} (hF : 3000 ≤ F) (hO : OK P) (hS : cShape P M p) (hk : k < 960) :
    ∃ v M', f_X8_firstPieceAt F (nI (k % 40)) (nI (k / 40)) M = some (v, M') ∧ (v = -1 ↔ sLies P p k = false) ∧ cShape P M' p ∧ M'.1 = M.1 := by
  obtain ⟨v, M', e, h, s, f, -⟩ := c_firstPiece (F := F) (x := k % 40) (y := k / 40) hF hO hS (by omega) (by omega)
  refine ⟨v, M', e, ?_, s, f⟩
  unfold sLies
  rcases h with ⟨q, t, hq, rfl, -, -, -, h1, h2⟩ | ⟨rfl, h1, h2⟩
  · have ne : ¬ nI q = -1 := fun h => by
      have := congrArg Int32.toInt h
      rw [n_int (by omega)] at this
      have e : (-1 : Int32).toInt = -1 := by decide
      omega
    refine ⟨fun h => absurd h ne, fun h => ?_⟩
    rw [Bool.or_eq_false_iff] at h
    rcases (show q = 0 ∨ q = 1 by omega) with rfl | rfl
    · rw [h.1] at h1; cases h1
    · rw [h.2] at h1; cases h1
  · refine ⟨fun _ => by rw [h1, h2]; rfl, fun _ => rfl⟩
theorem c_pointsLoop {P : PM} {M : GM} {F p : Nat} (hF : 3000 ≤ F) (hO : OK P) (hS : cShape P M p) :
    ∃ M', lp_X10_pointsOf_14 F F 0 0 M = some (nI (sPoints P p), M') ∧ M'.1 = M.1 := by
  have row : ∀ (y : Nat) (M0 : GM), y < 24 → cShape P M0 p → ∃ q : Int32 × GM, lp_X10_pointsOf_23 F (nI y) F (nI (cntB (sLies P p) (y * 40))) 0 M0 = some q ∧ (q.1 = nI (cntB (sLies P p) ((y + 1) * 40)) ∧ cShape P q.2 p ∧ q.2.1 = M0.1) := fun y M0 hy hS0 => by
    refine run_up (fun n (s : Int32 × Int32 × GM) => lp_X10_pointsOf_23 F (nI y) n s.1 s.2.1 s.2.2) (fun i s => s.2.1 = nI i ∧ s.1 = nI (cntB (sLies P p) (y * 40 + i)) ∧ cShape P s.2.2 p ∧ s.2.2.1 = M0.1) _ 0 40 F (by omega) (by omega) (s := (nI (cntB (sLies P p) (y * 40)), 0, M0)) ⟨rfl, rfl, hS0, rfl⟩ ?_ ?_
    · rintro i ⟨a, x, M1⟩ - hi ⟨rfl, rfl, k1, k2⟩
      obtain ⟨dv, md⟩ := div_rc (y := y) hi
      obtain ⟨v, M2, e, e2, s2, f2⟩ := c_firstBool (F := F) (k := y * 40 + i) hF hO k1 (by omega)
      rw [dv, md] at e
      refine ⟨(nI (cntB (sLies P p) (y * 40 + (i + 1))), nI (i + 1), M2), ⟨rfl, rfl, s2, f2.trans k2⟩, fun n => ?_⟩
      show lp_X10_pointsOf_23 F (nI y) (n + 1) (nI (cntB (sLies P p) (y * 40 + i))) (nI i) M1 = lp_X10_pointsOf_23 F (nI y) n (nI (cntB (sLies P p) (y * 40 + i) + if sLies P p (y * 40 + i) = true then 1 else 0)) (nI (i + 1)) M2
      rw [el_X10_pointsOf_23]
      unfold st_X10_pointsOf_23
      rw [if_neg (by rw [i_40, n_le (by omega) (by omega)]; omega), bndO_s _ e]
      show (if v = -1 then _ else _) = _
      by_cases c : sLies P p (y * 40 + i) = true
      · rw [if_neg (fun h => by rw [e2.mp h] at c; cases c), if_pos c, bnd_d, bnd_d, i_1, n_a, n_a]
      · rw [if_pos (e2.mpr (Bool.eq_false_iff.mpr c)), if_neg c, bnd_d, i_1, n_a] <;> rfl
    · rintro ⟨a, x, M1⟩ ⟨rfl, rfl, k1, k2⟩
      refine ⟨(nI (cntB (sLies P p) (y * 40 + 40)), M1), ⟨by show nI _ = nI _; rw [Nat.add_mul, Nat.one_mul], k1, k2⟩, fun n => ?_⟩
      show lp_X10_pointsOf_23 F (nI y) (n + 1) _ (nI 40) M1 = _
      rw [el_X10_pointsOf_23]
      unfold st_X10_pointsOf_23
      rw [if_pos (by decide)] <;> rfl
  have L : ∃ q : Int32 × GM, lp_X10_pointsOf_14 F F 0 0 M = some q ∧ (q.1 = nI (sPoints P p) ∧ q.2.1 = M.1) := by
    refine run_up (fun n (s : Int32 × Int32 × GM) => lp_X10_pointsOf_14 F n s.1 s.2.1 s.2.2) (fun i s => s.2.1 = nI i ∧ s.1 = nI (cntB (sLies P p) (i * 40)) ∧ cShape P s.2.2 p ∧ s.2.2.1 = M.1) _ 0 24 F (by omega) (by omega) (s := (0, 0, M)) ⟨rfl, rfl, hS, rfl⟩ ?_ ?_
    · rintro i ⟨a, x, M1⟩ - hi ⟨rfl, rfl, k1, k2⟩
      obtain ⟨⟨b, M2⟩, e, rfl, s2, f2⟩ := row i M1 hi k1
      refine ⟨(nI (cntB (sLies P p) ((i + 1) * 40)), nI (i + 1), M2), ⟨rfl, rfl, s2, f2.trans k2⟩, fun n => ?_⟩
      show lp_X10_pointsOf_14 F (n + 1) (nI (cntB (sLies P p) (i * 40))) (nI i) M1 = lp_X10_pointsOf_14 F n (nI (cntB (sLies P p) ((i + 1) * 40))) (nI (i + 1)) M2
      rw [el_X10_pointsOf_14]
      unfold st_X10_pointsOf_14
      rw [if_neg (by rw [i_24, n_le (by omega) (by omega)]; omega), bnd_d, bndO_s _ e]
      show bnd (nI i + 1) _ = _
      rw [bnd_d, i_1, n_a]
    · rintro ⟨a, x, M1⟩ ⟨rfl, rfl, k1, k2⟩
      refine ⟨(_, M1), ⟨rfl, k2⟩, fun n => ?_⟩
      show lp_X10_pointsOf_14 F (n + 1) _ (nI 24) M1 = _
      rw [el_X10_pointsOf_14]
      unfold st_X10_pointsOf_14
      rw [if_pos (by decide)] <;> rfl
  obtain ⟨⟨a, M'⟩, e, rfl, f⟩ := L
  exact ⟨M', e, f⟩
theorem c_piecesLoop {P : PM} {M : GM} {F p : Nat} (hF : 3000 ≤ F) (hS : cShape P M p) : lp_X10_piecesOf_27 F 2 F 0 0 M = some (nI (sPieces P p), M) := by
  have st : ∀ q n, q < 2 → ∀ rec : Int32 → Int32 → GM → Option (Int32 × GM), st_X10_piecesOf_27 F 2 rec (nI n) (nI q) M = rec (nI (n + sDrawn P p q)) (nI (q + 1)) M := fun q n hq rec => by
    have h := hS.pq hq
    unfold cPq at h
    unfold st_X10_piecesOf_27 sDrawn
    rw [if_neg (by rw [i_2, n_le (by omega) (by omega)]; omega), gn_16, grd_t (n_in hq (by omega)), bnd_d, n_cl (by omega), gr_16]
    cases hP : sPcs P p q with
    | none =>
      rw [hP] at h
      rw [if_pos h, bnd_d, i_1, n_a]; rfl
    | some t =>
      rw [hP] at h
      rw [if_neg (by rw [h.1]; decide), bnd_d, bnd_d, i_1, n_a, n_a]
  obtain ⟨m, hm⟩ : ∃ m, F = m + 3 := ⟨F - 3, by omega⟩
  have el : ∀ f a i M, lp_X10_piecesOf_27 F 2 (f + 1) a i M = st_X10_piecesOf_27 F 2 (lp_X10_piecesOf_27 F 2 f) a i M := fun f a i M => rfl
  generalize hX : lp_X10_piecesOf_27 F 2 = X at el
  conv => lhs; rw [hm]
  show X (m + 2 + 1) (nI 0) (nI 0) M = _
  rw [el, st 0 0 (by omega), el, st 1 _ (by omega), el]
  unfold st_X10_piecesOf_27
  rw [if_pos (by decide), Nat.zero_add]; rfl
theorem cntB_up {f g : Nat → Bool} {n j : Nat} (hj : j < n) (h : ∀ k, k ≠ j → f k = g k) (f0 : f j = false) (g1 : g j = true) : cntB g n = cntB f n + 1 := by
  induction n with
  | zero => omega
  | succ n ih =>
    unfold cntB
    rcases Nat.lt_or_ge j n with q | q
    · rw [ih q, h n (by omega)]; omega
    · have : j = n := by omega
      subst this
      rw [f0, g1, cntB_congr (f := g) (g := f) fun k hk => (h k (by omega)).symm]
      simp
theorem cntB_ff (n : Nat) : cntB (fun _ => false) n = 0 := by
  induction n with
  | zero => rfl
  | succ n ih => unfold cntB; rw [ih]; rfl
