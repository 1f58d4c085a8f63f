/-! PURE PART: calls that ask for steps on the way -/
def cQ (P : PM) (M M' : GM) : Prop := CS P M' ∧ ∀ g k, 122 ≤ g → gI M' g k = gI M g k
theorem cQ.of {P : PM} {M M' : GM} (hC : CS P M) (f : ∀ g k, ¬ cqS g k → gI M' g k = gI M g k) : cQ P M M' := ⟨hC.to f, fun g k h => f g k (by unfold cqS; omega)⟩
theorem cQ.fs {P : PM} {M M' : GM} (hC : CS P M) (f : ∀ g k, ¬ fsI g k → gI M' g k = gI M g k) : cQ P M M' := cQ.of hC fun g k h => f g k (by unfold cqS at h; unfold fsI; omega)
theorem cQ.tr {P : PM} {M M1 M2 : GM} (h1 : cQ P M M1) (h2 : cQ P M1 M2) : cQ P M M2 := ⟨h2.1, fun g k h => (h2.2 g k h).trans (h1.2 g k h)⟩
theorem cQ.rf {P : PM} {M : GM} (hC : CS P M) : cQ P M M := ⟨hC, fun _ _ _ => rfl⟩
theorem cQ.eq {P : PM} {M M' : GM} (hC : CS P M) (f : M'.1 = M.1) : cQ P M M' := cQ.of hC fun g k _ => by show M'.1 g k = M.1 g k; rw [f]
theorem cq_polygonOf {P : PM} {M : GM} {F p : Nat} (hF : 3000 ≤ F) (hO : OK P) (hC : CS P M) (hp : p < sN P) : ∃ M', f_X10_polygonOf F (nI p) M = some (.inr (nI (sPane P p).length, M')) ∧ cQ P M M' := by
  obtain ⟨n1, n2, -, -⟩ := sN_of hO
  obtain ⟨M', e, s, f, -⟩ := c_formShape (F := F) hF hO hC.1 (show p < 30 by omega)
  refine ⟨M', ?_, cQ.fs hC f⟩
  unfold f_X10_polygonOf
  rw [c_reqPane hO hC.1, if_pos (show inR (nI p) 0 _ by unfold inR; rw [n_int (by omega)]; omega), bndTr, bndO_s _ e, s.1]
theorem pane_in {P : PM} {a : Int32} (hO : OK P) (h : inR a 0 ((sN P : Int) - 1)) : ∃ p, a = nI p ∧ p < sN P ∧ p < 30 := by
  obtain ⟨n1, n2, -, -⟩ := sN_of hO
  obtain ⟨p, e, hp⟩ := in_nat h
  exact ⟨p, e, hp, by omega⟩
theorem in_pane {P : PM} {p : Nat} (hO : OK P) (h : p < sN P) : inR (nI p) 0 ((sN P : Int) - 1) := by
  obtain ⟨n1, n2, -, -⟩ := sN_of hO
  unfold inR; rw [n_int (by omega)]; omega
theorem cq_piecesOf {P : PM} {M : GM} {F p : Nat} (hF : 3000 ≤ F) (hO : OK P) (hC : CS P M) (hp : p < sN P) : ∃ M', f_X10_piecesOf F (nI p) M = some (.inr (nI (sPieces P p), M')) ∧ cQ P M M' := by
  obtain ⟨n1, n2, -, -⟩ := sN_of hO
  obtain ⟨M', e, s, f, -⟩ := c_formShape (F := F) hF hO hC.1 (show p < 30 by omega)
  refine ⟨M', ?_, cQ.fs hC f⟩
  unfold f_X10_piecesOf
  rw [c_reqPane hO hC.1, if_pos (in_pane hO hp), bndTr, bndO_s _ e, bnd_d, bnd_d, bnd_d, bndO_s _ (c_piecesLoop hF s)]
theorem cq_pointsOf {P : PM} {M : GM} {F p : Nat} (hF : 3000 ≤ F) (hO : OK P) (hC : CS P M) (hp : p < sN P) : ∃ M', f_X10_pointsOf F (nI p) M = some (.inr (nI (sPoints P p), M')) ∧ cQ P M M' := by
  obtain ⟨n1, n2, -, -⟩ := sN_of hO
  obtain ⟨M', e, s, f, -⟩ := c_formShape (F := F) hF hO hC.1 (show p < 30 by omega)
  obtain ⟨M2, e2, f2⟩ := c_pointsLoop (F := F) hF hO s
  have q := cQ.fs hC f
  refine ⟨M2, ?_, q.tr (cQ.eq q.1 f2)⟩
  unfold f_X10_pointsOf
  rw [c_reqPane hO hC.1, if_pos (in_pane hO hp), bndTr, bndO_s _ e, bnd_d, bnd_d, bndO_s _ e2]
/-- the first piece in which a point lies -/
def sFst (P : PM) (p x y : Nat) : Option (V × V × V) := if sLq P p 0 x y = true then sPcs P p 0 else if sLq P p 1 x y = true then sPcs P p 1 else none
theorem sFst_of {P : PM} {p x y q : Nat} {t : V × V × V} (hq : q < 2) (h1 : sPcs P p q = some t) (h2 : sLq P p q x y = true) (h3 : q = 1 → sLq P p 0 x y = false) : sFst P p x y = some t := by
  unfold sFst
  rcases (show q = 0 ∨ q = 1 by omega) with rfl | rfl
  · rw [if_pos h2]; exact h1
  · rw [if_neg (by rw [h3 rfl]; decide), if_pos h2]; exact h1
theorem sFst_no {P : PM} {p x y : Nat} (h1 : sLq P p 0 x y = false) (h2 : sLq P p 1 x y = false) : sFst P p x y = none := by
  unfold sFst; rw [h1, h2]; rfl
theorem pt_in {a b : Int32} (h : ptR a b) : ∃ x y, a = nI x ∧ b = nI y ∧ x < 40 ∧ y < 24 := by
  obtain ⟨x, rfl, hx⟩ := in_nat' h.1 (by omega)
  obtain ⟨y, rfl, hy⟩ := in_nat' h.2 (by omega)
  exact ⟨x, y, rfl, rfl, by omega, by omega⟩
theorem nI_ne {q : Nat} (hq : q < 2) : ¬ nI q = -1 := fun h => by
  have := congrArg Int32.toInt h
  rw [n_int (by omega)] at this
  have e : (-1 : Int32).toInt = -1 := by decide
  omega
def sDepO (P : PM) (p x y : Nat) : Int := match sFst P p x y with
  | some t => sDep P t x y
  | none => -1
def sColO (P : PM) (p x y : Nat) : Int := match sFst P p x y with
  | some t => sCol P p t x y
  | none => -1
