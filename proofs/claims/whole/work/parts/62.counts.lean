/-! PURE PART: how many pieces are drawn, how many points they have -/
def sLies (P : PM) (p k : Nat) : Bool := sLq P p 0 (k % 40) (k / 40) || sLq P p 1 (k % 40) (k / 40)
def sPoints (P : PM) (p : Nat) : Nat := cntB (sLies P p) 960
def sDrawn (P : PM) (p q : Nat) : Nat := match sPcs P p q with
  | some _ => 1
  | none => 0
def sPieces (P : PM) (p : Nat) : Nat := sDrawn P p 0 + sDrawn P p 1
theorem c_firstBool {P : PM} {M : GM} {F p k : Nat} (hF : 3000 ≤ F) (hO : OK P) (hS : cShape P M p) (hk : k < 960) :
    ∃ v M', f_X8_firstPieceAt F (nI (k % 40)) (nI (k / 40)) M = some (v, M') ∧ (v = -1 ↔ sLies P p k = false) ∧ cShape P M' p ∧ M'.1 = M.1 := by
  obtain ⟨v, M', e, h, s, f, -⟩ := c_firstPiece (F := F) (x := k % 40) (y := k / 40) hF hO hS (by omega) (by omega)
  refine ⟨v, M', e, ?_, s, f⟩
  unfold sLies
  rcases h with ⟨q, t, hq, rfl, -, -, -, h1, h2⟩ | ⟨rfl, h1, h2⟩
  · have ne : ¬ nI q = -1 := fun h => by
      have := congrArg Int32.toInt h
      rw [n_int (by omega)] at this
      have e : (-1 : Int32).toInt = -1 := by decide
      omega
    refine ⟨fun h => absurd h ne, fun h => ?_⟩
    rw [Bool.or_eq_false_iff] at h
    rcases (show q = 0 ∨ q = 1 by omega) with rfl | rfl
    · rw [h.1] at h1; cases h1
    · rw [h.2] at h1; cases h1
  · refine ⟨fun _ => by rw [h1, h2]; rfl, fun _ => rfl⟩
theorem c_pointsLoop {P : PM} {M : GM} {F p : Nat} (hF : 3000 ≤ F) (hO : OK P) (hS : cShape P M p) :
    ∃ M', lp_X10_pointsOf_14 F F 0 0 M = some (nI (sPoints P p), M') ∧ M'.1 = M.1 := by
  have row : ∀ (y : Nat) (M0 : GM), y < 24 → cShape P M0 p → ∃ q : Int32 × GM, lp_X10_pointsOf_23 F (nI y) F (nI (cntB (sLies P p) (y * 40))) 0 M0 = some q ∧ (q.1 = nI (cntB (sLies P p) ((y + 1) * 40)) ∧ cShape P q.2 p ∧ q.2.1 = M0.1) := fun y M0 hy hS0 => by
    refine run_up (fun n (s : Int32 × Int32 × GM) => lp_X10_pointsOf_23 F (nI y) n s.1 s.2.1 s.2.2) (fun i s => s.2.1 = nI i ∧ s.1 = nI (cntB (sLies P p) (y * 40 + i)) ∧ cShape P s.2.2 p ∧ s.2.2.1 = M0.1) _ 0 40 F (by omega) (by omega) (s := (nI (cntB (sLies P p) (y * 40)), 0, M0)) ⟨rfl, rfl, hS0, rfl⟩ ?_ ?_
    · rintro i ⟨a, x, M1⟩ - hi ⟨rfl, rfl, k1, k2⟩
      obtain ⟨dv, md⟩ := div_rc (y := y) hi
      obtain ⟨v, M2, e, e2, s2, f2⟩ := c_firstBool (F := F) (k := y * 40 + i) hF hO k1 (by omega)
      rw [dv, md] at e
      refine ⟨(nI (cntB (sLies P p) (y * 40 + (i + 1))), nI (i + 1), M2), ⟨rfl, rfl, s2, f2.trans k2⟩, fun n => ?_⟩
      show lp_X10_pointsOf_23 F (nI y) (n + 1) (nI (cntB (sLies P p) (y * 40 + i))) (nI i) M1 = lp_X10_pointsOf_23 F (nI y) n (nI (cntB (sLies P p) (y * 40 + i) + if sLies P p (y * 40 + i) = true then 1 else 0)) (nI (i + 1)) M2
      rw [el_X10_pointsOf_23]
      unfold st_X10_pointsOf_23
      rw [if_neg (by rw [i_40, n_le (by omega) (by omega)]; omega), bndO_s _ e]
      show (if v = -1 then _ else _) = _
      by_cases c : sLies P p (y * 40 + i) = true
      · rw [if_neg (fun h => by rw [e2.mp h] at c; cases c), if_pos c, bnd_d, bnd_d, i_1, n_a, n_a]
      · rw [if_pos (e2.mpr (Bool.eq_false_iff.mpr c)), if_neg c, bnd_d, i_1, n_a] <;> rfl
    · rintro ⟨a, x, M1⟩ ⟨rfl, rfl, k1, k2⟩
      refine ⟨(nI (cntB (sLies P p) (y * 40 + 40)), M1), ⟨by show nI _ = nI _; rw [Nat.add_mul, Nat.one_mul], k1, k2⟩, fun n => ?_⟩
      show lp_X10_pointsOf_23 F (nI y) (n + 1) _ (nI 40) M1 = _
      rw [el_X10_pointsOf_23]
      unfold st_X10_pointsOf_23
      rw [if_pos (by decide)] <;> rfl
  have L : ∃ q : Int32 × GM, lp_X10_pointsOf_14 F F 0 0 M = some q ∧ (q.1 = nI (sPoints P p) ∧ q.2.1 = M.1) := by
    refine run_up (fun n (s : Int32 × Int32 × GM) => lp_X10_pointsOf_14 F n s.1 s.2.1 s.2.2) (fun i s => s.2.1 = nI i ∧ s.1 = nI (cntB (sLies P p) (i * 40)) ∧ cShape P s.2.2 p ∧ s.2.2.1 = M.1) _ 0 24 F (by omega) (by omega) (s := (0, 0, M)) ⟨rfl, rfl, hS, rfl⟩ ?_ ?_
    · rintro i ⟨a, x, M1⟩ - hi ⟨rfl, rfl, k1, k2⟩
      obtain ⟨⟨b, M2⟩, e, rfl, s2, f2⟩ := row i M1 hi k1
      refine ⟨(nI (cntB (sLies P p) ((i + 1) * 40)), nI (i + 1), M2), ⟨rfl, rfl, s2, f2.trans k2⟩, fun n => ?_⟩
      show lp_X10_pointsOf_14 F (n + 1) (nI (cntB (sLies P p) (i * 40))) (nI i) M1 = lp_X10_pointsOf_14 F n (nI (cntB (sLies P p) ((i + 1) * 40))) (nI (i + 1)) M2
      rw [el_X10_pointsOf_14]
      unfold st_X10_pointsOf_14
      rw [if_neg (by rw [i_24, n_le (by omega) (by omega)]; omega), bnd_d, bndO_s _ e]
      show bnd (nI i + 1) _ = _
      rw [bnd_d, i_1, n_a]
    · rintro ⟨a, x, M1⟩ ⟨rfl, rfl, k1, k2⟩
      refine ⟨(_, M1), ⟨rfl, k2⟩, fun n => ?_⟩
      show lp_X10_pointsOf_14 F (n + 1) _ (nI 24) M1 = _
      rw [el_X10_pointsOf_14]
      unfold st_X10_pointsOf_14
      rw [if_pos (by decide)] <;> rfl
  obtain ⟨⟨a, M'⟩, e, rfl, f⟩ := L
  exact ⟨M', e, f⟩
theorem c_piecesLoop {P : PM} {M : GM} {F p : Nat} (hF : 3000 ≤ F) (hS : cShape P M p) : lp_X10_piecesOf_27 F 2 F 0 0 M = some (nI (sPieces P p), M) := by
  have st : ∀ q n, q < 2 → ∀ rec : Int32 → Int32 → GM → Option (Int32 × GM), st_X10_piecesOf_27 F 2 rec (nI n) (nI q) M = rec (nI (n + sDrawn P p q)) (nI (q + 1)) M := fun q n hq rec => by
    have h := hS.pq hq
    unfold cPq at h
    unfold st_X10_piecesOf_27 sDrawn
    rw [if_neg (by rw [i_2, n_le (by omega) (by omega)]; omega), gn_16, grd_t (n_in hq (by omega)), bnd_d, n_cl (by omega), gr_16]
    cases hP : sPcs P p q with
    | none =>
      rw [hP] at h
      rw [if_pos h, bnd_d, i_1, n_a]; rfl
    | some t =>
      rw [hP] at h
      rw [if_neg (by rw [h.1]; decide), bnd_d, bnd_d, i_1, n_a, n_a]
  obtain ⟨m, hm⟩ : ∃ m, F = m + 3 := ⟨F - 3, by omega⟩
  have el : ∀ f a i M, lp_X10_piecesOf_27 F 2 (f + 1) a i M = st_X10_piecesOf_27 F 2 (lp_X10_piecesOf_27 F 2 f) a i M := fun f a i M => rfl
  generalize hX : lp_X10_piecesOf_27 F 2 = X at el
  conv => lhs; rw [hm]
  show X (m + 2 + 1) (nI 0) (nI 0) M = _
  rw [el, st 0 0 (by omega), el, st 1 _ (by omega), el]
  unfold st_X10_piecesOf_27
  rw [if_pos (by decide), Nat.zero_add]; rfl
theorem r_drawnPieces {P : PM} {M : GM} {F p : Nat} (hF : 3000 ≤ F) (hO : OK P) (hR : RV P M) (hp : p < 30) :
    ∃ M', f_X11_drawnPieces F (nI p) M = some (nI (sPieces P p), M') ∧ (∀ g k, ¬ rA g k → gI M' g k = gI M g k) ∧ (∀ g k, ¬ raL g → gL M' g k = gL M g k) := by
  obtain ⟨M0, t0, y0, i0, s0⟩ := r_makePolygon hF hO hR hp
  have hR0 : RV P M0 := mp_RV hR i0
  obtain ⟨v1, M1, e1, c1, i1, l1, p1⟩ := r_layPiece (F := F) (q := 0) hF hO hR0 hp (by omega) y0
  have hR1 : RV P M1 := hR0.to fun g k h => i1 g k (by unfold lpS; omega)
  obtain ⟨v2, M2, e2, c2, i2, l2, p2⟩ := r_layPiece (F := F) (q := 1) hF hO hR1 hp (by omega) (y0.to (sPane_len P p) fun g k h => i1 g k (by unfold lpS; omega))
  have d : ∀ (q : Nat) (v : Int32) (M' : GM), ((sPcs P p q = none ∧ v = 0) ∨ (∃ t, sPcs P p q = some t ∧ v = 1 ∧ rTri P M' t)) → (v = 0 ∧ sDrawn P p q = 0) ∨ (v = 1 ∧ sDrawn P p q = 1) := fun q v M' h => by
    rcases h with ⟨h, rfl⟩ | ⟨t, h, rfl, -⟩
    · exact Or.inl ⟨rfl, by unfold sDrawn; rw [h]⟩
    · exact Or.inr ⟨rfl, by unfold sDrawn; rw [h]⟩
  have tl : ∀ n, bk_X11_drawnPieces_19 F (nI p) (nI n) M1 = some (nI (n + sDrawn P p 1), M2) := fun n => by
    unfold bk_X11_drawnPieces_19
    rw [bndO_s _ (show f_X11_layPiece F (nI p) 1 M1 = some (v2, M2) from e2)]
    show (if v2 = 0 then _ else _) = _
    rcases d 1 v2 M2 c2 with ⟨rfl, h⟩ | ⟨rfl, h⟩
    · rw [if_pos rfl, h, i_0, n_a]
    · rw [if_neg (by decide), h, i_1, n_a]
  refine ⟨M2, ?_, fun g k h => ?_, fun g k h => ?_⟩
  · unfold f_X11_drawnPieces
    rw [bndO_s _ t0, bndO_s _ (show f_X11_layPiece F (nI p) 0 M0 = some (v1, M1) from e1)]
    show (if v1 = 0 then _ else _) = _
    unfold sPieces
    rcases d 0 v1 M1 c1 with ⟨rfl, h⟩ | ⟨rfl, h⟩
    · rw [if_pos rfl, h]; exact tl 0
    · rw [if_neg (by decide), h]; exact tl 1
  · unfold rA at h
    rw [i2 g k (by unfold lpS; omega), i1 g k (by unfold lpS; omega), i0 g k (by unfold mpS; omega)]
  · unfold raL at h
    rw [l2 g k (by unfold lpL; omega), l1 g k (by unfold lpL; omega)]; show M0.2.1 g k = M.2.1 g k; rw [s0]
theorem cntB_up {f g : Nat → Bool} {n j : Nat} (hj : j < n) (h : ∀ k, k ≠ j → f k = g k) (f0 : f j = false) (g1 : g j = true) : cntB g n = cntB f n + 1 := by
  induction n with
  | zero => omega
  | succ n ih =>
    unfold cntB
    rcases Nat.lt_or_ge j n with q | q
    · rw [ih q, h n (by omega)]; omega
    · have : j = n := by omega
      subst this
      rw [f0, g1, cntB_congr (f := g) (g := f) fun k hk => (h k (by omega)).symm]
      simp
/-- the points that the reference has met -/
def rMet (M : GM) (met : Nat → Bool) : Prop := ∀ k, k < 960 → gI M 159 k = if met k = true then 1 else 0
theorem rMet.at {M : GM} {met : Nat → Bool} (h : rMet M met) {k : Nat} (hk : k < 960) {b : Bool} (e : met k = b) : gI M 159 k = if b = true then 1 else 0 := by rw [h k hk, e]
theorem r_pts1 {P : PM} {M : GM} {F p q : Nat} {met : Nat → Bool} {ip iq : Int32} (hF : 3000 ≤ F) {t : V × V × V} (ht : sPcs P p q = some t) (hO : OK P) (hT : rTri P M t) (hm : rMet M met) :
    ∃ M', lp_X11_pointsIn_51 F ip iq F (nI (cntB met 960)) 0 M = some (nI (cntB (fun k => met k || sLq P p q (k % 40) (k / 40)) 960), M') ∧ rMet M' (fun k => met k || sLq P p q (k % 40) (k / 40)) ∧ (∀ g k, g ≠ 159 → gI M' g k = gI M g k) ∧ (∀ g k, g ≠ 122 → gL M' g k = gL M g k) := by
  have L : ∃ z : Int32 × GM, lp_X11_pointsIn_51 F ip iq F (nI (cntB met 960)) 0 M = some z ∧ (z.1 = nI (cntB (fun k => met k || sLq P p q (k % 40) (k / 40)) 960) ∧ rMet z.2 (fun k => met k || sLq P p q (k % 40) (k / 40)) ∧ (∀ g k, g ≠ 159 → gI z.2 g k = gI M g k) ∧ (∀ g k, g ≠ 122 → gL z.2 g k = gL M g k)) := by
    refine run_up (fun n (s : Int32 × Int32 × GM) => lp_X11_pointsIn_51 F ip iq n s.1 s.2.1 s.2.2) (fun i s => s.2.1 = nI i ∧ s.1 = nI (cntB (fun k => met k || (decide (k < i) && sLq P p q (k % 40) (k / 40))) 960) ∧ rTri P s.2.2 t ∧ rMet s.2.2 (fun k => met k || (decide (k < i) && sLq P p q (k % 40) (k / 40))) ∧ (∀ g k, g ≠ 159 → gI s.2.2 g k = gI M g k) ∧ (∀ g k, g ≠ 122 → gL s.2.2 g k = gL M g k)) _ 0 960 F (by omega) (by omega) (s := (nI (cntB met 960), 0, M)) ⟨rfl, ?_, hT, fun k hk => ?_, fun _ _ _ => rfl, fun _ _ _ => rfl⟩ ?_ ?_
    · show nI _ = nI _
      exact congrArg nI (cntB_congr fun k _ => by simp)
    · exact hm.at hk (by simp)
    · rintro i ⟨a, x, M1⟩ - hi ⟨rfl, rfl, k0, k1, k2, k3⟩
      have hmet : gI M1 159 i = if met i = true then 1 else 0 := k1.at hi (by simp)
      have hc : ¬ (960 : Int32) ≤ nI i := by rw [i_960, n_le (by omega) (by omega)]; omega
      have e0 : (nI i).toInt = i := n_int (by omega)
      have k40 : (40 : Int32).toInt = 40 := rfl
      have er : nI i - nI i / 40 * 40 = nI (i % 40) := n_of (by rw [a_mod e0 k40 (by omega) (by omega)]; omega)
      have eq : nI i / 40 = nI (i / 40) := n_of (by rw [a_div e0 k40 (by omega) (by omega)]; omega)
      have nx : ∀ b : Bool, (met i || (decide (i < i) && b)) = met i := fun b => by simp
      have same : (∀ k, k < 960 → (met k || (decide (k < i) && sLq P p q (k % 40) (k / 40))) = (met k || (decide (k < i + 1) && sLq P p q (k % 40) (k / 40)))) ∨ (met i = false ∧ sLq P p q (i % 40) (i / 40) = true) := by
        by_cases hb : met i = false ∧ sLq P p q (i % 40) (i / 40) = true
        · exact Or.inr hb
        · left
          intro k hk
          by_cases hki : k = i
          · subst hki
            cases hm1 : met k
            · have : sLq P p q (k % 40) (k / 40) = false := by
                cases hs : sLq P p q (k % 40) (k / 40)
                · rfl
                · exact absurd ⟨hm1, hs⟩ hb
              rw [this]; simp
            · simp
          · have : decide (k < i) = decide (k < i + 1) := by rw [decide_eq_decide]; omega
            rw [this]
      have step : ∀ n, lp_X11_pointsIn_51 F ip iq (n + 1) (nI (cntB (fun k => met k || (decide (k < i) && sLq P p q (k % 40) (k / 40))) 960)) (nI i) M1 = st_X11_pointsIn_51 F ip iq (lp_X11_pointsIn_51 F ip iq n) (nI (cntB (fun k => met k || (decide (k < i) && sLq P p q (k % 40) (k / 40))) 960)) (nI i) M1 := fun n => rfl
      have head : ∀ (a : Int32) (rec : Int32 → Int32 → GM → Option (Int32 × GM)), st_X11_pointsIn_51 F ip iq rec a (nI i) M1 = if met i = true then rec a (nI (i + 1)) M1 else (bndO (f_X11_isInPiece F (nI (i % 40)) (nI (i / 40)) M1) (fun (v34, M35) => if v34 = 0 then rec a (nI (i + 1)) M35 else rec (a + 1) (nI (i + 1)) (sI M35 159 i 1))) := fun a rec => by
        unfold st_X11_pointsIn_51
        rw [if_neg hc, gn_159, n_in hi (by omega), n_cl (by omega), er, eq, hmet]
        simp only [grdT, bnd_d]
        rw [show nI i + 1 = nI (i + 1) from n_a i 1]
        by_cases hm1 : met i = true
        · rw [if_pos hm1, if_pos hm1, if_neg (by decide)]
        · rw [if_neg hm1, if_neg hm1, if_pos rfl]
      by_cases hm1 : met i = true
      · rcases same with same | same
        rotate_left
        · rw [same.1] at hm1; cases hm1
        refine ⟨(nI (cntB (fun k => met k || (decide (k < i + 1) && sLq P p q (k % 40) (k / 40))) 960), nI (i + 1), M1), ⟨rfl, rfl, k0, fun k hk => ?_, k2, k3⟩, fun n => ?_⟩
        · exact k1.at hk (same k hk)
        · refine (step n).trans ?_
          rw [head, if_pos hm1, cntB_congr same]
      · obtain ⟨v, M2, f1, f2, at2, g2, l2, p2⟩ := r_isInPiece (F := F) (x := i % 40) (y := i / 40) (sPcs_ok hO ht) k0 (by omega) (by omega)
        have i2 : ∀ g k, gI M2 g k = gI M1 g k := fun g k => by show M2.1 g k = M1.1 g k; rw [g2]
        by_cases hs : sIn (sFoc P) t (i % 40 : Nat) (i / 40 : Nat)
        · rw [if_pos hs] at f2
          subst f2
          have hs' := (sLq_some ht).mpr hs
          refine ⟨(nI (cntB (fun k => met k || (decide (k < i + 1) && sLq P p q (k % 40) (k / 40))) 960), nI (i + 1), sI M2 159 i 1), ⟨rfl, rfl, at2.1.to (fun g j a b => by rw [gI_sI, if_neg (by omega)]) (fun _ _ _ _ => rfl) rfl, fun k hk => ?_, fun g k h => ?_, fun g k h => ?_⟩, fun n => ?_⟩
          · rw [gI_sI]
            by_cases hki : k = i
            · subst hki; rw [if_pos ⟨rfl, rfl⟩, if_pos (show (met k || (decide (k < k + 1) && sLq P p q (k % 40) (k / 40))) = true by rw [hs']; simp)]
            · have : decide (k < i) = decide (k < i + 1) := by rw [decide_eq_decide]; omega
              rw [if_neg (by omega), i2]; exact k1.at hk (by show (met k || (decide (k < i) && sLq P p q (k % 40) (k / 40))) = _; rw [this])
          · rw [gI_sI, if_neg (by omega), i2]; exact k2 g k h
          · exact (l2 g k h).trans (k3 g k h)
          · refine (step n).trans ?_
            rw [head, if_neg hm1, bndO_s _ f1]
            show (if (1 : Int32) = 0 then _ else _) = _
            rw [if_neg (by decide), i_1, n_a]
            rw [cntB_up (f := fun k => met k || (decide (k < i) && sLq P p q (k % 40) (k / 40))) (g := fun k => met k || (decide (k < i + 1) && sLq P p q (k % 40) (k / 40))) hi (fun k hk => by
              have : decide (k < i) = decide (k < i + 1) := by rw [decide_eq_decide]; omega
              simp only [this]) (by simp only [nx]; exact Bool.eq_false_iff.mpr hm1) (by simp only [hs']; simp)]
        · rw [if_neg hs] at f2
          subst f2
          rcases same with same | same
          rotate_left
          · exact absurd ((sLq_some ht).mp same.2) hs
          refine ⟨(nI (cntB (fun k => met k || (decide (k < i + 1) && sLq P p q (k % 40) (k / 40))) 960), nI (i + 1), M2), ⟨rfl, rfl, at2.1, fun k hk => ?_, fun g k h => (i2 g k).trans (k2 g k h), fun g k h => (l2 g k h).trans (k3 g k h)⟩, fun n => ?_⟩
          · rw [i2]; exact k1.at hk (same k hk)
          · refine (step n).trans ?_
            rw [head, if_neg hm1, bndO_s _ f1]
            show (if (0 : Int32) = 0 then _ else _) = _
            rw [if_pos rfl, cntB_congr same]
    · rintro ⟨a, x, M1⟩ ⟨rfl, rfl, k0, k1, k2, k3⟩
      have e : ∀ k, k < 960 → (met k || (decide (k < 960) && sLq P p q (k % 40) (k / 40))) = (met k || sLq P p q (k % 40) (k / 40)) := fun k hk => by rw [decide_eq_true hk, Bool.true_and]
      refine ⟨(nI (cntB (fun k => met k || (decide (k < 960) && sLq P p q (k % 40) (k / 40))) 960), M1), ⟨congrArg nI (cntB_congr e), fun k hk => k1.at hk (e k hk), k2, k3⟩, fun n => ?_⟩
      show lp_X11_pointsIn_51 F ip iq (n + 1) _ (nI 960) M1 = _
      rw [el_X11_pointsIn_51]
      unfold st_X11_pointsIn_51
      rw [if_pos (by decide)] <;> rfl
  obtain ⟨⟨a, M'⟩, e, rfl, h⟩ := L
  exact ⟨M', e, h⟩
theorem r_pts {P : PM} {M : GM} {F p q : Nat} {met : Nat → Bool} (hF : 3000 ≤ F) (hO : OK P) (hR : RV P M) (hp : p < 30) (hl : rPoly M (sPane P p)) (hq : q < 2) (hm : rMet M met) :
    ∃ M', (∀ rec, st_X11_pointsIn_31 F (nI p) rec (nI (cntB met 960)) (nI q) M = rec (nI (cntB (fun k => met k || sLq P p q (k % 40) (k / 40)) 960)) (nI (q + 1)) M') ∧ rMet M' (fun k => met k || sLq P p q (k % 40) (k / 40)) ∧ (∀ g k, ¬ (lpS g ∨ g = 159) → gI M' g k = gI M g k) ∧ (∀ g k, ¬ raL g → gL M' g k = gL M g k) := by
  have hc : ¬ (2 : Int32) ≤ nI q := by rw [i_2, n_le (by omega) (by omega)]; omega
  obtain ⟨v, M1, e1, e2, i1, l1, p1⟩ := r_layPiece (F := F) hF hO hR hp hq hl
  have hm1 : rMet M1 met := fun k hk => by rw [i1 _ _ (by unfold lpS; omega)]; exact hm k hk
  rcases e2 with ⟨e2, rfl⟩ | ⟨t, e2, rfl, hT⟩
  · have e : ∀ k, (met k || sLq P p q (k % 40) (k / 40)) = met k := fun k => by rw [sLq_none e2, Bool.or_false]
    refine ⟨M1, fun rec => ?_, fun k hk => hm1.at hk (e k).symm, fun g k h => i1 g k (fun q => h (Or.inl q)), fun g k h => l1 g k (by unfold lpL; unfold raL at h; omega)⟩
    unfold st_X11_pointsIn_31
    rw [if_neg hc, bndO_s _ e1]
    show (if (0 : Int32) = 0 then _ else _) = _
    rw [if_pos rfl, bnd_d, i_1, n_a, cntB_congr (f := fun k => met k || sLq P p q (k % 40) (k / 40)) (g := met) fun k _ => e k]
  · obtain ⟨M2, f1, m2, i2, l2⟩ := r_pts1 (F := F) (ip := nI p) (iq := nI q) hF e2 hO hT hm1
    refine ⟨M2, fun rec => ?_, m2, fun g k h => ?_, fun g k h => ?_⟩
    · unfold st_X11_pointsIn_31
      rw [if_neg hc, bndO_s _ e1]
      show (if (1 : Int32) = 0 then _ else _) = _
      rw [if_neg (by decide), bnd_d, bndO_s _ f1]
      show bnd (nI q + 1) _ = _
      rw [bnd_d, i_1, n_a]
    · rw [i2 g k (fun q => h (Or.inr q)), i1 g k (fun q => h (Or.inl q))]
    · rw [l2 g k (by unfold raL at h; omega), l1 g k (by unfold lpL; unfold raL at h; omega)]
theorem cntB_ff (n : Nat) : cntB (fun _ => false) n = 0 := by
  induction n with
  | zero => rfl
  | succ n ih => unfold cntB; rw [ih]; rfl
theorem r_pointsIn {P : PM} {M : GM} {F p : Nat} (hF : 3000 ≤ F) (hO : OK P) (hR : RV P M) (hp : p < 30) :
    ∃ M', f_X11_pointsIn F (nI p) M = some (nI (sPoints P p), M') ∧ rPoly M' (sPane P p) ∧ (∀ g k, ¬ (rA g k ∨ g = 159) → gI M' g k = gI M g k) ∧ (∀ g k, ¬ raL g → gL M' g k = gL M g k) := by
  obtain ⟨M0, t0, y0, i0, s0⟩ := r_makePolygon hF hO hR hp
  have hR0 : RV P M0 := mp_RV hR i0
  have L1 : ∃ M1, lp_X11_pointsIn_7 F (nI p) F 0 M0 = some M1 ∧ (rMet M1 (fun _ => false) ∧ (∀ g k, g ≠ 159 → gI M1 g k = gI M0 g k) ∧ M1.2 = M0.2) := by
    refine run_up (fun n (s : Int32 × GM) => lp_X11_pointsIn_7 F (nI p) n s.1 s.2) (fun i s => s.1 = nI i ∧ (∀ t, t < i → gI s.2 159 t = 0) ∧ (∀ g k, g ≠ 159 → gI s.2 g k = gI M0 g k) ∧ s.2.2 = M0.2) _ 0 960 F (by omega) (by omega) (s := (0, M0)) ⟨rfl, fun t h => absurd h (by omega), fun _ _ _ => rfl, rfl⟩ ?_ ?_
    · rintro i ⟨x, M2⟩ - hi ⟨rfl, k1, k2, k3⟩
      refine ⟨(nI (i + 1), sI M2 159 i 0), ⟨rfl, fun t ht => ?_, fun g k h => ?_, k3⟩, fun n => ?_⟩
      · rw [gI_sI]
        by_cases q : t = i
        · rw [if_pos ⟨rfl, q⟩]
        · rw [if_neg (by omega)]; exact k1 t (by omega)
      · rw [gI_sI, if_neg (by omega)]; exact k2 g k h
      · show lp_X11_pointsIn_7 F (nI p) (n + 1) (nI i) M2 = _
        rw [el_X11_pointsIn_7]
        unfold st_X11_pointsIn_7
        rw [if_neg (by rw [i_960, n_le (by omega) (by omega)]; omega), gn_159, grd_t (n_in hi (by omega)), bnd_d, n_cl (by omega), bnd_d, i_1, n_a]
    · rintro ⟨x, M2⟩ ⟨rfl, k1, k2, k3⟩
      refine ⟨M2, ⟨fun t ht => by rw [k1 t ht]; rfl, k2, k3⟩, fun n => ?_⟩
      show lp_X11_pointsIn_7 F (nI p) (n + 1) (nI 960) M2 = _
      rw [el_X11_pointsIn_7]
      unfold st_X11_pointsIn_7
      rw [if_pos (by decide)] <;> rfl
  obtain ⟨M1, t1, m1, i1, s1⟩ := L1
  have hR1 : RV P M1 := hR0.to fun g k h => i1 g k (by omega)
  have y1 : rPoly M1 (sPane P p) := y0.to (sPane_len P p) fun g k h => i1 g k (by omega)
  obtain ⟨M2, t2, m2, i2, l2⟩ := r_pts (q := 0) hF hO hR1 hp y1 (by omega) m1
  have hR2 : RV P M2 := hR1.to fun g k h => i2 g k (by unfold lpS; omega)
  have y2 : rPoly M2 (sPane P p) := y1.to (sPane_len P p) fun g k h => i2 g k (by unfold lpS; omega)
  obtain ⟨M3, t3, m3, i3, l3⟩ := r_pts (q := 1) hF hO hR2 hp y2 (by omega) m2
  have e : cntB (fun k => (false || sLq P p 0 (k % 40) (k / 40)) || sLq P p 1 (k % 40) (k / 40)) 960 = sPoints P p := cntB_congr fun k _ => by unfold sLies; rw [Bool.false_or]
  have L : lp_X11_pointsIn_31 F (nI p) F 0 0 M1 = some (nI (sPoints P p), M3) := by
    obtain ⟨m, hm⟩ : ∃ m, F = m + 3 := ⟨F - 3, by omega⟩
    have el : ∀ f a i M, lp_X11_pointsIn_31 F (nI p) (f + 1) a i M = st_X11_pointsIn_31 F (nI p) (lp_X11_pointsIn_31 F (nI p) f) a i M := fun f a i M => rfl
    generalize hX : lp_X11_pointsIn_31 F (nI p) = X at el
    have c0 : (0 : Int32) = nI (cntB (fun _ => false) 960) := by rw [cntB_ff]; rfl
    conv => lhs; rw [hm]
    show X (m + 2 + 1) 0 (nI 0) M1 = _
    rw [el, c0, t2, el, t3, el]
    unfold st_X11_pointsIn_31
    rw [if_pos (by decide), e]
  refine ⟨M3, ?_, y2.to (sPane_len P p) fun g k h => i3 g k (by unfold lpS; omega), fun g k h => ?_, fun g k h => ?_⟩
  · unfold f_X11_pointsIn
    rw [bndO_s _ t0, bnd_d, bndO_s _ t1, bnd_d, bnd_d, bndO_s _ L]
  · unfold rA at h
    rw [i3 g k (by unfold lpS; omega), i2 g k (by unfold lpS; omega), i1 g k (by omega), i0 g k (by unfold mpS; omega)]
  · rw [l3 g k h, l2 g k h]; show M1.2.1 g k = M.2.1 g k; rw [s1, s0]
