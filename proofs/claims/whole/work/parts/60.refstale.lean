/-! PURE PART: what is stale, by the reference -/
theorem r_within {a b c : Int32} {x y z : Int} (ha : a.toInt = x) (hb : b.toInt = y) (hc : c.toInt = z) : f_X11_isIn a b c = if y ≤ x ∧ x ≤ z then 1 else 0 := c_within ha hb hc
def dTileU (f g : Nat → Px) (i t : Nat) : Bool := (List.range i).any fun k => decide (tOf k = t) && decide (f k ≠ g k)
theorem dTileU_s (f g : Nat → Px) (i t : Nat) : dTileU f g (i + 1) t = (dTileU f g i t || (decide (tOf i = t) && decide (f i ≠ g i))) := by
  unfold dTileU
  rw [List.range_succ, List.any_append]
  simp
theorem r_tileOf {k : Nat} (hk : k < 960) : f_X11_tileOf (nI k) = nI (tOf k) := by
  have e0 : (nI k).toInt = k := n_int (by omega)
  have k40 : (40 : Int32).toInt = 40 := rfl
  have k8 : (8 : Int32).toInt = 8 := rfl
  have k5 : (5 : Int32).toInt = 5 := rfl
  have a1 := a_mul (a_div (a_div e0 k40 (by omega) (by omega)) k8 (by omega) (by omega)) k5 (by omega) (by omega)
  have a2 := a_div (a_mod e0 k40 (by omega) (by omega)) k8 (by omega) (by omega)
  have a3 := a_add a1 a2 (by omega) (by omega)
  unfold f_X11_tileOf
  exact n_of (by rw [a3]; unfold tOf; omega)
theorem tOf_lt {k : Nat} (hk : k < 960) : tOf k < 15 := by unfold tOf; omega
theorem or_tab (a : Bool) (c : Prop) [Decidable c] : (if a = true then (1 : Int32) else 0) ||| (if c then (0 : Int32) else 1) = if (a || decide (¬ c)) = true then 1 else 0 := by
  by_cases h : c <;> cases a <;> simp [h] <;> decide
theorem bit_tf (a : Bool) : gTf (if a = true then (1 : Int32) else 0) = true := by cases a <;> decide
/-- the reference's row of stale tiles, when i points have had their turn -/
def rOld (M : GM) (f g : Nat → Px) (i : Nat) : Prop := ∀ t, t < 15 → gI M 160 t = if dTileU f g i t = true then 1 else 0
theorem r_look {P : PM} {M : GM} {F : Nat} (hF : 3000 ≤ F) (hO : OK P) (hR : RV P M) :
    ∃ M', f_X11_look F M = some (nI (sStale P), M') ∧ (∀ k, k < 960 → rPx M' k = nPx P k) ∧ (∀ t, t < 15 → gI M' 160 t = if dTile (nPx P) (pPx P) t = true then 1 else 0) ∧ (∀ g k, ¬ (rA g k ∨ g = 160) → gI M' g k = gI M g k) ∧ (∀ g k, ¬ rqL g → gL M' g k = gL M g k) := by
  obtain ⟨n1, n2, -, -⟩ := sN_of hO
  obtain ⟨M1, t1, x1, -, i1, l1, -⟩ := r_draw (F := F) (wo := -1) hF hO hR n1 n2
  have hR1 : RV P M1 := hR.to fun g k h => i1 g k (by unfold rA; omega)
  have L1 : ∃ M2, lp_X11_look_7 F F 0 M1 = some M2 ∧ (rOld M2 (nPx P) (pPx P) 0 ∧ (∀ g k, g ≠ 160 → gI M2 g k = gI M1 g k) ∧ M2.2 = M1.2) := by
    refine run_up (fun n (s : Int32 × GM) => lp_X11_look_7 F n s.1 s.2) (fun i s => s.1 = nI i ∧ (∀ t, t < i → gI s.2 160 t = 0) ∧ (∀ g k, g ≠ 160 → gI s.2 g k = gI M1 g k) ∧ s.2.2 = M1.2) _ 0 15 F (by omega) (by omega) (s := (0, M1)) ⟨rfl, fun t h => absurd h (by omega), fun _ _ _ => rfl, rfl⟩ ?_ ?_
    · rintro i ⟨x, M2⟩ - hi ⟨rfl, k1, k2, k3⟩
      refine ⟨(nI (i + 1), sI M2 160 i 0), ⟨rfl, fun t ht => ?_, fun g k h => ?_, k3⟩, fun n => ?_⟩
      · rw [gI_sI]
        by_cases q : t = i
        · rw [if_pos ⟨rfl, q⟩]
        · rw [if_neg (by omega)]; exact k1 t (by omega)
      · rw [gI_sI, if_neg (by omega)]; exact k2 g k h
      · show lp_X11_look_7 F (n + 1) (nI i) M2 = _
        rw [el_X11_look_7]
        unfold st_X11_look_7
        rw [if_neg (by rw [i_15, n_le (by omega) (by omega)]; omega), gn_160, grd_t (n_in hi (by omega)), bnd_d, n_cl (by omega), bnd_d, i_1, n_a]
    · rintro ⟨x, M2⟩ ⟨rfl, k1, k2, k3⟩
      refine ⟨M2, ⟨fun t ht => ?_, k2, k3⟩, fun n => ?_⟩
      · rw [k1 t ht, if_neg]; unfold dTileU; simp
      · show lp_X11_look_7 F (n + 1) (nI 15) M2 = _
        rw [el_X11_look_7]
        unfold st_X11_look_7
        rw [if_pos (by decide)] <;> rfl
  obtain ⟨M2, t2, o2, i2, l2⟩ := L1
  have L2 : ∃ M3, lp_X11_look_28 F F 0 M2 = some M3 ∧ (rOld M3 (nPx P) (pPx P) 960 ∧ (∀ g k, g ≠ 160 → gI M3 g k = gI M2 g k) ∧ M3.2 = M2.2) := by
    refine run_up (fun n (s : Int32 × GM) => lp_X11_look_28 F n s.1 s.2) (fun i s => s.1 = nI i ∧ rOld s.2 (nPx P) (pPx P) i ∧ (∀ g k, g ≠ 160 → gI s.2 g k = gI M2 g k) ∧ s.2.2 = M2.2) _ 0 960 F (by omega) (by omega) (s := (0, M2)) ⟨rfl, o2, fun _ _ _ => rfl, rfl⟩ ?_ ?_
    · rintro i ⟨x, M3⟩ - hi ⟨rfl, k1, k2, k3⟩
      have ht := tOf_lt hi
      have e141 : gI M3 141 i = (nPx P i).1 := by rw [k2 _ _ (by omega), i2 _ _ (by omega)]; exact congrArg (fun z : Px => z.1) (x1 i hi)
      have e142 : gI M3 142 i = (nPx P i).2.1 := by rw [k2 _ _ (by omega), i2 _ _ (by omega)]; exact congrArg (fun z : Px => z.2.1) (x1 i hi)
      have e143 : gI M3 143 i = (nPx P i).2.2 := by rw [k2 _ _ (by omega), i2 _ _ (by omega)]; exact congrArg (fun z : Px => z.2.2) (x1 i hi)
      have e138 : gI M3 138 i = (pPx P i).1 := by rw [k2 _ _ (by omega), i2 _ _ (by omega)]; exact hR1.2 138 i (by omega) (by omega)
      have e139 : gI M3 139 i = (pPx P i).2.1 := by rw [k2 _ _ (by omega), i2 _ _ (by omega)]; exact hR1.2 139 i (by omega) (by omega)
      have e140 : gI M3 140 i = (pPx P i).2.2 := by rw [k2 _ _ (by omega), i2 _ _ (by omega)]; exact hR1.2 140 i (by omega) (by omega)
      have eo := k1 _ ht
      have ev : gI M3 160 (tOf i) ||| (if nPx P i = pPx P i then (0 : Int32) else 1) = if dTileU (nPx P) (pPx P) (i + 1) (tOf i) = true then 1 else 0 := by
        rw [eo, or_tab, dTileU_s]; simp
      refine ⟨(nI (i + 1), sI M3 160 (tOf i) (gI M3 160 (tOf i) ||| (if nPx P i = pPx P i then (0 : Int32) else 1))), ⟨rfl, fun t h15 => ?_, fun g k h => ?_, k3⟩, fun n => ?_⟩
      · rw [gI_sI]
        by_cases q : t = tOf i
        · rw [if_pos ⟨rfl, q⟩, q, ev]
        · rw [if_neg (by omega), k1 t h15, dTileU_s, decide_eq_false (fun h => q h.symm), Bool.false_and, Bool.or_false]
      · rw [gI_sI, if_neg (by omega)]; exact k2 g k h
      · show lp_X11_look_28 F (n + 1) (nI i) M3 = lp_X11_look_28 F n (nI (i + 1)) _
        have tf : gTf (gI M3 160 (tOf i) ||| (if nPx P i = pPx P i then (0 : Int32) else 1)) = true := by rw [ev]; exact bit_tf _
        generalize hv : gI M3 160 (tOf i) ||| (if nPx P i = pPx P i then (0 : Int32) else 1) = w at tf ⊢
        rw [el_X11_look_28]
        unfold st_X11_look_28
        rw [if_neg (by rw [i_960, n_le (by omega) (by omega)]; omega), r_tileOf hi, gn_160, gn_141, gn_142, gn_143, gn_138, gn_139, gn_140, n_in ht (by omega), n_in hi (by omega), n_cl (show i < 2147483648 by omega), n_cl (show tOf i < 2147483648 by omega), e141, e142, e143, e138, e139, e140]
        simp only [grdT, bnd_d, i_1, n_a]
        by_cases c1 : (nPx P i).1 = (pPx P i).1
        · by_cases c2 : (nPx P i).2.1 = (pPx P i).2.1
          · by_cases c3 : (nPx P i).2.2 = (pPx P i).2.2
            · have : nPx P i = pPx P i := Prod.ext c1 (Prod.ext c2 c3)
              rw [if_pos this] at hv
              rw [if_pos c1, if_pos c2, if_pos c3, hv, tf]; rfl
            · rw [if_neg (fun h => c3 (by rw [h]))] at hv
              have hv' : gI M3 160 (tOf i) ||| nI 1 = w := hv
              rw [if_pos c1, if_pos c2, if_neg c3, hv', tf]; rfl
          · rw [if_neg (fun h => c2 (by rw [h]))] at hv
            have hv' : gI M3 160 (tOf i) ||| nI 1 = w := hv
            rw [if_pos c1, if_neg c2, hv', tf]; rfl
        · rw [if_neg (fun h => c1 (by rw [h]))] at hv
          have hv' : gI M3 160 (tOf i) ||| nI 1 = w := hv
          rw [if_neg c1, hv', tf]; rfl
    · rintro ⟨x, M3⟩ ⟨rfl, k1, k2, k3⟩
      refine ⟨M3, ⟨k1, k2, k3⟩, fun n => ?_⟩
      show lp_X11_look_28 F (n + 1) (nI 960) M3 = _
      rw [el_X11_look_28]
      unfold st_X11_look_28
      rw [if_pos (by decide)] <;> rfl
  obtain ⟨M3, t3, o3, i3, l3⟩ := L2
  have L3 : ∃ q : Int32 × GM, lp_X11_look_116 F 15 F 0 0 M3 = some q ∧ (q = (nI (sStale P), M3)) := by
    refine run_up (fun n (s : Int32 × Int32 × GM) => lp_X11_look_116 F 15 n s.1 s.2.1 s.2.2) (fun i s => s.2.1 = nI i ∧ s.1 = nI (cntB (dTile (nPx P) (pPx P)) i) ∧ s.2.2 = M3) _ 0 15 F (by omega) (by omega) (s := (0, 0, M3)) ⟨rfl, rfl, rfl⟩ ?_ ?_
    · rintro i ⟨a, x, M4⟩ - hi ⟨rfl, rfl, rfl⟩
      refine ⟨(nI (cntB (dTile (nPx P) (pPx P)) (i + 1)), nI (i + 1), M4), ⟨rfl, rfl, rfl⟩, fun n => ?_⟩
      show lp_X11_look_116 F 15 (n + 1) (nI (cntB (dTile (nPx P) (pPx P)) i)) (nI i) M4 = lp_X11_look_116 F 15 n (nI (cntB (dTile (nPx P) (pPx P)) i + if dTile (nPx P) (pPx P) i = true then 1 else 0)) (nI (i + 1)) M4
      have e : gI M4 160 i = if dTile (nPx P) (pPx P) i = true then 1 else 0 := o3 i hi
      rw [el_X11_look_116]
      unfold st_X11_look_116
      rw [if_neg (by rw [i_15, n_le (by omega) (by omega)]; omega), gn_160, grd_t (n_in hi (by omega)), bnd_d, n_cl (by omega), e]
      by_cases c : dTile (nPx P) (pPx P) i = true
      · rw [if_pos c, if_neg (by decide), bnd_d, bnd_d, if_pos c, i_1, n_a, n_a]
      · rw [if_neg c, if_pos rfl, bnd_d, bnd_d, if_neg c, i_0, i_1, n_a, n_a]
    · rintro ⟨a, x, M4⟩ ⟨rfl, rfl, rfl⟩
      refine ⟨(_, M4), rfl, fun n => ?_⟩
      show lp_X11_look_116 F 15 (n + 1) _ (nI 15) M4 = _
      rw [el_X11_look_116]
      unfold st_X11_look_116
      rw [if_pos (by decide)]
      rfl
  obtain ⟨q, t4, rfl⟩ := L3
  refine ⟨M3, ?_, fun k hk => ?_, o3, fun g k h => ?_, fun g k h => ?_⟩
  · unfold f_X11_look
    rw [bndO_s _ t1, bnd_d, bndO_s _ t2, bnd_d, bndO_s _ t3, bnd_d, bnd_d, bnd_d, bndO_s _ t4]
  · rw [← show rPx M1 k = nPx P k from x1 k hk]
    unfold rPx
    rw [i3 _ _ (by omega), i3 _ _ (by omega), i3 _ _ (by omega), i2 _ _ (by omega), i2 _ _ (by omega), i2 _ _ (by omega)]
  · rw [i3 g k (fun q => h (Or.inr q)), i2 g k (fun q => h (Or.inr q)), i1 g k (fun q => h (Or.inl q))]
  · rw [← l1 g k h]; show M3.2.1 g k = M1.2.1 g k; rw [l3, l2]
