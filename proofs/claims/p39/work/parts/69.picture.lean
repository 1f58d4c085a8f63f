/-! PURE PART: calls about the picture -/
/-- P with another picture -/
def picP (P : PM) (f : Nat → Px) : PM := fun g k => if k < 960 then (if g = 138 then (f k).1 else if g = 139 then (f k).2.1 else if g = 140 then (f k).2.2 else P g k) else P g k
theorem picP_o (P : PM) (f : Nat → Px) {g k : Nat} (h : ¬ (138 ≤ g ∧ g ≤ 140 ∧ k < 960)) : picP P f g k = P g k := by
  unfold picP
  by_cases q : k < 960
  · rw [if_pos q, if_neg (by omega), if_neg (by omega), if_neg (by omega)]
  · rw [if_neg q]
theorem picP_8 (P : PM) (f : Nat → Px) {k : Nat} (h : k < 960) : picP P f 138 k = (f k).1 ∧ picP P f 139 k = (f k).2.1 ∧ picP P f 140 k = (f k).2.2 := by
  unfold picP
  exact ⟨by rw [if_pos h, if_pos rfl], by rw [if_pos h, if_neg (by omega), if_pos rfl], by rw [if_pos h, if_neg (by omega), if_neg (by omega), if_pos rfl]⟩
theorem picP_OK {P : PM} {f : Nat → Px} (h : OK P) (hf : ∀ k, k < 960 → pxOK (f k)) : OK (picP P f) := by
  rw [OK_iff] at h ⊢
  intro g k
  by_cases q : 138 ≤ g ∧ g ≤ 140 ∧ k < 960
  · obtain ⟨h8, h9, h0⟩ := picP_8 P f q.2.2
    rcases (show g = 138 ∨ g = 139 ∨ g = 140 by omega) with rfl | rfl | rfl
    · rw [h8]; exact okC_col (by omega) (hf k q.2.2)
    · exact okC_no (by omega)
    · exact okC_no (by omega)
  · rw [picP_o P f q]; exact h g k
theorem picP_DJ {P : PM} {f : Nat → Px} (h : DJ P) : DJ (picP P f) := DJ_same h (picP_o P f (by omega)) fun k => picP_o P f (by omega)
theorem cm_pic' {g k a b : Nat} (h : cm g k a b) : (138 ≤ g ∧ g ≤ 140 ∧ k < 960 ∧ a + 110 = g ∧ b = k) ∨ (¬ (138 ≤ g ∧ g ≤ 140 ∧ k < 960) ∧ ¬ (28 ≤ a ∧ a ≤ 30)) := by
  unfold cm at h
  rcases h with h | h | h | h | h | h | h | h <;> omega
theorem picP_CS {P : PM} {M M' : GM} {f : Nat → Px} (h : CS P M) (hx : ∀ k, k < 960 → cPx M' 27 k = f k) (hf : ∀ g k, ¬ (28 ≤ g ∧ g ≤ 30) → gI M' g k = gI M g k) : CS (picP P f) M' := by
  refine ⟨?_, h.2.to fun k => hf _ _ (by omega)⟩
  have hv := (CV_iff P M).mp h.1
  rw [CV_iff]
  intro g k a b hc
  rcases cm_pic' hc with ⟨h1, h2, h3, h4, rfl⟩ | ⟨h1, h2⟩
  · obtain ⟨h8, h9, h0⟩ := picP_8 P f h3
    have e := hx b h3
    rcases (show a = 28 ∨ a = 29 ∨ a = 30 by omega) with rfl | rfl | rfl <;> subst h4
    · rw [h8, ← e]; rfl
    · rw [h9, ← e]; rfl
    · rw [h0, ← e]; rfl
  · rw [picP_o P f h1, hf a b h2]; exact hv g k a b hc
theorem c_copyScr {M : GM} {F : Nat} : ∃ M', f_X7_copy F 27 31 M = some M' ∧ (∀ k, k < 960 → cPx M' 27 k = cPx M 31 k) ∧ (∀ g k, ¬ (28 ≤ g ∧ g ≤ 30) → gI M' g k = gI M g k) := by
  refine ⟨sC (sC (sC M (27 + 1) 0 960 (fun j => gI M (31 + 1) j)) (27 + 2) 0 960 (fun j => gI M (31 + 2) j)) (27 + 3) 0 960 (fun j => gI M (31 + 3) j), ?_, fun k hk => ?_, fun g k h => ?_⟩
  · unfold f_X7_copy
    rw [gN_scr (by omega) (by omega) (by omega), gN_scr (by omega) (by omega) (by omega), gN_scr (by omega) (by omega) (by omega), gN_scr (by omega) (by omega) (by omega), gN_scr (by omega) (by omega) (by omega), gN_scr (by omega) (by omega) (by omega)]
    rw [grd_t (by decide), grd_t (by decide), bnd_d, grd_t (by decide), grd_t (by decide), bnd_d, grd_t (by decide), grd_t (by decide), bnd_d]
    rfl
  · unfold cPx
    simp only [gI_sC]
    simp [hk]
  · rw [gI_sC, if_neg (by omega), gI_sC, if_neg (by omega), gI_sC, if_neg (by omega)]
theorem pt_ix {x y : Nat} : nI y * (40 : Int32) + nI x = nI (y * 40 + x) := by rw [i_40, n_m, n_a]
def sWith (P : PM) (p : Nat) : Nat := cntB (fun k => decide (P 140 k = nI p)) 960
theorem cq_pointsWith {P : PM} {M : GM} {F p : Nat} (hF : 3000 ≤ F) (hO : OK P) (hC : CV P M) (hp : p < sN P) : f_X10_pointsWith F (nI p) M = some (.inr (nI (sWith P p))) := by
  have L : ∃ q, lp_X10_pointsWith_22 F (nI p) 960 M F 0 0 = some q ∧ q = nI (sWith P p) := by
    refine run_up (fun n (s : Int32 × Int32) => lp_X10_pointsWith_22 F (nI p) 960 M n s.1 s.2) (fun i s => s.2 = nI i ∧ s.1 = nI (cntB (fun k => decide (P 140 k = nI p)) i)) _ 0 960 F (by omega) (by omega) (s := (0, 0)) ⟨rfl, rfl⟩ ?_ ?_
    · rintro i ⟨c, x⟩ - hi ⟨rfl, rfl⟩
      refine ⟨(nI (cntB (fun k => decide (P 140 k = nI p)) (i + 1)), nI (i + 1)), ⟨rfl, rfl⟩, fun n => ?_⟩
      show lp_X10_pointsWith_22 F (nI p) 960 M (n + 1) (nI (cntB (fun k => decide (P 140 k = nI p)) i)) (nI i) = lp_X10_pointsWith_22 F (nI p) 960 M n (nI (cntB (fun k => decide (P 140 k = nI p)) i + if decide (P 140 i = nI p) = true then 1 else 0)) (nI (i + 1))
      rw [el_X10_pointsWith_22]
      unfold st_X10_pointsWith_22
      rw [if_neg (by rw [i_960, n_le (by omega) (by omega)]; omega), gn_30, grd_t (n_in hi (by omega)), n_cl (by omega), bnd_d, (hC.2.2.2.2.2 i hi).2.2]
      by_cases w : P 140 i = nI p
      · rw [if_pos w, if_pos (decide_eq_true w), bnd_d, bnd_d, i_1, n_a, n_a]
      · rw [if_neg w, if_neg (by rw [decide_eq_true_eq]; exact w), bnd_d, i_1, n_a] <;> rfl
    · rintro ⟨c, x⟩ ⟨rfl, rfl⟩
      refine ⟨_, rfl, fun n => ?_⟩
      show lp_X10_pointsWith_22 F (nI p) 960 M (n + 1) _ (nI 960) = _
      rw [el_X10_pointsWith_22]
      unfold st_X10_pointsWith_22
      rw [if_pos (by decide)] <;> rfl
  obtain ⟨q, e, rfl⟩ := L
  unfold f_X10_pointsWith
  rw [c_reqPane hO hC, if_pos (in_pane hO hp), bndTr, bnd_d, bnd_d, bnd_d, bndO_s _ e]
