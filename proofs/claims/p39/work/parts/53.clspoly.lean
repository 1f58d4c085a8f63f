/-! PURE PART: the class cuts a pane -/
theorem c110_same {F : Nat} (rec : Int32 → GM → Option GM) (nr f : Int32) (i p q : Nat) (M : GM) : bk_X8_cutAt_110_7 F rec nr (nI i) p q f f M = rec (nI (i + 1)) M := by
  unfold bk_X8_cutAt_110_7
  rw [if_pos rfl, bnd_d, i_1, n_a]
theorem c110_out {F n : Nat} (rec : Int32 → GM → Option GM) (nr : Int32) (i p q : Nat) {M M5 : GM} (hn : n < 4) (hc : gI M 6 3 = nI n) (h : f_X9_cut F (12 + n) p q nr M = some M5) (h5 : gI M5 6 3 = nI n) : bk_X8_cutAt_110_7 F rec nr (nI i) p q 1 0 M = rec (nI (i + 1)) (sI M5 6 3 (nI (n + 1))) := by
  unfold bk_X8_cutAt_110_7
  rw [if_neg (by decide), hc, if_neg (by rw [i_4, n_le (by omega) (by omega)]; omega), gn_11, grd_t (n_in hn (by omega)), n_cl (by omega), bnd_d, gr_11, if_neg (by decide)]
  unfold bk_X8_cutAt_149_7
  rw [if_neg (by decide)]
  unfold bk_X8_cutAt_160_7
  rw [bndO_s _ h, bnd_d, bnd_d, h5, i_1, n_a, n_a]
theorem c110_in {F n : Nat} (rec : Int32 → GM → Option GM) (nr : Int32) (i p q : Nat) {M M5 : GM} (hn : n < 4) (hc : gI M 6 3 = nI n) (h : f_X9_cut F (12 + n) q p nr M = some M5) (h5 : gI M5 6 3 = nI n) : bk_X8_cutAt_110_7 F rec nr (nI i) p q 0 1 M = rec (nI (i + 1)) (sI M5 6 3 (nI (n + 1))) := by
  unfold bk_X8_cutAt_110_7
  rw [if_neg (by decide), hc, if_neg (by rw [i_4, n_le (by omega) (by omega)]; omega), gn_11, grd_t (n_in hn (by omega)), n_cl (by omega), bnd_d, gr_11, if_pos rfl]
  unfold bk_X8_cutAt_149_7
  rw [if_pos rfl]
  unfold bk_X8_cutAt_160_7
  rw [bndO_s _ h, bnd_d, bnd_d, h5, i_1, n_a, n_a]
theorem c68_out {F : Nat} (rec : Int32 → GM → Option GM) (nr g : Int32) (i p q : Nat) (M : GM) : bk_X8_cutAt_68_7 F rec nr (nI i) p q 0 g M = bk_X8_cutAt_110_7 F rec nr (nI i) p q 0 g M := by
  unfold bk_X8_cutAt_68_7
  rw [bnd_d, if_pos rfl]
theorem c68_in {F n : Nat} (rec : Int32 → GM → Option GM) (nr g : Int32) (i p q : Nat) {M : GM} (hn : n < 4) (hc : gI M 6 3 = nI n) (h5 : gI (f_X9_copy (12 + n) p M) 6 3 = nI n) : bk_X8_cutAt_68_7 F rec nr (nI i) p q 1 g M = bk_X8_cutAt_110_7 F rec nr (nI i) p q 1 g (sI (f_X9_copy (12 + n) p M) 6 3 (nI (n + 1))) := by
  unfold bk_X8_cutAt_68_7
  rw [bnd_d, if_neg (by decide), hc, if_neg (by rw [i_4, n_le (by omega) (by omega)]; omega), gn_11, grd_t (n_in hn (by omega)), n_cl (by omega), bnd_d, gr_11, bnd_d, bnd_d, h5, i_1, n_a]
theorem c_step {P : PM} {M : GM} {F i : Nat} {a b : V} {l : List V} {nr : Int32} (hnr : nr.toInt = sNear P) (hO : OK P) (hi : i < 3) (hl : cPoly M l)
    (ha : ∀ k, k < 8 → (gI M (8 + i) k).toInt = a k) (hb : ∀ k, k < 8 → (gI M (8 + (i + 1) % 3) k).toInt = b k) (ga : gv0 a) (gb : gv0 b) (h4 : l.length + (sEdge (sNear P) a b).length ≤ 4) :
    ∃ M', (∀ rec, st_X8_cutAt_7 F nr rec (nI i) M = rec (nI (i + 1)) M') ∧ cPoly M' (l ++ sEdge (sNear P) a b) ∧ (∀ g k, ¬ caS g k → gI M' g k = gI M g k) ∧ M'.2 = M.2 := by
  have modl : nI (i + 1) - nI (i + 1) / nI 3 * nI 3 = nI ((i + 1) % 3) := by
    rcases (show i = 0 ∨ i = 1 ∨ i = 2 by omega) with rfl | rfl | rfl <;> decide +kernel
  have h3i : ¬ (3 : Int32) ≤ nI i := by rw [i_3, n_le (by omega) (by omega)]; omega
  have hm3 : (i + 1) % 3 < 3 := Nat.mod_lt _ (by omega)
  have ca : gI M (8 + i) 2 < nr ↔ a 2 < sNear P := a_lt (ha 2 (by omega)) hnr
  have cb : gI M (8 + (i + 1) % 3) 2 < nr ↔ b 2 < sNear P := a_lt (hb 2 (by omega)) hnr
  have head : ∀ rec, st_X8_cutAt_7 F nr rec (nI i) M = bk_X8_cutAt_68_7 F rec nr (nI i) (8 + i) (8 + (i + 1) % 3) (if a 2 < sNear P then 0 else 1) (if b 2 < sNear P then 0 else 1) M := fun rec => by
    unfold st_X8_cutAt_7
    rw [if_neg h3i, i_1, i_3, n_a, modl, gn_7, grd_t (n_in hi (by omega)), bnd_d, grd_t (n_in hm3 (by omega)), bnd_d, n_cl (by omega), n_cl (by omega), gr_7, gr_7]
    unfold bk_X8_cutAt_52_7
    rw [bnd_d, bnd_d]
    by_cases h1 : a 2 < sNear P
    · rw [if_pos (ca.mpr h1), if_pos h1]
      by_cases h2 : b 2 < sNear P
      · rw [if_pos (cb.mpr h2), if_pos h2]; try rfl
      · rw [if_neg (fun q => h2 (cb.mp q)), if_neg h2]; try rfl
    · rw [if_neg (fun q => h1 (ca.mp q)), if_neg h1]
      by_cases h2 : b 2 < sNear P
      · rw [if_pos (cb.mpr h2), if_pos h2]; try rfl
      · rw [if_neg (fun q => h2 (cb.mp q)), if_neg h2]; try rfl
  unfold sEdge at h4 ⊢
  by_cases h1 : sNear P ≤ a 2
  · rw [if_pos h1] at h4 ⊢
    have l4 : l.length < 4 := by split at h4 <;> simp at h4 <;> omega
    obtain ⟨y1, y2, y3⟩ := c_copy (M := M) (o := 12 + l.length) (a := 8 + i) (p := a) (by omega) ha
    have c63 : gI (f_X9_copy (12 + l.length) (8 + i) M) 6 3 = nI l.length := by rw [y2 6 3 (by omega)]; exact hl.1
    generalize hM1 : sI (f_X9_copy (12 + l.length) (8 + i) M) 6 3 (nI (l.length + 1)) = M1
    have i1 : ∀ g k, g ≠ 12 + l.length → ¬ (g = 6 ∧ k = 3) → gI M1 g k = gI M g k := fun g k q1 q2 => by rw [← hM1, gI_sI, if_neg q2, y2 g k q1]
    have m1 : cPoly M1 (l ++ [a]) := cPoly_add hl (by rw [← hM1, gI_sI, if_pos ⟨rfl, rfl⟩]) (fun k hk => by rw [← hM1, gI_sI, if_neg (by omega)]; exact y1 k hk) i1
    have s1 : M1.2 = M.2 := by rw [← hM1]; exact y3
    by_cases h2 : sNear P ≤ b 2
    · rw [if_pos h2] at h4 ⊢
      refine ⟨M1, fun rec => ?_, m1, fun g k q => i1 g k (by unfold caS at q; omega) (by unfold caS at q; omega), s1⟩
      rw [head, if_neg (by omega), if_neg (by omega), c68_in rec nr 1 i _ _ l4 hl.1 c63, c110_same, hM1]
    · rw [if_neg h2] at h4 ⊢
      have l5 : l.length + 1 < 4 := by simp at h4; omega
      obtain ⟨M5, t5, u5, f5, s5⟩ := c_cut (F := F) (M := M1) (a := 8 + i) (b := 8 + (i + 1) % 3) (o := 12 + (l.length + 1)) (p := a) (q := b) hnr hO ⟨by omega, by omega⟩ (fun k hk => by rw [i1 _ k (by omega) (by omega)]; exact ha k hk) (fun k hk => by rw [i1 _ k (by omega) (by omega)]; exact hb k hk) ga gb h1 h2
      have c5 : gI M1 6 3 = nI (l.length + 1) := by rw [m1.1]; simp
      have c6 : gI M5 6 3 = nI (l.length + 1) := by rw [f5 6 3 (by omega), c5]
      refine ⟨sI M5 6 3 (nI (l.length + 1 + 1)), fun rec => ?_, ?_, fun g k q => ?_, ?_⟩
      · rw [head, if_neg (by omega), if_pos (by omega), c68_in rec nr 0 i _ _ l4 hl.1 c63, hM1, c110_out rec nr i _ _ l5 c5 t5 c6]
      · rw [show l ++ [a, sCut (sNear P) a b] = (l ++ [a]) ++ [sCut (sNear P) a b] by simp]
        have e : (l ++ [a]).length = l.length + 1 := by simp
        refine cPoly_add m1 (by rw [e, gI_sI, if_pos ⟨rfl, rfl⟩]) (fun k hk => ?_) (fun g k q1 q2 => ?_)
        · rw [e, gI_sI, if_neg (by omega)]; exact u5 k hk
        · rw [e] at q1; rw [gI_sI, if_neg q2, f5 g k q1]
      · unfold caS at q
        rw [gI_sI, if_neg (by omega), f5 g k (by omega), i1 g k (by omega) (by omega)]
      · exact s5.trans s1
  · rw [if_neg h1] at h4 ⊢
    by_cases h2 : sNear P ≤ b 2
    · rw [if_pos h2] at h4 ⊢
      have l4 : l.length < 4 := by simp at h4; omega
      obtain ⟨M5, t5, u5, f5, s5⟩ := c_cut (F := F) (M := M) (a := 8 + (i + 1) % 3) (b := 8 + i) (o := 12 + l.length) (p := b) (q := a) hnr hO ⟨by omega, by omega⟩ hb ha gb ga h2 h1
      have c6 : gI M5 6 3 = nI l.length := by rw [f5 6 3 (by omega)]; exact hl.1
      refine ⟨sI M5 6 3 (nI (l.length + 1)), fun rec => ?_, ?_, fun g k q => ?_, ?_⟩
      · rw [head, if_pos (by omega), if_neg (by omega), c68_out, c110_in rec nr i _ _ l4 hl.1 t5 c6]
      · refine cPoly_add hl (by rw [gI_sI, if_pos ⟨rfl, rfl⟩]) (fun k hk => ?_) (fun g k q1 q2 => ?_)
        · rw [gI_sI, if_neg (by omega)]; exact u5 k hk
        · rw [gI_sI, if_neg q2, f5 g k q1]
      · unfold caS at q
        rw [gI_sI, if_neg (by omega), f5 g k (by omega)]
      · exact s5
    · rw [if_neg h2, List.append_nil]
      refine ⟨M, fun rec => ?_, hl, fun _ _ _ => rfl, rfl⟩
      rw [head, if_pos (by omega), if_pos (by omega), c68_out, c110_same]
theorem c_cutAt {P : PM} {M : GM} {F : Nat} {a b c : V} {nr : Int32} (hF : 3000 ≤ F) (hnr : nr.toInt = sNear P) (hO : OK P)
    (ha : ∀ k, k < 8 → (gI M 8 k).toInt = a k) (hb : ∀ k, k < 8 → (gI M 9 k).toInt = b k) (hc : ∀ k, k < 8 → (gI M 10 k).toInt = c k) (ga : gv0 a) (gb : gv0 b) (gc : gv0 c) :
    ∃ M', f_X8_cutAt F nr M = some M' ∧ cPoly M' (sPoly (sNear P) a b c) ∧ (∀ g k, ¬ caS g k → gI M' g k = gI M g k) ∧ M'.2 = M.2 := by
  obtain ⟨b1, b2, b3, b4⟩ := sPoly_len (sNear P) a b c
  have e0 : ∀ g k, 8 ≤ g → g ≤ 10 → gI (sI M 6 3 0) g k = gI M g k := fun g k q1 q2 => by rw [gI_sI, if_neg (by omega)]
  obtain ⟨M1, t1, l1, f1, s1⟩ := c_step (F := F) (M := sI M 6 3 0) (i := 0) (l := []) hnr hO (by omega) ⟨by rw [gI_sI, if_pos ⟨rfl, rfl⟩]; rfl, fun j v hv => by simp at hv⟩ (fun k hk => by rw [e0 _ _ (by omega) (by omega)]; exact ha k hk) (fun k hk => by rw [e0 _ _ (by omega) (by omega)]; exact hb k hk) ga gb (by simp; omega)
  have e1 : ∀ g k, 8 ≤ g → g ≤ 10 → gI M1 g k = gI M g k := fun g k q1 q2 => by rw [f1 g k (by unfold caS; omega), e0 g k q1 q2]
  obtain ⟨M2, t2, l2, f2, s2⟩ := c_step (F := F) (i := 1) hnr hO (by omega) l1 (fun k hk => by rw [e1 _ _ (by omega) (by omega)]; exact hb k hk) (fun k hk => by rw [e1 _ _ (by omega) (by omega)]; exact hc k hk) gb gc (by simp; omega)
  have e2 : ∀ g k, 8 ≤ g → g ≤ 10 → gI M2 g k = gI M g k := fun g k q1 q2 => by rw [f2 g k (by unfold caS; omega), e1 g k q1 q2]
  obtain ⟨M3, t3, l3, f3, s3⟩ := c_step (F := F) (i := 2) hnr hO (by omega) l2 (fun k hk => by rw [e2 _ _ (by omega) (by omega)]; exact hc k hk) (fun k hk => by rw [e2 _ _ (by omega) (by omega)]; exact ha k hk) gc ga (by simp only [List.length_append, List.nil_append]; omega)
  refine ⟨M3, ?_, ?_, fun g k q => ?_, ?_⟩
  · have L : lp_X8_cutAt_7 F nr F 0 (sI M 6 3 0) = some M3 := by
      obtain ⟨m, hm⟩ : ∃ m, F = m + 4 := ⟨F - 4, by omega⟩
      generalize hX : lp_X8_cutAt_7 F nr = X
      have el : ∀ f a M, X (f + 1) a M = st_X8_cutAt_7 F nr (X f) a M := fun f a M => by rw [← hX]; rfl
      rw [hm]
      show X (m + 3 + 1) (nI 0) (sI M 6 3 0) = _
      rw [el, t1, el, t2, el, t3, el]
      unfold st_X8_cutAt_7
      rw [if_pos (by decide)]
    unfold f_X8_cutAt
    rw [bnd_d, bnd_d, bndO_s _ L]
  · have e : sPoly (sNear P) a b c = [] ++ sEdge (sNear P) a b ++ sEdge (sNear P) b c ++ sEdge (sNear P) c a := by
      unfold sPoly; simp
    rw [e]; exact l3
  · rw [f3 g k q, f2 g k q, f1 g k q, gI_sI, if_neg (by unfold caS at q; omega)]
  · rw [s3, s2, s1]; rfl
/-- a corner of the polygon on the screen -/
def cSp (P : PM) (M : GM) (o : Nat) (v : V) : Prop := (∀ k, k < 8 → (gI M o k).toInt = v k) ∧ (gI M o 8).toInt = sX (sFoc P) v ∧ (gI M o 9).toInt = sY (sFoc P) v ∧ (gI M o 10).toInt = sDp (sNear P) v ∧ (gI M o 11).toInt = sWt v
theorem cSp.to {P : PM} {M M' : GM} {o : Nat} {v : V} (h : cSp P M o v) (f : ∀ k, gI M' o k = gI M o k) : cSp P M' o v := by
  unfold cSp at h ⊢
  simp only [f]; exact h
theorem c_project {P : PM} {M : GM} {F o : Nat} {v : V} (hO : OK P) (hR : CV P M) (ho : 12 ≤ o ∧ o ≤ 15) (hv : ∀ k, k < 8 → (gI M o k).toInt = v k) (gvv : gv (sNear P) v) :
    ∃ M', f_X1_project F o M = some M' ∧ cSp P M' o v ∧ (∀ g k, g ≠ o → gI M' g k = gI M g k) ∧ (∀ k, k < 8 → gI M' o k = gI M o k) ∧ M'.2 = M.2 := by
  have hf : 1 ≤ sFoc P ∧ sFoc P ≤ 500 := hO.2.2.1
  have hn : 1 ≤ sNear P ∧ sNear P ≤ 1000 := hO.2.1
  obtain ⟨-, -, -, en, ef⟩ := hR.1
  have fo : (gI M 4 2).toInt = sFoc P := by rw [ef]; rfl
  have ne : (gI M 4 1).toInt = sNear P := by rw [en]; rfl
  have rx := sX_rg hf hn.1 gvv
  have ry := sY_rg hf hn.1 gvv
  have rd := sDp_rg hn.1 gvv
  have rw' := sWt_rg hn.1 gvv
  have v2 := gvv.2
  have z2 := a_64 (hv 2 (by omega))
  have s0 := a_mul64 (show (16 : Int64).toInt = 16 from rfl) (a_64 fo) (by omega) (by omega)
  obtain ⟨x, x1, x2⟩ := a_cutDown F M (a_mul64 s0 (a_64 (hv 0 (by omega))) (by omega) (by omega)) z2 (by omega) (by omega) (by omega)
  have X := a_add (show (320 : Int32).toInt = 320 from rfl) (a_32 x2 (by omega) (by omega)) (by omega) (by omega)
  generalize hM1 : sI M o 8 (320 + x.toInt32) = M1
  have g1 : ∀ g k, ¬ (g = o ∧ k = 8) → gI M1 g k = gI M g k := fun g k q => by rw [← hM1, gI_sI, if_neg q]
  obtain ⟨y, y1, y2⟩ := a_cutDown F M1 (a_mul64 s0 (a_64 (hv 1 (by omega))) (by omega) (by omega)) z2 (by omega) (by omega) (by omega)
  have Y := a_add (show (192 : Int32).toInt = 192 from rfl) (a_32 y2 (by omega) (by omega)) (by omega) (by omega)
  generalize hM2 : sI M1 o 9 (192 + y.toInt32) = M2
  have g2 : ∀ g k, ¬ (g = o ∧ k = 9) → gI M2 g k = gI M1 g k := fun g k q => by rw [← hM2, gI_sI, if_neg q]
  obtain ⟨d, d1, d2⟩ := a_cutDown F M2 (a_mul64 (show (65535 : Int64).toInt = 65535 from rfl) (a_64 ne) (by omega) (by omega)) z2 (by omega) (by omega) (by omega)
  have D := a_sub (show (65535 : Int32).toInt = 65535 from rfl) (a_32 d2 (by omega) (by omega)) (by omega) (by omega)
  generalize hM3 : sI M2 o 10 (65535 - d.toInt32) = M3
  have g3 : ∀ g k, ¬ (g = o ∧ k = 10) → gI M3 g k = gI M2 g k := fun g k q => by rw [← hM3, gI_sI, if_neg q]
  obtain ⟨w, w1, w2⟩ := a_cutDown F M3 (show (65536 : Int64).toInt = 65536 from rfl) z2 (by omega) (by omega) (by omega)
  have W := a_add (a_32 w2 (by omega) (by omega)) (show (1 : Int32).toInt = 1 from rfl) (by omega) (by omega)
  have lo : ∀ g k, ¬ (g = o ∧ 8 ≤ k) → gI (sI M3 o 11 (w.toInt32 + 1)) g k = gI M g k := fun g k q => by
    rw [gI_sI, if_neg (by omega), g3 g k (by omega), g2 g k (by omega), g1 g k (by omega)]
  refine ⟨sI M3 o 11 (w.toInt32 + 1), ?_, ⟨fun k hk => ?_, ?_, ?_, ?_, ?_⟩, fun g k q => lo g k (by omega), fun k hk => lo o k (by omega), ?_⟩
  · unfold f_X1_project
    rw [bnd_d, bndO_s _ x1, bnd_d, hM1, g1 o 1 (by omega), g1 o 2 (by omega), bndO_s _ y1, bnd_d, hM2, g2 4 1 (by omega), g1 4 1 (by omega), g2 o 2 (by omega), g1 o 2 (by omega), bndO_s _ d1, bnd_d, hM3, g3 o 2 (by omega), g2 o 2 (by omega), g1 o 2 (by omega), bndO_s _ w1, bnd_d]
  · rw [lo o k (by omega)]; exact hv k hk
  · rw [gI_sI, if_neg (by omega), g3 o 8 (by omega), g2 o 8 (by omega), ← hM1, gI_sI, if_pos ⟨rfl, rfl⟩]; exact X
  · rw [gI_sI, if_neg (by omega), g3 o 9 (by omega), ← hM2, gI_sI, if_pos ⟨rfl, rfl⟩]; exact Y
  · rw [gI_sI, if_neg (by omega), ← hM3, gI_sI, if_pos ⟨rfl, rfl⟩]; exact D
  · rw [gI_sI, if_pos ⟨rfl, rfl⟩]; exact W
  · rw [← hM1] at hM2; rw [← hM2] at hM3; rw [← hM3]; rfl
