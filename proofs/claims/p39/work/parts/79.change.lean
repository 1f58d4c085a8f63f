/-! PURE PART: one change by the law -/
section CHG
variable {P : PM} {M : GM} {F L9 t : Nat} {xs9 : Nat → Int32}
theorem p_ch154 {p : Nat} {b : Int32} (hS : ST P M t) (hp : p < sN P) (hb : b = 0 ∨ b = 1) : ∃ P' M', bk_X11_change_154 F L9 xs9 (nI p) (P 134 p) b 2 (203 + p) M = some (1, M') ∧ ST P' M' t ∧ cnt P P' := by
  obtain ⟨hI, hV, ht⟩ := id hS
  obtain ⟨-, -, -, n30⟩ := hS.c
  have p30 : p < 30 := by omega
  obtain ⟨Ma, hMa⟩ : ∃ x, x = sI M (203 + p) 2 b := ⟨_, rfl⟩
  have hIa : cI P Ma := hI.lo fun g j h => by rw [hMa, gI_sI, if_neg (by omega)]
  have hVa : SV (u2 P 134 p b) Ma := by rw [hMa]; exact SV_set hV (sm_is (by omega) (by omega) p30 rfl)
  have x0 : gI Ma (203 + p) 2 = b := by rw [hMa, gI_sI, if_pos ⟨rfl, rfl⟩]
  obtain ⟨Mb, eb, hb2, gb⟩ := co_show (F := F) hIa hp hb
  refine ⟨_, Mb, ?_, ⟨hb2, hVa.to fun a b hs => gb a b hs.1, by rw [gb 122 2 (by omega), hMa, gI_sI, if_neg (by omega)]; exact ht⟩, cnt_set (by omega) (by omega)⟩
  unfold bk_X11_change_154
  rw [gN_iss p30, grd_t (by decide), grd_t (tf_ok hb), bnd_d, show (2 : Int32).toNatClampNeg = 2 by decide, ← hMa, gg_125, grd_t (n_in p30 (by omega)), bnd_d, n_cl (show p < 2147483648 by omega), rr_125, gN_iss p30, grd_t (by decide), x0, bndT_r _ _ eb]
  dsimp only
  rw [if_pos rfl]
theorem p_ch218 {n : Nat} {b : Int32} (hL : L9 ≤ 260) (hS : ST P M t) (hn : n < 4) (hb : b = 0 ∨ b = 1) (t2 : t + 20 < 1000000) : ∃ P' M' t', bk_X11_change_218 F L9 xs9 (nI n) (P 136 n) b (nI n) M = some (1, M') ∧ ST P' M' t' ∧ t' ≤ t + 5 ∧ cnt P P' := by
  obtain ⟨hI, hV, ht⟩ := id hS
  obtain ⟨Ma, hMa⟩ : ∃ x, x = sI M 128 n b := ⟨_, rfl⟩
  have hIa : cI P Ma := hI.lo fun g j h => by rw [hMa, gI_sI, if_neg (by omega)]
  have hVa : SV (u2 P 136 n b) Ma := by rw [hMa]; exact SV_set hV (sm_rep hn)
  have x0 : gI Ma 128 n = b := by rw [hMa, gI_sI, if_pos ⟨rfl, rfl⟩]
  obtain ⟨Mb, eb, hb2, gb⟩ := co_setRepeats (F := F) hIa hn hb
  obtain ⟨P', M', t', e9, h9, q9, c9⟩ := p_colourPattern (F := F) (xs9 := xs9) hL (show ST (u2 P 136 n b) Mb t from ⟨hb2, hVa.to fun a b hs => gb a b hs.1, by rw [gb 122 2 (by omega), hMa, gI_sI, if_neg (by omega)]; exact ht⟩) t2
  refine ⟨P', M', t', ?_, h9, q9, (cnt_set (by omega) (by omega)).tr c9⟩
  unfold bk_X11_change_218
  rw [gg_128, grd_t (n_in hn (by omega)), grd_t (tf_ok hb), bnd_d, n_cl (show n < 2147483648 by omega), ← hMa, grd_t (n_in hn (by omega)), x0, bndT_r _ _ eb]
  dsimp only
  rw [if_pos rfl, bndO_s _ e9]
  dsimp only
  rw [if_neg (by decide)]
theorem p_change (hF : 3000 ≤ F) (hL : L9 ≤ 260) (hS : ST P M t) (hc : 1 ≤ sC1 P) (hn : 1 ≤ sN P) (t2 : t + 100 < 1000000) : ∃ P' M' t', f_X11_change F L9 xs9 M = some (1, M') ∧ ST P' M' t' ∧ t' ≤ t + 10 ∧ cnt P P' := by
  obtain ⟨hI, hV, ht⟩ := id hS
  obtain ⟨v0, M1, d0, r0, c0, f0⟩ := p_draw (F := F) (xs9 := xs9) (n := 8) hL ht (by omega) (by decide)
  have km1 : Km M M1 := (Km.rf M).d f0
  have hS1 : ST P M1 (t + 1) := ⟨km1.cI hI, km1.SV hV, c0⟩
  obtain ⟨c3, c4, n40, n30⟩ := hS1.c
  obtain ⟨k, rfl, hk⟩ := d_nat r0
  have hk : k < 8 := by have : ((8 : Int32).toInt) = 8 := rfl; omega
  have dr : ∀ n : Int32, 0 < n.toInt → ∃ (j : Nat) (M2 : GM), f_X11_draw F L9 xs9 n M1 = some (nI j, M2) ∧ (j : Int) < n.toInt ∧ ST P M2 (t + 2) ∧ Km M1 M2 := fun n h0 => by
    obtain ⟨v, M2, d2, r2, c2, f2⟩ := p_draw (F := F) (xs9 := xs9) (n := n) hL c0 (by omega) h0
    obtain ⟨j, rfl, hj⟩ := d_nat r2
    have km2 : Km M1 M2 := (Km.rf M1).d f2
    exact ⟨j, M2, d2, hj, ⟨km2.cI hS1.1, km2.SV hS1.2.1, c2⟩, km2⟩
  have i2 : (2 : Int32).toInt = 2 := rfl
  have i3 : (3 : Int32).toInt = 3 := rfl
  have i4 : (4 : Int32).toInt = 4 := rfl
  rcases (show k < 2 ∨ k = 2 ∨ k = 3 ∨ k = 4 ∨ k = 5 ∨ k = 6 ∨ k = 7 by omega) with k01 | rfl | rfl | rfl | rfl | rfl | rfl
  · obtain ⟨j, M2, d2, hj, hS2, -⟩ := dr (nI (sC1 P)) (by rw [n_int (by omega)]; omega)
    rw [n_int (by omega)] at hj
    obtain ⟨P', M', t', e9, h9, q9, c9⟩ := p_move (F := F) (xs9 := xs9) hF hL hS2 (show j < sC1 P by omega) (by omega)
    refine ⟨P', M', t', ?_, h9, by omega, c9⟩
    unfold f_X11_change
    rw [bndO_s _ d0]
    dsimp only
    rw [bnd_d, if_neg (by rw [i_2, n_le (by omega) (by omega)]; omega), c3, bndO_s _ d2]
    dsimp only
    rw [bndO_s _ e9]
    dsimp only
    rw [grd_t (by decide)]
  · obtain ⟨j, M2, d2, hj, hS2, -⟩ := dr 3 (by decide)
    obtain ⟨P', M', t', e9, h9, q9, c9⟩ := p_turnCamera (F := F) (xs9 := xs9) hF hL hS2 (show j < 3 by omega) (by omega)
    refine ⟨P', M', t', ?_, h9, by omega, c9⟩
    unfold f_X11_change
    rw [bndO_s _ d0]
    dsimp only
    rw [bnd_d, if_pos (by decide), if_pos (by decide), bndO_s _ d2]
    dsimp only
    rw [bndO_s _ e9]
    dsimp only
    rw [grd_t (by decide)]
  · obtain ⟨P', M', t', e9, h9, q9, c9⟩ := p_setLens (F := F) (xs9 := xs9) hF hL hS1 (by omega)
    refine ⟨P', M', t', ?_, h9, by omega, c9⟩
    unfold f_X11_change
    rw [bndO_s _ d0]
    dsimp only
    rw [bnd_d, if_pos (by decide), if_neg (by decide), if_pos (by decide), bndO_s _ e9]
    dsimp only
    rw [grd_t (by decide)]
  · obtain ⟨c, M2, d2, hj, hS2, km2⟩ := dr (nI (sC1 P)) (by rw [n_int (by omega)]; omega)
    rw [n_int (by omega)] at hj
    have hc1 : c < sC1 P := by omega
    have h40 : c < 40 := by omega
    obtain ⟨hI2, hV2, ht2⟩ := id hS2
    have x2 : gI M2 (133 + c) 3 = P 127 c := hV2 _ _ _ _ (sm_cor (by omega) (by omega) h40 rfl)
    obtain ⟨v3, M3, d3, r3, c3', f3⟩ := p_colour (F := F) (xs9 := xs9) hL ht2 (by omega)
    have km3 : Km M2 M3 := (Km.rf M2).d f3
    obtain ⟨M4, hM4⟩ : ∃ x, x = sI M3 (133 + c) 3 v3 := ⟨_, rfl⟩
    have hI4 : cI P M4 := (km3.cI hI2).lo fun g j h => by rw [hM4, gI_sI, if_neg (by omega)]
    have hV4 : SV (u2 P 127 c v3) M4 := by rw [hM4]; exact SV_set (km3.SV hV2) (sm_cor (by omega) (by omega) h40 rfl)
    have x4 : gI M4 (133 + c) 3 = v3 := by rw [hM4, gI_sI, if_pos ⟨rfl, rfl⟩]
    obtain ⟨M5, e5, h5, g5⟩ := co_setColour (F := F) hI4 hc1 r3
    refine ⟨_, M5, _, ?_, ⟨h5, hV4.to fun a b hs => g5 a b hs.1, by rw [g5 122 2 (by omega), hM4, gI_sI, if_neg (by omega)]; exact c3'⟩, by omega, cnt_set (by omega) (by omega)⟩
    unfold f_X11_change
    rw [bndO_s _ d0]
    dsimp only
    rw [bnd_d, if_pos (by decide), if_neg (by decide), if_neg (by decide), if_pos (by decide), c3, bndO_s _ d2]
    dsimp only
    rw [bnd_d, gn_123, grd_t (n_in h40 (by omega)), n_cl (show c < 2147483648 by omega), rr_123, bnd_d, gN_cor h40, grd_t (by decide), x2, bnd_d, grd_t (n_in h40 (by omega)), bnd_d, bndO_s _ d3]
    dsimp only
    rw [gN_cor h40, grd_t (by decide), bnd_d, ← hM4, grd_t (n_in h40 (by omega)), bnd_d, gN_cor h40, grd_t (by decide), x4, bndT_r _ _ e5]
    dsimp only
    rw [if_pos rfl]
  · obtain ⟨p, M2, d2, hj, hS2, km2⟩ := dr (nI (sN P)) (by rw [n_int (by omega)]; omega)
    rw [n_int (by omega)] at hj
    have hp : p < sN P := by omega
    have p30 : p < 30 := by omega
    obtain ⟨hI2, hV2, ht2⟩ := id hS2
    have x2 : gI M2 (203 + p) 2 = P 134 p := hV2 _ _ _ _ (sm_is (by omega) (by omega) p30 rfl)
    obtain ⟨v3, M3, d3, r3, c3', f3⟩ := p_draw (F := F) (xs9 := xs9) (n := 2) hL ht2 (by omega) (by decide)
    have km3 : Km M2 M3 := (Km.rf M2).d f3
    have hS3 : ST P M3 (t + 2 + 1) := ⟨km3.cI hI2, km3.SV hV2, c3'⟩
    have top : ∀ X, (if v3 = 0 then bk_X11_change_154 F L9 xs9 (nI p) (P 134 p) 1 2 (203 + p) M3 else bk_X11_change_154 F L9 xs9 (nI p) (P 134 p) 0 2 (203 + p) M3) = X → f_X11_change F L9 xs9 M = X := fun X hX => by
      unfold f_X11_change
      rw [bndO_s _ d0]
      dsimp only
      rw [bnd_d, if_pos (by decide), if_neg (by decide), if_neg (by decide), if_neg (by decide), if_pos (by decide), c4, bndO_s _ d2]
      dsimp only
      rw [bnd_d, gg_125, grd_t (n_in p30 (by omega)), n_cl (show p < 2147483648 by omega), rr_125, bnd_d, gN_iss p30, grd_t (by decide), x2, bnd_d, grd_t (n_in p30 (by omega)), bnd_d, bndO_s _ d3]
      exact hX
    by_cases z : v3 = 0
    · obtain ⟨P', M', e9, h9, c9⟩ := p_ch154 (F := F) (L9 := L9) (xs9 := xs9) hS3 hp (Or.inr rfl)
      exact ⟨P', M', _, top _ (by rw [if_pos z]; exact e9), h9, by omega, c9⟩
    · obtain ⟨P', M', e9, h9, c9⟩ := p_ch154 (F := F) (L9 := L9) (xs9 := xs9) hS3 hp (Or.inl rfl)
      exact ⟨P', M', _, top _ (by rw [if_neg z]; exact e9), h9, by omega, c9⟩
  · obtain ⟨n, M2, d2, hj, hS2, km2⟩ := dr 4 (by decide)
    have n4 : n < 4 := by omega
    obtain ⟨hI2, hV2, ht2⟩ := id hS2
    have x2 : gI M2 128 n = P 136 n := hV2 _ _ _ _ (sm_rep n4)
    obtain ⟨v3, M3, d3, r3, c3', f3⟩ := p_draw (F := F) (xs9 := xs9) (n := 2) hL ht2 (by omega) (by decide)
    have km3 : Km M2 M3 := (Km.rf M2).d f3
    have hS3 : ST P M3 (t + 2 + 1) := ⟨km3.cI hI2, km3.SV hV2, c3'⟩
    have top : ∀ X, (if v3 = 0 then bk_X11_change_218 F L9 xs9 (nI n) (P 136 n) 1 (nI n) M3 else bk_X11_change_218 F L9 xs9 (nI n) (P 136 n) 0 (nI n) M3) = X → f_X11_change F L9 xs9 M = X := fun X hX => by
      unfold f_X11_change
      rw [bndO_s _ d0]
      dsimp only
      rw [bnd_d, if_pos (by decide), if_neg (by decide), if_neg (by decide), if_neg (by decide), if_neg (by decide), if_pos (by decide), bndO_s _ d2]
      dsimp only
      rw [bnd_d, gg_128, grd_t (n_in n4 (by omega)), n_cl (show n < 2147483648 by omega), x2, bnd_d, bndO_s _ d3]
      exact hX
    by_cases z : v3 = 0
    · obtain ⟨P', M', t', e9, h9, q9, c9⟩ := p_ch218 (F := F) (L9 := L9) (xs9 := xs9) hL hS3 n4 (Or.inr rfl) (by omega)
      exact ⟨P', M', t', top _ (by rw [if_pos z]; exact e9), h9, by omega, c9⟩
    · obtain ⟨P', M', t', e9, h9, q9, c9⟩ := p_ch218 (F := F) (L9 := L9) (xs9 := xs9) hL hS3 n4 (Or.inl rfl) (by omega)
      exact ⟨P', M', t', top _ (by rw [if_neg z]; exact e9), h9, by omega, c9⟩
  · obtain ⟨hI2, hV2, ht2⟩ := id hS1
    have x2 : gI M1 122 13 = P 122 5 := hV2 _ _ _ _ sm_bg
    obtain ⟨v3, M3, d3, r3, c3', f3⟩ := p_colour (F := F) (xs9 := xs9) hL ht2 (by omega)
    have km3 : Km M1 M3 := (Km.rf M1).d f3
    obtain ⟨M4, hM4⟩ : ∃ x, x = sI M3 122 13 v3 := ⟨_, rfl⟩
    have hI4 : cI P M4 := (km3.cI hI2).lo fun g j h => by rw [hM4, gI_sI, if_neg (by omega)]
    have hV4 : SV (u2 P 122 5 v3) M4 := by rw [hM4]; exact SV_set (km3.SV hV2) sm_bg
    have x4 : gI M4 122 13 = v3 := by rw [hM4, gI_sI, if_pos ⟨rfl, rfl⟩]
    obtain ⟨M5, e5, h5, g5⟩ := co_setBackground (F := F) hI4 r3
    refine ⟨_, M5, _, ?_, ⟨h5, hV4.to fun a b hs => g5 a b hs.1, by rw [g5 122 2 (by omega), hM4, gI_sI, if_neg (by omega)]; exact c3'⟩, by omega, cnt_set (by omega) (by omega)⟩
    unfold f_X11_change
    rw [bndO_s _ d0]
    dsimp only
    rw [bnd_d, if_pos (by decide), if_neg (by decide), if_neg (by decide), if_neg (by decide), if_neg (by decide), if_neg (by decide), bnd_d, x2, bndO_s _ d3]
    dsimp only
    rw [bnd_d, ← hM4, x4, bndT_r _ _ e5]
    dsimp only
    rw [if_pos rfl]
end CHG
