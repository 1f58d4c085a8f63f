/-! PURE PART: the scene built and changed by the law -/
section BLD
variable {P : PM} {M : GM} {F L9 t : Nat} {xs9 : Nat → Int32}
theorem p_b2 {nc np : Nat} (hL : L9 ≤ 260) (hS : ST P M t) (c0 : sC1 P = 0) (n0 : sN P = 0) (hc : nc ≤ 10) (t2 : t + 1000 < 1000000) : ∃ M', lp_X11_build_2 F L9 xs9 (nI nc) (nI np) 16 0 M = some M' ∧ ∃ P' t', ST P' M' t' ∧ t' ≤ t + 10 * nc ∧ sC1 P' = nc ∧ sN P' = 0 := by
  refine run_up (fun n (s : Int32 × GM) => lp_X11_build_2 F L9 xs9 (nI nc) (nI np) n s.1 s.2) (fun i s => s.1 = nI i ∧ ∃ P' t', ST P' s.2 t' ∧ t' ≤ t + 10 * i ∧ sC1 P' = i ∧ sN P' = 0) _ 0 nc 16 (by omega) (by omega) (s := (0, M)) ⟨rfl, P, t, hS, by omega, c0, n0⟩ ?_ ?_
  · rintro i ⟨x, M1⟩ - hi ⟨rfl, P1, t1, h1, h2, h3, h4⟩
    obtain ⟨P', M', t', e, g1, g2, g3, g4⟩ := p_addCorner (F := F) (xs9 := xs9) hL h1 (by omega) (by omega)
    refine ⟨(nI (i + 1), M'), ⟨rfl, P', t', g1, by omega, by omega, by omega⟩, fun n => ?_⟩
    show lp_X11_build_2 F L9 xs9 (nI nc) (nI np) (n + 1) (nI i) M1 = lp_X11_build_2 F L9 xs9 (nI nc) (nI np) n (nI (i + 1)) M'
    rw [el_X11_build_2]
    unfold st_X11_build_2
    rw [if_neg (by rw [n_le (by omega) (by omega)]; omega), bndO_s _ e]
    dsimp only
    rw [if_neg (by decide), bnd_d, i_1, n_a]
  · rintro ⟨x, M1⟩ ⟨rfl, P1, t1, h⟩
    refine ⟨M1, ⟨P1, t1, h⟩, fun n => ?_⟩
    show lp_X11_build_2 F L9 xs9 (nI nc) (nI np) (n + 1) (nI nc) M1 = _
    rw [el_X11_build_2]
    unfold st_X11_build_2
    rw [if_pos (by rw [n_le (by omega) (by omega)]; omega)]
theorem p_b24 {np : Nat} (hF : 3000 ≤ F) (hL : L9 ≤ 260) (hS : ST P M t) (c3 : 3 ≤ sC1 P) (n0 : sN P = 0) (hc : np ≤ 7) (t2 : t + 1000 < 1000000) : ∃ M', lp_X11_build_24 F L9 xs9 (nI np) 16 0 M = some M' ∧ ∃ P' t', ST P' M' t' ∧ t' ≤ t + 6 * np ∧ sC1 P' = sC1 P ∧ sN P' = np := by
  refine run_up (fun n (s : Int32 × GM) => lp_X11_build_24 F L9 xs9 (nI np) n s.1 s.2) (fun i s => s.1 = nI i ∧ ∃ P' t', ST P' s.2 t' ∧ t' ≤ t + 6 * i ∧ sC1 P' = sC1 P ∧ sN P' = i) _ 0 np 16 (by omega) (by omega) (s := (0, M)) ⟨rfl, P, t, hS, by omega, rfl, n0⟩ ?_ ?_
  · rintro i ⟨x, M1⟩ - hi ⟨rfl, P1, t1, h1, h2, h3, h4⟩
    obtain ⟨P', M', t', e, g1, g2, g3, g4⟩ := p_addPane (F := F) (xs9 := xs9) hF hL h1 (by omega) (by omega) (by omega)
    refine ⟨(nI (i + 1), M'), ⟨rfl, P', t', g1, by omega, by omega, by omega⟩, fun n => ?_⟩
    show lp_X11_build_24 F L9 xs9 (nI np) (n + 1) (nI i) M1 = lp_X11_build_24 F L9 xs9 (nI np) n (nI (i + 1)) M'
    rw [el_X11_build_24]
    unfold st_X11_build_24
    rw [if_neg (by rw [n_le (by omega) (by omega)]; omega), bndO_s _ e]
    dsimp only
    rw [if_neg (by decide), bnd_d, i_1, n_a]
  · rintro ⟨x, M1⟩ ⟨rfl, P1, t1, h⟩
    refine ⟨M1, ⟨P1, t1, h⟩, fun n => ?_⟩
    show lp_X11_build_24 F L9 xs9 (nI np) (n + 1) (nI np) M1 = _
    rw [el_X11_build_24]
    unfold st_X11_build_24
    rw [if_pos (by rw [n_le (by omega) (by omega)]; omega)]
theorem p_b46 (hF : 3000 ≤ F) (hL : L9 ≤ 260) (hS : ST P M t) (t2 : t + 1000 < 1000000) : ∃ M', lp_X11_build_46 F L9 xs9 F 0 M = some M' ∧ ∃ P' t', ST P' M' t' ∧ t' ≤ t + 60 ∧ cnt P P' := by
  refine run_up (fun n (s : Int32 × GM) => lp_X11_build_46 F L9 xs9 n s.1 s.2) (fun i s => s.1 = nI i ∧ ∃ P' t', ST P' s.2 t' ∧ t' ≤ t + 5 * i ∧ cnt P P') _ 0 12 F (by omega) (by omega) (s := (0, M)) ⟨rfl, P, t, hS, by omega, cnt.rf P⟩ ?_ ?_
  · rintro i ⟨x, M1⟩ - hi ⟨rfl, P1, t1, h1, h2, h3⟩
    obtain ⟨P', M', t', e, g1, g2, g3⟩ := p_colourPattern (F := F) (xs9 := xs9) hL h1 (by omega)
    refine ⟨(nI (i + 1), M'), ⟨rfl, P', t', g1, by omega, h3.tr g3⟩, fun n => ?_⟩
    show lp_X11_build_46 F L9 xs9 (n + 1) (nI i) M1 = lp_X11_build_46 F L9 xs9 n (nI (i + 1)) M'
    rw [el_X11_build_46]
    unfold st_X11_build_46
    rw [if_neg (by rw [show (12 : Int32) = nI 12 from rfl, n_le (by omega) (by omega)]; omega), bndO_s _ e]
    dsimp only
    rw [if_neg (by decide), bnd_d, i_1, n_a]
  · rintro ⟨x, M1⟩ ⟨rfl, P1, t1, h⟩
    refine ⟨M1, ⟨P1, t1, h⟩, fun n => ?_⟩
    show lp_X11_build_46 F L9 xs9 (n + 1) (nI 12) M1 = _
    rw [el_X11_build_46]
    unfold st_X11_build_46
    rw [if_pos (by decide)]
theorem p_build {nc np : Nat} (hF : 3000 ≤ F) (hL : L9 ≤ 260) (hS : ST P M t) (c0 : sC1 P = 0) (n0 : sN P = 0) (hc : 3 ≤ nc ∧ nc ≤ 10) (hp : np ≤ 7) (t2 : t + 5000 < 1000000) : ∃ P' M' t', f_X11_build F L9 xs9 (nI nc) (nI np) M = some (1, M') ∧ ST P' M' t' ∧ t' ≤ t + 300 ∧ sC1 P' = nc ∧ sN P' = np := by
  obtain ⟨M1, e1, P1, t1, s1, b1, c1, d1⟩ := p_b2 (F := F) (xs9 := xs9) (np := np) hL hS c0 n0 hc.2 (by omega)
  obtain ⟨M2, e2, P2, t2, s2, b2, c2, d2⟩ := p_b24 (F := F) (xs9 := xs9) (np := np) hF hL s1 (by omega) d1 hp (by omega)
  obtain ⟨M3, e3, P3, t3, s3, b3, c3⟩ := p_b46 (F := F) (xs9 := xs9) hF hL s2 (by omega)
  refine ⟨P3, M3, t3, ?_, s3, by omega, by rw [c3.1]; omega, by rw [c3.2]; omega⟩
  unfold f_X11_build
  rw [bnd_d, bndO_s _ e1, bnd_d, bndO_s _ e2, bnd_d, bndO_s _ e3]
theorem p_cam0 {M0 : GM} {v0 v1 v2 a : Int32} (hF : 3000 ≤ F) (hL : L9 ≤ 260) (hI : cI P M0) (hV : SV P M0) (km : Km M0 M) (ht : gI M 122 2 = nI t) (t2 : t + 20 < 1000000) (w0 : gI M 237 0 = v0) (w1 : gI M 237 1 = v1) (w2 : gI M 237 2 = v2) (b0 : inR v0 (-4096) 4096) (b1 : inR v1 (-4096) 4096) (b2 : inR v2 (-4096) 4096) (ba : inR a (-5000) 5000) :
    ∃ P' M' t', bk_X11_turnCamera_70 F L9 xs9 0 a 3 M = some (1, M') ∧ ST P' M' t' ∧ t' ≤ t + 1 ∧ cnt P P' := by
  obtain ⟨M1, hM1⟩ : ∃ x, x = sI M 237 3 a := ⟨_, rfl⟩
  have htM1 : gI M1 122 2 = nI (t) := by rw [hM1, gI_sI, if_neg (by omega)]; exact ht
  have kmM1 : Km M0 M1 := by rw [hM1]; exact Km.s km (by omega)
  have wM1_237_0 : gI M1 237 0 = v0 := by rw [hM1, gI_sI, if_neg (by omega)]; exact w0
  have wM1_237_1 : gI M1 237 1 = v1 := by rw [hM1, gI_sI, if_neg (by omega)]; exact w1
  have wM1_237_2 : gI M1 237 2 = v2 := by rw [hM1, gI_sI, if_neg (by omega)]; exact w2
  have wM1_237_3 : gI M1 237 3 = a := by rw [hM1, gI_sI, if_pos ⟨rfl, rfl⟩]
  obtain ⟨v4, M2, dv4, rv4, cv4, fv4⟩ := p_between (F := F) (xs9 := xs9) (lo := 700) (hi := 1300) hL htM1 (by omega) (by decide) (by decide) (by decide)
  have htM2 : gI M2 122 2 = nI (t + 1) := cv4
  have kmM2 : Km M0 M2 := Km.d kmM1 fv4
  have wM2_237_0 : gI M2 237 0 = v0 := (fv4 237 0 (by omega)).trans wM1_237_0
  have wM2_237_1 : gI M2 237 1 = v1 := (fv4 237 1 (by omega)).trans wM1_237_1
  have wM2_237_2 : gI M2 237 2 = v2 := (fv4 237 2 (by omega)).trans wM1_237_2
  have wM2_237_3 : gI M2 237 3 = a := (fv4 237 3 (by omega)).trans wM1_237_3
  obtain ⟨M3, hM3⟩ : ∃ x, x = sI M2 237 0 v4 := ⟨_, rfl⟩
  have htM3 : gI M3 122 2 = nI (t + 1) := by rw [hM3, gI_sI, if_neg (by omega)]; exact htM2
  have kmM3 : Km M0 M3 := by rw [hM3]; exact Km.s kmM2 (by omega)
  have wM3_237_1 : gI M3 237 1 = v1 := by rw [hM3, gI_sI, if_neg (by omega)]; exact wM2_237_1
  have wM3_237_2 : gI M3 237 2 = v2 := by rw [hM3, gI_sI, if_neg (by omega)]; exact wM2_237_2
  have wM3_237_3 : gI M3 237 3 = a := by rw [hM3, gI_sI, if_neg (by omega)]; exact wM2_237_3
  have wM3_237_0 : gI M3 237 0 = v4 := by rw [hM3, gI_sI, if_pos ⟨rfl, rfl⟩]
  have u0 : (700 : Int32).toInt = 700 := rfl
  have u1 : (1300 : Int32).toInt = 1300 := rfl
  have b4 : inR v4 (-4096) 4096 := by unfold inR; omega
  obtain ⟨Ma, hMa⟩ : ∃ x, x = sC M3 233 0 4 (fun j => gI M3 237 j) := ⟨_, rfl⟩
  have rw4 := row4 (M := M0) (N := M3) (r := 233) (T := 237) (fun a b h => kmM3 a b h.2.1 h.2.2) wM3_237_0 wM3_237_1 wM3_237_2 wM3_237_3
  rw [← hMa] at rw4
  have va : ∀ j v, j < 4 → gI M3 237 j = v → gI Ma 233 j = v := fun j v hj hv => by
    rw [hMa, gI_sC, if_pos ⟨rfl, by omega, by omega⟩, Nat.sub_zero]; exact hv
  have hIa : cI P Ma := (kmM3.cI hI).lo fun g j h => by rw [hMa, gI_sC, if_neg (by omega)]
  obtain ⟨Mb, eb, hb, gb⟩ := co_setCamera (F := F) (n := 0) hF hIa (a := v4) (b := v1) (c := v2) (t := a) (by omega) b4 b1 b2 ba
  have hS : ST (pA P 0 v4 v1 v2 a) Mb (t + 1) := by
    refine ⟨hb, ?_, ?_⟩
    · refine SV.to (M := sI (sI (sI (sI M0 233 0 v4) 233 1 v1) 233 2 v2) 233 3 a) ?_ fun a b hs => (gb a b hs.1).trans (rw4 a b hs)
      exact SV_set (SV_set (SV_set (SV_set hV (sm_cam (by omega) (by omega) (by omega))) (sm_cam (by omega) (by omega) (by omega))) (sm_cam (by omega) (by omega) (by omega))) (sm_cam (by omega) (by omega) (by omega))
    · rw [gb 122 2 (by omega), hMa, gI_sC, if_neg (by omega)]; exact htM3
  have hf := p_front hF hS
  refine ⟨_, Mb, _, ?_, hS, by omega, ((((cnt_set (by omega) (by omega)).tr (cnt_set (by omega) (by omega))).tr (cnt_set (by omega) (by omega))).tr (cnt_set (by omega) (by omega)))⟩
  unfold bk_X11_turnCamera_70
  rw [gn_237, grd_t (by decide), bnd_d, show (3 : Int32).toNatClampNeg = 3 by decide, ← hM1, bndO_s _ dv4]
  dsimp only
  rw [grd_t (by decide), bnd_d, show (0 : Int32).toNatClampNeg = 0 by decide, ← hM3, gg_126, grd_t (by decide), bnd_d, rr_126, bnd_d, ← hMa, gN_cam (by omega), grd_t (by decide), grd_t (by decide), grd_t (by decide), grd_t (by decide), va 0 _ (by omega) wM3_237_0, va 1 _ (by omega) wM3_237_1, va 2 _ (by omega) wM3_237_2, va 3 _ (by omega) wM3_237_3, bndT_r _ _ (show f_X10_setCamera F 0 _ _ _ _ _ = _ from eb)]
  dsimp only
  rw [bndO_s _ hf, if_pos rfl]
theorem p_cam1 {M0 : GM} {v0 v1 v2 a : Int32} (hF : 3000 ≤ F) (hL : L9 ≤ 260) (hI : cI P M0) (hV : SV P M0) (km : Km M0 M) (ht : gI M 122 2 = nI t) (t2 : t + 20 < 1000000) (w0 : gI M 237 0 = v0) (w1 : gI M 237 1 = v1) (w2 : gI M 237 2 = v2) (b0 : inR v0 (-4096) 4096) (b1 : inR v1 (-4096) 4096) (b2 : inR v2 (-4096) 4096) (ba : inR a (-5000) 5000) :
    ∃ P' M' t', bk_X11_turnCamera_70 F L9 xs9 1 a 3 M = some (1, M') ∧ ST P' M' t' ∧ t' ≤ t + 1 ∧ cnt P P' := by
  obtain ⟨M1, hM1⟩ : ∃ x, x = sI M 237 3 a := ⟨_, rfl⟩
  have htM1 : gI M1 122 2 = nI (t) := by rw [hM1, gI_sI, if_neg (by omega)]; exact ht
  have kmM1 : Km M0 M1 := by rw [hM1]; exact Km.s km (by omega)
  have wM1_237_0 : gI M1 237 0 = v0 := by rw [hM1, gI_sI, if_neg (by omega)]; exact w0
  have wM1_237_1 : gI M1 237 1 = v1 := by rw [hM1, gI_sI, if_neg (by omega)]; exact w1
  have wM1_237_2 : gI M1 237 2 = v2 := by rw [hM1, gI_sI, if_neg (by omega)]; exact w2
  have wM1_237_3 : gI M1 237 3 = a := by rw [hM1, gI_sI, if_pos ⟨rfl, rfl⟩]
  obtain ⟨v4, M2, dv4, rv4, cv4, fv4⟩ := p_between (F := F) (xs9 := xs9) (lo := 700) (hi := 1300) hL htM1 (by omega) (by decide) (by decide) (by decide)
  have htM2 : gI M2 122 2 = nI (t + 1) := cv4
  have kmM2 : Km M0 M2 := Km.d kmM1 fv4
  have wM2_237_0 : gI M2 237 0 = v0 := (fv4 237 0 (by omega)).trans wM1_237_0
  have wM2_237_1 : gI M2 237 1 = v1 := (fv4 237 1 (by omega)).trans wM1_237_1
  have wM2_237_2 : gI M2 237 2 = v2 := (fv4 237 2 (by omega)).trans wM1_237_2
  have wM2_237_3 : gI M2 237 3 = a := (fv4 237 3 (by omega)).trans wM1_237_3
  obtain ⟨M3, hM3⟩ : ∃ x, x = sI M2 237 1 v4 := ⟨_, rfl⟩
  have htM3 : gI M3 122 2 = nI (t + 1) := by rw [hM3, gI_sI, if_neg (by omega)]; exact htM2
  have kmM3 : Km M0 M3 := by rw [hM3]; exact Km.s kmM2 (by omega)
  have wM3_237_0 : gI M3 237 0 = v0 := by rw [hM3, gI_sI, if_neg (by omega)]; exact wM2_237_0
  have wM3_237_2 : gI M3 237 2 = v2 := by rw [hM3, gI_sI, if_neg (by omega)]; exact wM2_237_2
  have wM3_237_3 : gI M3 237 3 = a := by rw [hM3, gI_sI, if_neg (by omega)]; exact wM2_237_3
  have wM3_237_1 : gI M3 237 1 = v4 := by rw [hM3, gI_sI, if_pos ⟨rfl, rfl⟩]
  have u0 : (700 : Int32).toInt = 700 := rfl
  have u1 : (1300 : Int32).toInt = 1300 := rfl
  have b4 : inR v4 (-4096) 4096 := by unfold inR; omega
  obtain ⟨Ma, hMa⟩ : ∃ x, x = sC M3 234 0 4 (fun j => gI M3 237 j) := ⟨_, rfl⟩
  have rw4 := row4 (M := M0) (N := M3) (r := 234) (T := 237) (fun a b h => kmM3 a b h.2.1 h.2.2) wM3_237_0 wM3_237_1 wM3_237_2 wM3_237_3
  rw [← hMa] at rw4
  have va : ∀ j v, j < 4 → gI M3 237 j = v → gI Ma 234 j = v := fun j v hj hv => by
    rw [hMa, gI_sC, if_pos ⟨rfl, by omega, by omega⟩, Nat.sub_zero]; exact hv
  have hIa : cI P Ma := (kmM3.cI hI).lo fun g j h => by rw [hMa, gI_sC, if_neg (by omega)]
  obtain ⟨Mb, eb, hb, gb⟩ := co_setCamera (F := F) (n := 1) hF hIa (a := v0) (b := v4) (c := v2) (t := a) (by omega) b0 b4 b2 ba
  have hS : ST (pA P 1 v0 v4 v2 a) Mb (t + 1) := by
    refine ⟨hb, ?_, ?_⟩
    · refine SV.to (M := sI (sI (sI (sI M0 234 0 v0) 234 1 v4) 234 2 v2) 234 3 a) ?_ fun a b hs => (gb a b hs.1).trans (rw4 a b hs)
      exact SV_set (SV_set (SV_set (SV_set hV (sm_cam (by omega) (by omega) (by omega))) (sm_cam (by omega) (by omega) (by omega))) (sm_cam (by omega) (by omega) (by omega))) (sm_cam (by omega) (by omega) (by omega))
    · rw [gb 122 2 (by omega), hMa, gI_sC, if_neg (by omega)]; exact htM3
  have hf := p_front hF hS
  refine ⟨_, Mb, _, ?_, hS, by omega, ((((cnt_set (by omega) (by omega)).tr (cnt_set (by omega) (by omega))).tr (cnt_set (by omega) (by omega))).tr (cnt_set (by omega) (by omega)))⟩
  unfold bk_X11_turnCamera_70
  rw [gn_237, grd_t (by decide), bnd_d, show (3 : Int32).toNatClampNeg = 3 by decide, ← hM1, bndO_s _ dv4]
  dsimp only
  rw [grd_t (by decide), bnd_d, show (1 : Int32).toNatClampNeg = 1 by decide, ← hM3, gg_126, grd_t (by decide), bnd_d, rr_126, bnd_d, ← hMa, gN_cam (by omega), grd_t (by decide), grd_t (by decide), grd_t (by decide), grd_t (by decide), va 0 _ (by omega) wM3_237_0, va 1 _ (by omega) wM3_237_1, va 2 _ (by omega) wM3_237_2, va 3 _ (by omega) wM3_237_3, bndT_r _ _ (show f_X10_setCamera F 1 _ _ _ _ _ = _ from eb)]
  dsimp only
  rw [bndO_s _ hf, if_pos rfl]
theorem p_cam2 {M0 : GM} {v0 v1 v2 a : Int32} (hF : 3000 ≤ F) (hL : L9 ≤ 260) (hI : cI P M0) (hV : SV P M0) (km : Km M0 M) (ht : gI M 122 2 = nI t) (t2 : t + 20 < 1000000) (w0 : gI M 237 0 = v0) (w1 : gI M 237 1 = v1) (w2 : gI M 237 2 = v2) (b0 : inR v0 (-4096) 4096) (b1 : inR v1 (-4096) 4096) (b2 : inR v2 (-4096) 4096) (ba : inR a (-5000) 5000) :
    ∃ P' M' t', bk_X11_turnCamera_70 F L9 xs9 2 a 3 M = some (1, M') ∧ ST P' M' t' ∧ t' ≤ t + 1 ∧ cnt P P' := by
  obtain ⟨M1, hM1⟩ : ∃ x, x = sI M 237 3 a := ⟨_, rfl⟩
  have htM1 : gI M1 122 2 = nI (t) := by rw [hM1, gI_sI, if_neg (by omega)]; exact ht
  have kmM1 : Km M0 M1 := by rw [hM1]; exact Km.s km (by omega)
  have wM1_237_0 : gI M1 237 0 = v0 := by rw [hM1, gI_sI, if_neg (by omega)]; exact w0
  have wM1_237_1 : gI M1 237 1 = v1 := by rw [hM1, gI_sI, if_neg (by omega)]; exact w1
  have wM1_237_2 : gI M1 237 2 = v2 := by rw [hM1, gI_sI, if_neg (by omega)]; exact w2
  have wM1_237_3 : gI M1 237 3 = a := by rw [hM1, gI_sI, if_pos ⟨rfl, rfl⟩]
  obtain ⟨v4, M2, dv4, rv4, cv4, fv4⟩ := p_between (F := F) (xs9 := xs9) (lo := 700) (hi := 1300) hL htM1 (by omega) (by decide) (by decide) (by decide)
  have htM2 : gI M2 122 2 = nI (t + 1) := cv4
  have kmM2 : Km M0 M2 := Km.d kmM1 fv4
  have wM2_237_0 : gI M2 237 0 = v0 := (fv4 237 0 (by omega)).trans wM1_237_0
  have wM2_237_1 : gI M2 237 1 = v1 := (fv4 237 1 (by omega)).trans wM1_237_1
  have wM2_237_2 : gI M2 237 2 = v2 := (fv4 237 2 (by omega)).trans wM1_237_2
  have wM2_237_3 : gI M2 237 3 = a := (fv4 237 3 (by omega)).trans wM1_237_3
  obtain ⟨M3, hM3⟩ : ∃ x, x = sI M2 237 2 v4 := ⟨_, rfl⟩
  have htM3 : gI M3 122 2 = nI (t + 1) := by rw [hM3, gI_sI, if_neg (by omega)]; exact htM2
  have kmM3 : Km M0 M3 := by rw [hM3]; exact Km.s kmM2 (by omega)
  have wM3_237_0 : gI M3 237 0 = v0 := by rw [hM3, gI_sI, if_neg (by omega)]; exact wM2_237_0
  have wM3_237_1 : gI M3 237 1 = v1 := by rw [hM3, gI_sI, if_neg (by omega)]; exact wM2_237_1
  have wM3_237_3 : gI M3 237 3 = a := by rw [hM3, gI_sI, if_neg (by omega)]; exact wM2_237_3
  have wM3_237_2 : gI M3 237 2 = v4 := by rw [hM3, gI_sI, if_pos ⟨rfl, rfl⟩]
  have u0 : (700 : Int32).toInt = 700 := rfl
  have u1 : (1300 : Int32).toInt = 1300 := rfl
  have b4 : inR v4 (-4096) 4096 := by unfold inR; omega
  obtain ⟨Ma, hMa⟩ : ∃ x, x = sC M3 235 0 4 (fun j => gI M3 237 j) := ⟨_, rfl⟩
  have rw4 := row4 (M := M0) (N := M3) (r := 235) (T := 237) (fun a b h => kmM3 a b h.2.1 h.2.2) wM3_237_0 wM3_237_1 wM3_237_2 wM3_237_3
  rw [← hMa] at rw4
  have va : ∀ j v, j < 4 → gI M3 237 j = v → gI Ma 235 j = v := fun j v hj hv => by
    rw [hMa, gI_sC, if_pos ⟨rfl, by omega, by omega⟩, Nat.sub_zero]; exact hv
  have hIa : cI P Ma := (kmM3.cI hI).lo fun g j h => by rw [hMa, gI_sC, if_neg (by omega)]
  obtain ⟨Mb, eb, hb, gb⟩ := co_setCamera (F := F) (n := 2) hF hIa (a := v0) (b := v1) (c := v4) (t := a) (by omega) b0 b1 b4 ba
  have hS : ST (pA P 2 v0 v1 v4 a) Mb (t + 1) := by
    refine ⟨hb, ?_, ?_⟩
    · refine SV.to (M := sI (sI (sI (sI M0 235 0 v0) 235 1 v1) 235 2 v4) 235 3 a) ?_ fun a b hs => (gb a b hs.1).trans (rw4 a b hs)
      exact SV_set (SV_set (SV_set (SV_set hV (sm_cam (by omega) (by omega) (by omega))) (sm_cam (by omega) (by omega) (by omega))) (sm_cam (by omega) (by omega) (by omega))) (sm_cam (by omega) (by omega) (by omega))
    · rw [gb 122 2 (by omega), hMa, gI_sC, if_neg (by omega)]; exact htM3
  have hf := p_front hF hS
  refine ⟨_, Mb, _, ?_, hS, by omega, ((((cnt_set (by omega) (by omega)).tr (cnt_set (by omega) (by omega))).tr (cnt_set (by omega) (by omega))).tr (cnt_set (by omega) (by omega)))⟩
  unfold bk_X11_turnCamera_70
  rw [gn_237, grd_t (by decide), bnd_d, show (3 : Int32).toNatClampNeg = 3 by decide, ← hM1, bndO_s _ dv4]
  dsimp only
  rw [grd_t (by decide), bnd_d, show (2 : Int32).toNatClampNeg = 2 by decide, ← hM3, gg_126, grd_t (by decide), bnd_d, rr_126, bnd_d, ← hMa, gN_cam (by omega), grd_t (by decide), grd_t (by decide), grd_t (by decide), grd_t (by decide), va 0 _ (by omega) wM3_237_0, va 1 _ (by omega) wM3_237_1, va 2 _ (by omega) wM3_237_2, va 3 _ (by omega) wM3_237_3, bndT_r _ _ (show f_X10_setCamera F 2 _ _ _ _ _ = _ from eb)]
  dsimp only
  rw [bndO_s _ hf, if_pos rfl]
theorem p_turnCamera {r : Nat} (hF : 3000 ≤ F) (hL : L9 ≤ 260) (hS : ST P M t) (hr : r < 3) (t2 : t + 40 < 1000000) : ∃ P' M' t', f_X11_turnCamera F L9 xs9 (nI r) M = some (1, M') ∧ ST P' M' t' ∧ t' ≤ t + 6 ∧ cnt P P' := by
  obtain ⟨hI, hV, ht⟩ := id hS
  have km := Km.rf M
  obtain ⟨M1, hM1⟩ : ∃ x, x = sC M 237 0 4 (fun _ => 0) := ⟨_, rfl⟩
  have htM1 : gI M1 122 2 = nI (t) := by rw [hM1, gI_sC, if_neg (by omega)]; exact ht
  have kmM1 : Km M M1 := by rw [hM1]; exact Km.sc km (by omega)
  obtain ⟨v0, M2, dv0, rv0, cv0, fv0⟩ := p_between (F := F) (xs9 := xs9) (lo := (-200)) (hi := 200) hL htM1 (by omega) (by decide) (by decide) (by decide)
  have htM2 : gI M2 122 2 = nI (t + 1) := cv0
  have kmM2 : Km M M2 := Km.d kmM1 fv0
  obtain ⟨M3, hM3⟩ : ∃ x, x = sI M2 237 0 v0 := ⟨_, rfl⟩
  have htM3 : gI M3 122 2 = nI (t + 1) := by rw [hM3, gI_sI, if_neg (by omega)]; exact htM2
  have kmM3 : Km M M3 := by rw [hM3]; exact Km.s kmM2 (by omega)
  have wM3_237_0 : gI M3 237 0 = v0 := by rw [hM3, gI_sI, if_pos ⟨rfl, rfl⟩]
  obtain ⟨v1, M4, dv1, rv1, cv1, fv1⟩ := p_between (F := F) (xs9 := xs9) (lo := (-200)) (hi := 200) hL htM3 (by omega) (by decide) (by decide) (by decide)
  have htM4 : gI M4 122 2 = nI (t + 2) := cv1
  have kmM4 : Km M M4 := Km.d kmM3 fv1
  have wM4_237_0 : gI M4 237 0 = v0 := (fv1 237 0 (by omega)).trans wM3_237_0
  obtain ⟨M5, hM5⟩ : ∃ x, x = sI M4 237 1 v1 := ⟨_, rfl⟩
  have htM5 : gI M5 122 2 = nI (t + 2) := by rw [hM5, gI_sI, if_neg (by omega)]; exact htM4
  have kmM5 : Km M M5 := by rw [hM5]; exact Km.s kmM4 (by omega)
  have wM5_237_0 : gI M5 237 0 = v0 := by rw [hM5, gI_sI, if_neg (by omega)]; exact wM4_237_0
  have wM5_237_1 : gI M5 237 1 = v1 := by rw [hM5, gI_sI, if_pos ⟨rfl, rfl⟩]
  obtain ⟨v2, M6, dv2, rv2, cv2, fv2⟩ := p_between (F := F) (xs9 := xs9) (lo := (-200)) (hi := 200) hL htM5 (by omega) (by decide) (by decide) (by decide)
  have htM6 : gI M6 122 2 = nI (t + 3) := cv2
  have kmM6 : Km M M6 := Km.d kmM5 fv2
  have wM6_237_0 : gI M6 237 0 = v0 := (fv2 237 0 (by omega)).trans wM5_237_0
  have wM6_237_1 : gI M6 237 1 = v1 := (fv2 237 1 (by omega)).trans wM5_237_1
  obtain ⟨M7, hM7⟩ : ∃ x, x = sI M6 237 2 v2 := ⟨_, rfl⟩
  have htM7 : gI M7 122 2 = nI (t + 3) := by rw [hM7, gI_sI, if_neg (by omega)]; exact htM6
  have kmM7 : Km M M7 := by rw [hM7]; exact Km.s kmM6 (by omega)
  have wM7_237_0 : gI M7 237 0 = v0 := by rw [hM7, gI_sI, if_neg (by omega)]; exact wM6_237_0
  have wM7_237_1 : gI M7 237 1 = v1 := by rw [hM7, gI_sI, if_neg (by omega)]; exact wM6_237_1
  have wM7_237_2 : gI M7 237 2 = v2 := by rw [hM7, gI_sI, if_pos ⟨rfl, rfl⟩]
  have u0 : (-200 : Int32).toInt = -200 := by decide
  have u1 : (200 : Int32).toInt = 200 := rfl
  have u2 : (-60 : Int32).toInt = -60 := by decide
  have u3 : (60 : Int32).toInt = 60 := rfl
  have u4 : (300 : Int32).toInt = 300 := rfl
  have u5 : (700 : Int32).toInt = 700 := rfl
  have b0 : inR v0 (-4096) 4096 := by unfold inR; omega
  have b1 : inR v1 (-4096) 4096 := by unfold inR; omega
  have b2 : inR v2 (-4096) 4096 := by unfold inR; omega
  rcases (show r = 0 ∨ r = 1 ∨ r = 2 by omega) with rfl | rfl | rfl
  · obtain ⟨v3, M8, dv3, rv3, cv3, fv3⟩ := p_between (F := F) (xs9 := xs9) (lo := (-60)) (hi := 60) hL htM7 (by omega) (by decide) (by decide) (by decide)
    have htM8 : gI M8 122 2 = nI (t + 4) := cv3
    have kmM8 : Km M M8 := Km.d kmM7 fv3
    have wM8_237_0 : gI M8 237 0 = v0 := (fv3 237 0 (by omega)).trans wM7_237_0
    have wM8_237_1 : gI M8 237 1 = v1 := (fv3 237 1 (by omega)).trans wM7_237_1
    have wM8_237_2 : gI M8 237 2 = v2 := (fv3 237 2 (by omega)).trans wM7_237_2
    have ba : inR v3 (-5000) 5000 := by unfold inR; omega
    obtain ⟨P', M', t', e9, h9, q9, c9⟩ := p_cam0 (F := F) (xs9 := xs9) hF hL hI hV kmM8 htM8 (by omega) wM8_237_0 wM8_237_1 wM8_237_2 b0 b1 b2 ba
    refine ⟨P', M', t', ?_, h9, by omega, c9⟩
    unfold f_X11_turnCamera
    rw [bnd_d, ← hM1, bndO_s _ dv0]
    dsimp only
    rw [bnd_d, ← hM3, bndO_s _ dv1]
    dsimp only
    rw [bnd_d, ← hM5, bndO_s _ dv2]
    dsimp only
    rw [bnd_d, ← hM7, if_neg (by decide), bndO_s _ dv3]
    exact e9
  · obtain ⟨v3, M8, dv3, rv3, cv3, fv3⟩ := p_between (F := F) (xs9 := xs9) (lo := (-60)) (hi := 60) hL htM7 (by omega) (by decide) (by decide) (by decide)
    have htM8 : gI M8 122 2 = nI (t + 4) := cv3
    have kmM8 : Km M M8 := Km.d kmM7 fv3
    have wM8_237_0 : gI M8 237 0 = v0 := (fv3 237 0 (by omega)).trans wM7_237_0
    have wM8_237_1 : gI M8 237 1 = v1 := (fv3 237 1 (by omega)).trans wM7_237_1
    have wM8_237_2 : gI M8 237 2 = v2 := (fv3 237 2 (by omega)).trans wM7_237_2
    have ba : inR v3 (-5000) 5000 := by unfold inR; omega
    obtain ⟨P', M', t', e9, h9, q9, c9⟩ := p_cam1 (F := F) (xs9 := xs9) hF hL hI hV kmM8 htM8 (by omega) wM8_237_0 wM8_237_1 wM8_237_2 b0 b1 b2 ba
    refine ⟨P', M', t', ?_, h9, by omega, c9⟩
    unfold f_X11_turnCamera
    rw [bnd_d, ← hM1, bndO_s _ dv0]
    dsimp only
    rw [bnd_d, ← hM3, bndO_s _ dv1]
    dsimp only
    rw [bnd_d, ← hM5, bndO_s _ dv2]
    dsimp only
    rw [bnd_d, ← hM7, if_neg (by decide), bndO_s _ dv3]
    exact e9
  · obtain ⟨v3, M8, dv3, rv3, cv3, fv3⟩ := p_between (F := F) (xs9 := xs9) (lo := 300) (hi := 700) hL htM7 (by omega) (by decide) (by decide) (by decide)
    have htM8 : gI M8 122 2 = nI (t + 4) := cv3
    have kmM8 : Km M M8 := Km.d kmM7 fv3
    have wM8_237_0 : gI M8 237 0 = v0 := (fv3 237 0 (by omega)).trans wM7_237_0
    have wM8_237_1 : gI M8 237 1 = v1 := (fv3 237 1 (by omega)).trans wM7_237_1
    have wM8_237_2 : gI M8 237 2 = v2 := (fv3 237 2 (by omega)).trans wM7_237_2
    have ba : inR v3 (-5000) 5000 := by unfold inR; omega
    obtain ⟨P', M', t', e9, h9, q9, c9⟩ := p_cam2 (F := F) (xs9 := xs9) hF hL hI hV kmM8 htM8 (by omega) wM8_237_0 wM8_237_1 wM8_237_2 b0 b1 b2 ba
    refine ⟨P', M', t', ?_, h9, by omega, c9⟩
    unfold f_X11_turnCamera
    rw [bnd_d, ← hM1, bndO_s _ dv0]
    dsimp only
    rw [bnd_d, ← hM3, bndO_s _ dv1]
    dsimp only
    rw [bnd_d, ← hM5, bndO_s _ dv2]
    dsimp only
    rw [bnd_d, ← hM7, if_pos (by decide), bndO_s _ dv3]
    exact e9
theorem p_setLens (hF : 3000 ≤ F) (hL : L9 ≤ 260) (hS : ST P M t) (t2 : t + 40 < 1000000) : ∃ P' M' t', f_X11_setLens F L9 xs9 M = some (1, M') ∧ ST P' M' t' ∧ t' ≤ t + 2 ∧ cnt P P' := by
  obtain ⟨hI, hV, ht⟩ := id hS
  have q0 : (20 : Int32).toInt = 20 := rfl
  have q1 : (300 : Int32).toInt = 300 := rfl
  have q2 : (70 : Int32).toInt = 70 := rfl
  obtain ⟨v0, M1, d0, r0, c0, f0⟩ := p_between (F := F) (xs9 := xs9) (lo := 20) (hi := 300) hL ht (by omega) (by decide) (by decide) (by decide)
  have km1 : Km M M1 := (Km.rf M).d f0
  obtain ⟨M2, hM2⟩ : ∃ x, x = sI M1 122 11 v0 := ⟨_, rfl⟩
  have ht2 : gI M2 122 2 = nI (t + 1) := by rw [hM2, gI_sI, if_neg (by omega)]; exact c0
  have hV2 : SV (u2 P 122 3 v0) M2 := by rw [hM2]; exact SV_set (km1.SV hV) sm_nr
  have hI2 : cI P M2 := (km1.cI hI).lo fun g j h => by rw [hM2, gI_sI, if_neg (by omega)]
  obtain ⟨v1, M3, d1, r1, c1, f1⟩ := p_between (F := F) (xs9 := xs9) (lo := 20) (hi := 70) hL ht2 (by omega) (by decide) (by decide) (by decide)
  have km3 : Km M2 M3 := (Km.rf M2).d f1
  obtain ⟨M4, hM4⟩ : ∃ x, x = sI M3 122 12 v1 := ⟨_, rfl⟩
  have hV4 : SV (u2 (u2 P 122 3 v0) 122 4 v1) M4 := by rw [hM4]; exact SV_set (km3.SV hV2) sm_fc
  have hI4 : cI P M4 := (km3.cI hI2).lo fun g j h => by rw [hM4, gI_sI, if_neg (by omega)]
  have x0 : gI M4 122 11 = v0 := by rw [hM4, gI_sI, if_neg (by omega), km3 122 11 (by omega) (by omega), hM2, gI_sI, if_pos ⟨rfl, rfl⟩]
  have x1 : gI M4 122 12 = v1 := by rw [hM4, gI_sI, if_pos ⟨rfl, rfl⟩]
  obtain ⟨M5, e5, h5, g5⟩ := co_setLens (F := F) hF hI4 (a := v0) (b := v1) (by unfold inR; omega) (by unfold inR; omega)
  have hS5 : ST (u2 (u2 P 122 3 v0) 122 4 v1) M5 (t + 1 + 1) := ⟨h5, hV4.to fun a b hs => g5 a b hs.1, by rw [g5 122 2 (by omega), hM4, gI_sI, if_neg (by omega)]; exact c1⟩
  have hf := p_front hF hS5
  refine ⟨_, M5, _, ?_, hS5, by omega, (cnt_set (by omega) (by omega)).tr (cnt_set (by omega) (by omega))⟩
  unfold f_X11_setLens
  rw [bndO_s _ d0]
  dsimp only
  rw [bnd_d, ← hM2, bndO_s _ d1]
  dsimp only
  rw [bnd_d, ← hM4, x0, x1, bndT_r _ _ e5]
  dsimp only
  rw [bndO_s _ hf, if_pos rfl]
theorem p_mv45 {k : Nat} (hk : k < 40) (hF : 3000 ≤ F) {v0 v1 v2 : Int32} (w0 : gI M 239 0 = v0) (w1 : gI M 239 1 = v1) (w2 : gI M 239 2 = v2) : lp_X11_move_45 F L9 xs9 (nI k) F 0 M = some (sI (sI (sI M (133 + k) 0 v0) (133 + k) 1 v1) (133 + k) 2 v2) := by
  have step : ∀ (n i : Nat) (M : GM), i < 3 → lp_X11_move_45 F L9 xs9 (nI k) (n + 1) (nI i) M = lp_X11_move_45 F L9 xs9 (nI k) n (nI (i + 1)) (sI M (133 + k) i (gI M 239 i)) := fun n i M hi => by
    rw [el_X11_move_45]
    unfold st_X11_move_45
    rw [if_neg (by rw [i_3, n_le (by omega) (by omega)]; omega), gn_123, grd_t (n_in hk (by omega)), bnd_d, n_cl (show k < 2147483648 by omega), rr_123, gn_239, grd_t (n_in hi (by omega)), gN_cor hk, grd_t (n_in (show i < 6 by omega) (by omega)), n_cl (show i < 2147483648 by omega), bnd_d, bnd_d, i_1, n_a]
  obtain ⟨G, rfl⟩ : ∃ G, F = G + 4 := ⟨F - 4, by omega⟩
  rw [i_0, step (G + 3) 0 M (by omega), step (G + 2) 1 _ (by omega), step (G + 1) 2 _ (by omega), el_X11_move_45]
  unfold st_X11_move_45
  rw [if_pos (by decide)]
  simp only [gI_sI]
  rw [if_neg (by omega), if_neg (by omega), if_neg (by omega), w0, w1, w2]
theorem p_mv84 {k i : Nat} (hF : 3000 ≤ F) (hV : SV P M) (hi : i < 30) : lp_X11_move_84 F L9 xs9 (nI k) (nI i) F (nI (cntB (fun j => decide (P 130 j = nI k)) (3 * i))) 0 M = some (nI (cntB (fun j => decide (P 130 j = nI k)) (3 * (i + 1))), M) := by
  have L : ∃ q : Int32 × GM, lp_X11_move_84 F L9 xs9 (nI k) (nI i) F (nI (cntB (fun j => decide (P 130 j = nI k)) (3 * i))) 0 M = some q ∧ q = (nI (cntB (fun j => decide (P 130 j = nI k)) (3 * (i + 1))), M) := by
    refine run_up (fun n (s : Int32 × Int32 × GM) => lp_X11_move_84 F L9 xs9 (nI k) (nI i) n s.1 s.2.1 s.2.2) (fun j s => s.2.1 = nI j ∧ s.1 = nI (cntB (fun j => decide (P 130 j = nI k)) (3 * i + j)) ∧ s.2.2 = M) _ 0 3 F (by omega) (by omega) (s := (nI (cntB (fun j => decide (P 130 j = nI k)) (3 * i)), 0, M)) ⟨rfl, rfl, rfl⟩ ?_ ?_
    · rintro j ⟨a, x, M1⟩ - hj ⟨rfl, rfl, hm⟩
      have hm : M1 = M := hm
      subst hm
      have e : gI M1 (173 + i) j = P 130 (3 * i + j) := hV _ _ _ _ (sm_of (by omega) (by omega) (by omega))
      refine ⟨(nI (cntB (fun j => decide (P 130 j = nI k)) (3 * i + (j + 1))), nI (j + 1), M1), ⟨rfl, rfl, rfl⟩, fun n => ?_⟩
      show lp_X11_move_84 F L9 xs9 (nI k) (nI i) (n + 1) (nI (cntB (fun j => decide (P 130 j = nI k)) (3 * i + j))) (nI j) M1 = lp_X11_move_84 F L9 xs9 (nI k) (nI i) n (nI (cntB (fun j => decide (P 130 j = nI k)) (3 * i + j) + if decide (P 130 (3 * i + j) = nI k) = true then 1 else 0)) (nI (j + 1)) M1
      rw [el_X11_move_84]
      unfold st_X11_move_84
      rw [if_neg (by rw [i_3, n_le (by omega) (by omega)]; omega), show gN 124 = 30 by decide +kernel, grd_t (n_in hi (by omega)), bnd_d, n_cl (show i < 2147483648 by omega), rr_124, gN_pan hi, grd_t (n_in (show j < 4 by omega) (by omega)), n_cl (show j < 2147483648 by omega), e]
      by_cases w : P 130 (3 * i + j) = nI k
      · rw [if_pos w, if_pos (decide_eq_true w), bnd_d, bnd_d, i_1, n_a, n_a]
      · rw [if_neg w, if_neg (by rw [decide_eq_true_eq]; exact w), bnd_d, bnd_d, i_0, i_1, n_a, n_a]
    · rintro ⟨a, x, M1⟩ ⟨rfl, rfl, hm⟩
      have hm : M1 = M := hm
      subst hm
      refine ⟨_, rfl, fun n => ?_⟩
      show lp_X11_move_84 F L9 xs9 (nI k) (nI i) (n + 1) _ (nI 3) M1 = _
      rw [el_X11_move_84]
      unfold st_X11_move_84
      rw [if_pos (by decide)]
      rfl
  obtain ⟨q, e, rfl⟩ := L
  exact e
theorem p_mv72 {k : Nat} (hF : 3000 ≤ F) (hO : OK P) (hV : SV P M) : lp_X11_move_72 F L9 xs9 (nI k) F 0 0 M = some (nI (cntB (fun j => decide (P 130 j = nI k)) (3 * sN P)), M) := by
  obtain ⟨n1, n2, -, -⟩ := sN_of hO
  have c4 : gI M 122 4 = nI (sN P) := (hV _ _ _ _ sm_c2).trans n1
  have L : ∃ q : Int32 × GM, lp_X11_move_72 F L9 xs9 (nI k) F 0 0 M = some q ∧ q = (nI (cntB (fun j => decide (P 130 j = nI k)) (3 * sN P)), M) := by
    refine run_up (fun n (s : Int32 × Int32 × GM) => lp_X11_move_72 F L9 xs9 (nI k) n s.1 s.2.1 s.2.2) (fun i s => s.2.1 = nI i ∧ s.1 = nI (cntB (fun j => decide (P 130 j = nI k)) (3 * i)) ∧ s.2.2 = M) _ 0 (sN P) F (by omega) (by omega) (s := (0, 0, M)) ⟨rfl, rfl, rfl⟩ ?_ ?_
    · rintro i ⟨a, x, M1⟩ - hi ⟨rfl, rfl, hm⟩
      have hm : M1 = M := hm
      subst hm
      refine ⟨(nI (cntB (fun j => decide (P 130 j = nI k)) (3 * (i + 1))), nI (i + 1), M1), ⟨rfl, rfl, rfl⟩, fun n => ?_⟩
      show lp_X11_move_72 F L9 xs9 (nI k) (n + 1) (nI (cntB (fun j => decide (P 130 j = nI k)) (3 * i))) (nI i) M1 = lp_X11_move_72 F L9 xs9 (nI k) n (nI (cntB (fun j => decide (P 130 j = nI k)) (3 * (i + 1)))) (nI (i + 1)) M1
      rw [el_X11_move_72]
      unfold st_X11_move_72
      rw [c4, if_neg (by rw [n_le (by omega) (by omega)]; omega), bnd_d, bndO_s _ (p_mv84 hF hV (show i < 30 by omega))]
      dsimp only
      rw [bnd_d, i_1, n_a]
    · rintro ⟨a, x, M1⟩ ⟨rfl, rfl, hm⟩
      have hm : M1 = M := hm
      subst hm
      refine ⟨_, rfl, fun n => ?_⟩
      show lp_X11_move_72 F L9 xs9 (nI k) (n + 1) _ (nI (sN P)) M1 = _
      rw [el_X11_move_72]
      unfold st_X11_move_72
      rw [c4, if_pos (by rw [n_le (by omega) (by omega)]; omega)]
  obtain ⟨q, e, rfl⟩ := L
  exact e
theorem p_move {k : Nat} (hF : 3000 ≤ F) (hL : L9 ≤ 260) (hS : ST P M t) (hk : k < sC1 P) (t2 : t + 40 < 1000000) : ∃ P' M' t', f_X11_move F L9 xs9 (nI k) M = some (1, M') ∧ ST P' M' t' ∧ t' ≤ t + 6 ∧ cnt P P' := by
  obtain ⟨hI, hV, ht⟩ := id hS
  have km := Km.rf M
  obtain ⟨-, -, n40, -⟩ := hS.c
  obtain ⟨M1, hM1⟩ : ∃ x, x = sC M 239 0 3 (fun _ => 0) := ⟨_, rfl⟩
  have htM1 : gI M1 122 2 = nI (t) := by rw [hM1, gI_sC, if_neg (by omega)]; exact ht
  have kmM1 : Km M M1 := by rw [hM1]; exact Km.sc km (by omega)
  obtain ⟨v0, M2, dv0, rv0, cv0, fv0⟩ := p_between (F := F) (xs9 := xs9) (lo := (-400)) (hi := 400) hL htM1 (by omega) (by decide) (by decide) (by decide)
  have htM2 : gI M2 122 2 = nI (t + 1) := cv0
  have kmM2 : Km M M2 := Km.d kmM1 fv0
  obtain ⟨M3, hM3⟩ : ∃ x, x = sI M2 239 0 v0 := ⟨_, rfl⟩
  have htM3 : gI M3 122 2 = nI (t + 1) := by rw [hM3, gI_sI, if_neg (by omega)]; exact htM2
  have kmM3 : Km M M3 := by rw [hM3]; exact Km.s kmM2 (by omega)
  have wM3_239_0 : gI M3 239 0 = v0 := by rw [hM3, gI_sI, if_pos ⟨rfl, rfl⟩]
  obtain ⟨v1, M4, dv1, rv1, cv1, fv1⟩ := p_between (F := F) (xs9 := xs9) (lo := (-300)) (hi := 300) hL htM3 (by omega) (by decide) (by decide) (by decide)
  have htM4 : gI M4 122 2 = nI (t + 2) := cv1
  have kmM4 : Km M M4 := Km.d kmM3 fv1
  have wM4_239_0 : gI M4 239 0 = v0 := (fv1 239 0 (by omega)).trans wM3_239_0
  obtain ⟨M5, hM5⟩ : ∃ x, x = sI M4 239 1 v1 := ⟨_, rfl⟩
  have htM5 : gI M5 122 2 = nI (t + 2) := by rw [hM5, gI_sI, if_neg (by omega)]; exact htM4
  have kmM5 : Km M M5 := by rw [hM5]; exact Km.s kmM4 (by omega)
  have wM5_239_0 : gI M5 239 0 = v0 := by rw [hM5, gI_sI, if_neg (by omega)]; exact wM4_239_0
  have wM5_239_1 : gI M5 239 1 = v1 := by rw [hM5, gI_sI, if_pos ⟨rfl, rfl⟩]
  obtain ⟨v2, M6, dv2, rv2, cv2, fv2⟩ := p_between (F := F) (xs9 := xs9) (lo := (-600)) (hi := 700) hL htM5 (by omega) (by decide) (by decide) (by decide)
  have htM6 : gI M6 122 2 = nI (t + 3) := cv2
  have kmM6 : Km M M6 := Km.d kmM5 fv2
  have wM6_239_0 : gI M6 239 0 = v0 := (fv2 239 0 (by omega)).trans wM5_239_0
  have wM6_239_1 : gI M6 239 1 = v1 := (fv2 239 1 (by omega)).trans wM5_239_1
  obtain ⟨M7, hM7⟩ : ∃ x, x = sI M6 239 2 v2 := ⟨_, rfl⟩
  have htM7 : gI M7 122 2 = nI (t + 3) := by rw [hM7, gI_sI, if_neg (by omega)]; exact htM6
  have kmM7 : Km M M7 := by rw [hM7]; exact Km.s kmM6 (by omega)
  have wM7_239_0 : gI M7 239 0 = v0 := by rw [hM7, gI_sI, if_neg (by omega)]; exact wM6_239_0
  have wM7_239_1 : gI M7 239 1 = v1 := by rw [hM7, gI_sI, if_neg (by omega)]; exact wM6_239_1
  have wM7_239_2 : gI M7 239 2 = v2 := by rw [hM7, gI_sI, if_pos ⟨rfl, rfl⟩]
  have u0 : (-400 : Int32).toInt = -400 := by decide
  have u1 : (400 : Int32).toInt = 400 := rfl
  have u2 : (-300 : Int32).toInt = -300 := by decide
  have u3 : (300 : Int32).toInt = 300 := rfl
  have u4 : (-600 : Int32).toInt = -600 := by decide
  have u5 : (700 : Int32).toInt = 700 := rfl
  have bp : plR v0 v1 v2 := by unfold plR inR; omega
  have k40 : k < 40 := by omega
  have e45 := p_mv45 (F := F) (L9 := L9) (xs9 := xs9) k40 hF wM7_239_0 wM7_239_1 wM7_239_2
  obtain ⟨Ma, hMa⟩ : ∃ x, x = sI (sI (sI M7 (133 + k) 0 v0) (133 + k) 1 v1) (133 + k) 2 v2 := ⟨_, rfl⟩
  rw [← hMa] at e45
  have hVa : SV (pM P k v0 v1 v2) Ma := by
    rw [hMa]
    exact SV_set (SV_set (SV_set (kmM7.SV hV) (sm_cor (by omega) (by omega) k40 rfl)) (sm_cor (by omega) (by omega) k40 rfl)) (sm_cor (by omega) (by omega) k40 rfl)
  have hIa : cI P Ma := (kmM7.cI hI).lo fun g j h => by rw [hMa, gI_sI, if_neg (by omega), gI_sI, if_neg (by omega), gI_sI, if_neg (by omega)]
  have va : ∀ j v, j < 3 → gI M7 239 j = v → gI Ma 239 j = v := fun j v hj hv => by
    rw [hMa, gI_sI, if_neg (by omega), gI_sI, if_neg (by omega), gI_sI, if_neg (by omega)]; exact hv
  obtain ⟨Mb, eb, hb, gb⟩ := co_moveCorner (F := F) hF hIa hk bp
  have e72 := p_mv72 (F := F) (L9 := L9) (xs9 := xs9) (k := k) hF hb.1.1 hVa
  refine ⟨_, Mb, t + 3, ?_, ⟨hb, hVa.to fun a b hs => gb a b hs.1, ?_⟩, by omega, ((cnt_set (by omega) (by omega)).tr (cnt_set (by omega) (by omega))).tr (cnt_set (by omega) (by omega))⟩
  · unfold f_X11_move
    rw [bnd_d, ← hM1, bndO_s _ dv0]
    dsimp only
    rw [bnd_d, ← hM3, bndO_s _ dv1]
    dsimp only
    rw [bnd_d, ← hM5, bndO_s _ dv2]
    dsimp only
    rw [bnd_d, ← hM7, bnd_d, bndO_s _ e45, bnd_d, bnd_d, bndO_s _ e72]
    dsimp only
    rw [va 0 _ (by omega) wM7_239_0, va 1 _ (by omega) wM7_239_1, va 2 _ (by omega) wM7_239_2, bndT_r _ _ eb]
    dsimp only
    rw [has_cnt hb.1.2 k _ (Nat.le_refl _), if_pos rfl]
  · rw [gb 122 2 (by omega), hMa, gI_sI, if_neg (by omega), gI_sI, if_neg (by omega), gI_sI, if_neg (by omega)]; exact htM7
end BLD
