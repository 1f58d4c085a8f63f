/-! PURE PART: corners, panes, pattern colours made by the law -/
theorem d_nat {v : Int32} {n : Int} (h : 0 ≤ v.toInt ∧ v.toInt < n) : ∃ p : Nat, v = nI p ∧ (p : Int) < n := ⟨v.toInt.toNat, n_of (by omega), by omega⟩
theorem n_dv {k m : Nat} (hk : k < 2147483648) (hm : m < 2147483648) (h0 : 0 < m) : nI k / nI m = nI (k / m) := n_of (by rw [a_div (n_int hk) (n_int hm) (by omega) (by omega)]; exact (Int.natCast_ediv k m).symm)
theorem n_md {k m : Nat} (hk : k < 2147483648) (hm : m < 2147483648) (h0 : 0 < m) : nI k - nI k / nI m * nI m = nI (k % m) := n_of (by rw [a_mod (n_int hk) (n_int hm) (by omega) (by omega)]; exact (Int.natCast_emod k m).symm)
def cnt (P P' : PM) : Prop := sC1 P' = sC1 P ∧ sN P' = sN P
theorem cnt.rf (P : PM) : cnt P P := ⟨rfl, rfl⟩
theorem cnt.tr {P P1 P2 : PM} (h : cnt P P1) (k : cnt P1 P2) : cnt P P2 := ⟨k.1.trans h.1, k.2.trans h.2⟩
theorem cnt_set {P : PM} {g k : Nat} {v : Int32} (h : ¬ (g = 122 ∧ k = 1)) (h2 : ¬ (g = 122 ∧ k = 2)) : cnt P (u2 P g k v) := ⟨by unfold sC1; rw [u2_at, if_neg (by omega)], by unfold sN; rw [u2_at, if_neg (by omega)]⟩
theorem row6 {M N : GM} {r T : Nat} {v0 v1 v2 v3 v4 v5 : Int32} (h : ∀ a b, scC a b → gI N a b = gI M a b) (w0 : gI N T 0 = v0) (w1 : gI N T 1 = v1) (w2 : gI N T 2 = v2) (w3 : gI N T 3 = v3) (w4 : gI N T 4 = v4) (w5 : gI N T 5 = v5) : ∀ a b, scC a b → gI (sC N r 0 6 (fun j => gI N T j)) a b = gI (sI (sI (sI (sI (sI (sI M r 0 v0) r 1 v1) r 2 v2) r 3 v3) r 4 v4) r 5 v5) a b := by
  intro a b hs
  rw [gI_sC]
  simp only [gI_sI]
  by_cases ha : a = r
  · subst ha
    rcases (show b = 0 ∨ b = 1 ∨ b = 2 ∨ b = 3 ∨ b = 4 ∨ b = 5 ∨ 6 ≤ b by omega) with rfl | rfl | rfl | rfl | rfl | rfl | hb
    · simp [w0]
    · simp [w1]
    · simp [w2]
    · simp [w3]
    · simp [w4]
    · simp [w5]
    · rw [if_neg (by omega), if_neg (by omega), if_neg (by omega), if_neg (by omega), if_neg (by omega), if_neg (by omega), if_neg (by omega)]; exact h a b hs
  · rw [if_neg (by omega), if_neg (by omega), if_neg (by omega), if_neg (by omega), if_neg (by omega), if_neg (by omega), if_neg (by omega)]; exact h a b hs
theorem row4 {M N : GM} {r T : Nat} {v0 v1 v2 v3 : Int32} (h : ∀ a b, scC a b → gI N a b = gI M a b) (w0 : gI N T 0 = v0) (w1 : gI N T 1 = v1) (w2 : gI N T 2 = v2) (w3 : gI N T 3 = v3) : ∀ a b, scC a b → gI (sC N r 0 4 (fun j => gI N T j)) a b = gI (sI (sI (sI (sI M r 0 v0) r 1 v1) r 2 v2) r 3 v3) a b := by
  intro a b hs
  rw [gI_sC]
  simp only [gI_sI]
  by_cases ha : a = r
  · subst ha
    rcases (show b = 0 ∨ b = 1 ∨ b = 2 ∨ b = 3 ∨ 4 ≤ b by omega) with rfl | rfl | rfl | rfl | hb
    · simp [w0]
    · simp [w1]
    · simp [w2]
    · simp [w3]
    · rw [if_neg (by omega), if_neg (by omega), if_neg (by omega), if_neg (by omega), if_neg (by omega)]; exact h a b hs
  · rw [if_neg (by omega), if_neg (by omega), if_neg (by omega), if_neg (by omega), if_neg (by omega)]; exact h a b hs
theorem row3 {M N : GM} {r T : Nat} {v0 v1 v2 : Int32} (h : ∀ a b, scC a b → gI N a b = gI M a b) (w0 : gI N T 0 = v0) (w1 : gI N T 1 = v1) (w2 : gI N T 2 = v2) : ∀ a b, scC a b → gI (sC N r 0 3 (fun j => gI N T j)) a b = gI (sI (sI (sI M r 0 v0) r 1 v1) r 2 v2) a b := by
  intro a b hs
  rw [gI_sC]
  simp only [gI_sI]
  by_cases ha : a = r
  · subst ha
    rcases (show b = 0 ∨ b = 1 ∨ b = 2 ∨ 3 ≤ b by omega) with rfl | rfl | rfl | hb
    · simp [w0]
    · simp [w1]
    · simp [w2]
    · rw [if_neg (by omega), if_neg (by omega), if_neg (by omega), if_neg (by omega)]; exact h a b hs
  · rw [if_neg (by omega), if_neg (by omega), if_neg (by omega), if_neg (by omega)]; exact h a b hs
section MK
variable {P : PM} {M : GM} {F L9 t : Nat} {xs9 : Nat → Int32}
theorem p_colourPattern (hL : L9 ≤ 260) (hS : ST P M t) (t2 : t + 20 < 1000000) : ∃ P' M' t', f_X11_colourPattern F L9 xs9 M = some (1, M') ∧ ST P' M' t' ∧ t' ≤ t + 5 ∧ cnt P P' := by
  obtain ⟨hI, hV, ht⟩ := id hS
  obtain ⟨v0, M1, d0, r0, c0, f0⟩ := p_draw (F := F) (xs9 := xs9) (n := 4) hL ht (by omega) (by decide)
  obtain ⟨v1, M2, d1, r1, c1, f1⟩ := p_draw (F := F) (xs9 := xs9) (n := 64) hL c0 (by omega) (by decide)
  obtain ⟨v2, M3, d2, r2, c2, f2⟩ := p_colour (F := F) (xs9 := xs9) hL c1 (by omega)
  obtain ⟨a, rfl, ha⟩ := d_nat r0
  obtain ⟨k, rfl, hk⟩ := d_nat r1
  have ha : a < 4 := by have : ((4 : Int32).toInt) = 4 := rfl; omega
  have hk : k < 64 := by have : ((64 : Int32).toInt) = 64 := rfl; omega
  have km : Km M M3 := ((((Km.rf M).d f0).d f1).d f2)
  have e1 : gI M3 (129 + a) k = P 135 (64 * a + k) := (km.SV hV) _ _ _ _ (sm_tin (by omega) (by omega) (by omega))
  obtain ⟨M4, hM4⟩ : ∃ x, x = sI M3 (129 + a) k v2 := ⟨_, rfl⟩
  have hI4 : cI P M4 := (km.cI hI).lo fun g j h => by rw [hM4, gI_sI, if_neg (by omega)]
  obtain ⟨M5, e5, h5, g5⟩ := co_setPattern (F := F) (n := a) (x := k % 8) (y := k / 8) hI4 ha (by omega) (by omega) r2
  rw [show k / 8 * 8 + k % 8 = k by omega] at e5 h5
  refine ⟨u2 P 135 (64 * a + k) v2, M5, t + 1 + 1 + 3, ?_, ⟨h5, ?_, ?_⟩, by omega, cnt_set (by omega) (by omega)⟩
  · unfold f_X11_colourPattern
    rw [bndO_s _ d0]
    dsimp only
    rw [bnd_d, bndO_s _ d1]
    dsimp only
    rw [bnd_d, bndO_s _ d2]
    dsimp only
    rw [bnd_d, gg_127, grd_t (n_in ha (by omega)), bnd_d, n_cl (show a < 2147483648 by omega), rr_127, gN_pat ha, grd_t (n_in hk (by omega)), bnd_d, n_cl (show k < 2147483648 by omega), e1, grd_t (n_in ha (by omega)), bnd_d, gN_pat ha, grd_t (n_in hk (by omega)), bnd_d, ← hM4, i_8, n_md (show k < 2147483648 by omega) (by omega) (by omega), n_dv (show k < 2147483648 by omega) (by omega) (by omega), bndT_r _ _ e5]
    dsimp only
    rw [if_pos rfl]
  · refine (SV_set (v := v2) hV (sm_tin (k := 64 * a + k) (a := 129 + a) (b := k) (by omega) (by omega) (by omega))).to fun x y hs => ?_
    rw [g5 x y hs.1, hM4, gI_sI, gI_sI]
    by_cases q : x = 129 + a ∧ y = k
    · rw [if_pos q, if_pos q]
    · rw [if_neg q, if_neg q]; exact km x y hs.2.1 hs.2.2
  · rw [g5 122 2 (by omega), hM4, gI_sI, if_neg (by omega)]; exact c2
theorem p_corner2 {M0 : GM} {v0 v1 a19 : Int32} (hL : L9 ≤ 260) (hI : cI P M0) (hV : SV P M0) (hc : sC1 P < 40) (km : Km M0 M) (ht : gI M 122 2 = nI t) (t2 : t + 20 < 1000000) (w0 : gI M 236 0 = v0) (w1 : gI M 236 1 = v1) (b0 : inR v0 (-2000) 2000) (b1 : inR v1 (-2000) 2000) (b2 : inR a19 (-2000) 2000) :
    ∃ P' M' t', bk_X11_addCorner_63 F L9 xs9 a19 2 M = some (1, M') ∧ ST P' M' t' ∧ t' ≤ t + 5 ∧ sC1 P' = sC1 P + 1 ∧ sN P' = sN P := by
  obtain ⟨M1, hM1⟩ : ∃ x, x = sI M 236 2 a19 := ⟨_, rfl⟩
  have htM1 : gI M1 122 2 = nI (t) := by rw [hM1, gI_sI, if_neg (by omega)]; exact ht
  have kmM1 : Km M0 M1 := by rw [hM1]; exact Km.s km (by omega)
  have wM1_236_0 : gI M1 236 0 = v0 := by rw [hM1, gI_sI, if_neg (by omega)]; exact w0
  have wM1_236_1 : gI M1 236 1 = v1 := by rw [hM1, gI_sI, if_neg (by omega)]; exact w1
  have wM1_236_2 : gI M1 236 2 = a19 := by rw [hM1, gI_sI, if_pos ⟨rfl, rfl⟩]
  obtain ⟨v3, M2, dv3, rv3, cv3, fv3⟩ := p_colour (F := F) (xs9 := xs9) hL htM1 (by omega)
  have htM2 : gI M2 122 2 = nI (t + 3) := cv3
  have kmM2 : Km M0 M2 := Km.d kmM1 fv3
  have wM2_236_0 : gI M2 236 0 = v0 := (fv3 236 0 (by omega)).trans wM1_236_0
  have wM2_236_1 : gI M2 236 1 = v1 := (fv3 236 1 (by omega)).trans wM1_236_1
  have wM2_236_2 : gI M2 236 2 = a19 := (fv3 236 2 (by omega)).trans wM1_236_2
  obtain ⟨M3, hM3⟩ : ∃ x, x = sI M2 236 3 v3 := ⟨_, rfl⟩
  have htM3 : gI M3 122 2 = nI (t + 3) := by rw [hM3, gI_sI, if_neg (by omega)]; exact htM2
  have kmM3 : Km M0 M3 := by rw [hM3]; exact Km.s kmM2 (by omega)
  have wM3_236_0 : gI M3 236 0 = v0 := by rw [hM3, gI_sI, if_neg (by omega)]; exact wM2_236_0
  have wM3_236_1 : gI M3 236 1 = v1 := by rw [hM3, gI_sI, if_neg (by omega)]; exact wM2_236_1
  have wM3_236_2 : gI M3 236 2 = a19 := by rw [hM3, gI_sI, if_neg (by omega)]; exact wM2_236_2
  have wM3_236_3 : gI M3 236 3 = v3 := by rw [hM3, gI_sI, if_pos ⟨rfl, rfl⟩]
  obtain ⟨v4, M4, dv4, rv4, cv4, fv4⟩ := p_draw (F := F) (xs9 := xs9) (n := 2048) hL htM3 (by omega) (by decide)
  have htM4 : gI M4 122 2 = nI (t + 4) := cv4
  have kmM4 : Km M0 M4 := Km.d kmM3 fv4
  have wM4_236_0 : gI M4 236 0 = v0 := (fv4 236 0 (by omega)).trans wM3_236_0
  have wM4_236_1 : gI M4 236 1 = v1 := (fv4 236 1 (by omega)).trans wM3_236_1
  have wM4_236_2 : gI M4 236 2 = a19 := (fv4 236 2 (by omega)).trans wM3_236_2
  have wM4_236_3 : gI M4 236 3 = v3 := (fv4 236 3 (by omega)).trans wM3_236_3
  obtain ⟨M5, hM5⟩ : ∃ x, x = sI M4 236 4 v4 := ⟨_, rfl⟩
  have htM5 : gI M5 122 2 = nI (t + 4) := by rw [hM5, gI_sI, if_neg (by omega)]; exact htM4
  have kmM5 : Km M0 M5 := by rw [hM5]; exact Km.s kmM4 (by omega)
  have wM5_236_0 : gI M5 236 0 = v0 := by rw [hM5, gI_sI, if_neg (by omega)]; exact wM4_236_0
  have wM5_236_1 : gI M5 236 1 = v1 := by rw [hM5, gI_sI, if_neg (by omega)]; exact wM4_236_1
  have wM5_236_2 : gI M5 236 2 = a19 := by rw [hM5, gI_sI, if_neg (by omega)]; exact wM4_236_2
  have wM5_236_3 : gI M5 236 3 = v3 := by rw [hM5, gI_sI, if_neg (by omega)]; exact wM4_236_3
  have wM5_236_4 : gI M5 236 4 = v4 := by rw [hM5, gI_sI, if_pos ⟨rfl, rfl⟩]
  obtain ⟨v5, M6, dv5, rv5, cv5, fv5⟩ := p_draw (F := F) (xs9 := xs9) (n := 2048) hL htM5 (by omega) (by decide)
  have htM6 : gI M6 122 2 = nI (t + 5) := cv5
  have kmM6 : Km M0 M6 := Km.d kmM5 fv5
  have wM6_236_0 : gI M6 236 0 = v0 := (fv5 236 0 (by omega)).trans wM5_236_0
  have wM6_236_1 : gI M6 236 1 = v1 := (fv5 236 1 (by omega)).trans wM5_236_1
  have wM6_236_2 : gI M6 236 2 = a19 := (fv5 236 2 (by omega)).trans wM5_236_2
  have wM6_236_3 : gI M6 236 3 = v3 := (fv5 236 3 (by omega)).trans wM5_236_3
  have wM6_236_4 : gI M6 236 4 = v4 := (fv5 236 4 (by omega)).trans wM5_236_4
  obtain ⟨M7, hM7⟩ : ∃ x, x = sI M6 236 5 v5 := ⟨_, rfl⟩
  have htM7 : gI M7 122 2 = nI (t + 5) := by rw [hM7, gI_sI, if_neg (by omega)]; exact htM6
  have kmM7 : Km M0 M7 := by rw [hM7]; exact Km.s kmM6 (by omega)
  have wM7_236_0 : gI M7 236 0 = v0 := by rw [hM7, gI_sI, if_neg (by omega)]; exact wM6_236_0
  have wM7_236_1 : gI M7 236 1 = v1 := by rw [hM7, gI_sI, if_neg (by omega)]; exact wM6_236_1
  have wM7_236_2 : gI M7 236 2 = a19 := by rw [hM7, gI_sI, if_neg (by omega)]; exact wM6_236_2
  have wM7_236_3 : gI M7 236 3 = v3 := by rw [hM7, gI_sI, if_neg (by omega)]; exact wM6_236_3
  have wM7_236_4 : gI M7 236 4 = v4 := by rw [hM7, gI_sI, if_neg (by omega)]; exact wM6_236_4
  have wM7_236_5 : gI M7 236 5 = v5 := by rw [hM7, gI_sI, if_pos ⟨rfl, rfl⟩]
  have u0 : (2048 : Int32).toInt = 2048 := rfl
  have b4 : inR v4 0 2047 := by unfold inR; omega
  have b5 : inR v5 0 2047 := by unfold inR; omega
  obtain ⟨n3, n4, n1, -⟩ := ST.c (t := t) (M := sI M0 122 2 (nI t)) ⟨hI.lo fun g j h => by rw [gI_sI, if_neg (by omega)], hV.to fun a b h => by rw [gI_sI, if_neg h.2.2], by rw [gI_sI, if_pos ⟨rfl, rfl⟩]⟩
  rw [gI_sI, if_neg (by omega)] at n3 n4
  obtain ⟨n, hn⟩ : ∃ n, n = sC1 P := ⟨_, rfl⟩
  rw [← hn] at n3 n1 hc
  have c3 : gI M7 122 3 = nI n := (kmM7 122 3 (by omega) (by omega)).trans n3
  obtain ⟨Ma, hMa⟩ : ∃ x, x = sC M7 (133 + n) 0 6 (fun j => gI M7 236 j) := ⟨_, rfl⟩
  have rw6 := row6 (M := M0) (N := M7) (r := 133 + n) (T := 236) (fun a b h => kmM7 a b h.2.1 h.2.2) wM7_236_0 wM7_236_1 wM7_236_2 wM7_236_3 wM7_236_4 wM7_236_5
  rw [← hMa] at rw6
  have ca : gI Ma 122 3 = nI n := by rw [hMa, gI_sC, if_neg (by omega)]; exact c3
  obtain ⟨Mb, hMb⟩ : ∃ x, x = sI Ma 122 3 (nI n + 1) := ⟨_, rfl⟩
  have vals : ∀ j v, j < 6 → gI M7 236 j = v → gI Mb (133 + n) j = v := fun j v hj hv => by
    rw [hMb, gI_sI, if_neg (by omega), hMa, gI_sC, if_pos ⟨rfl, by omega, by omega⟩, Nat.sub_zero]; exact hv
  have hIb : cI P Mb := (kmM7.cI hI).lo fun g j h => by rw [hMb, gI_sI, if_neg (by omega), hMa, gI_sC, if_neg (by omega)]
  obtain ⟨Mc, ec, hc2, gc⟩ := co_addCorner (F := F) hIb (a := v0) (b := v1) (c := a19) (d := v3) (e := v4) (f := v5) ⟨b0, b1, b2⟩ rv3 b4 b5 (by omega)
  rw [← hn] at ec hc2
  have cc : gI Mc 122 3 = nI (n + 1) := by rw [gc 122 3 (by omega), hMb, gI_sI, if_pos ⟨rfl, rfl⟩]; exact n_a n 1
  refine ⟨pC P n v0 v1 a19 v3 v4 v5, Mc, t + 5, ?_, ⟨hc2, ?_, ?_⟩, by omega, ?_, ?_⟩
  · unfold bk_X11_addCorner_63
    rw [gn_236, grd_t (by decide), bnd_d, show (2 : Int32).toNatClampNeg = 2 by decide, ← hM1, bndO_s _ dv3]
    dsimp only
    rw [bnd_d, ← hM3, bndO_s _ dv4]
    dsimp only
    rw [bnd_d, ← hM5, bndO_s _ dv5]
    dsimp only
    rw [bnd_d, ← hM7, c3, gn_123, grd_t (n_in hc (by omega)), bnd_d, n_cl (show n < 2147483648 by omega), rr_123, bnd_d, ← hMa, bnd_d, ca, ← hMb, gN_cor hc, grd_t (by decide), grd_t (by decide), grd_t (by decide), grd_t (by decide), grd_t (by decide), grd_t (by decide), vals 0 _ (by omega) wM7_236_0, vals 1 _ (by omega) wM7_236_1, vals 2 _ (by omega) wM7_236_2, vals 3 _ (by omega) wM7_236_3, vals 4 _ (by omega) wM7_236_4, vals 5 _ (by omega) wM7_236_5, bndT_r _ _ ec]
    dsimp only
    rw [cc, n_s, if_pos rfl]
  · refine SV.to (M := sI (sI (sI (sI (sI (sI (sI M0 (133 + n) 0 v0) (133 + n) 1 v1) (133 + n) 2 a19) (133 + n) 3 v3) (133 + n) 4 v4) (133 + n) 5 v5) 122 3 (nI n + 1)) ?_ fun a b hs => ?_
    · exact SV_set (SV_set (SV_set (SV_set (SV_set (SV_set (SV_set hV (sm_cor (by omega) (by omega) hc rfl)) (sm_cor (by omega) (by omega) hc rfl)) (sm_cor (by omega) (by omega) hc rfl)) (sm_cor (by omega) (by omega) hc rfl)) (sm_cor (by omega) (by omega) hc rfl)) (sm_cor (by omega) (by omega) hc rfl)) sm_c1
    · rw [gc a b hs.1, hMb, gI_sI, gI_sI]
      by_cases q : a = 122 ∧ b = 3
      · rw [if_pos q, if_pos q]
      · rw [if_neg q, if_neg q]; exact rw6 a b hs
  · rw [gc 122 2 (by omega), hMb, gI_sI, if_neg (by omega), hMa, gI_sC, if_neg (by omega)]; exact htM7
  · unfold pC sC1
    rw [u2_at, if_pos ⟨rfl, rfl⟩, show (nI n + 1 : Int32) = nI (n + 1) from n_a n 1, n_cl (by omega), hn]
    rfl
  · unfold pC sN
    rw [u2_at, if_neg (by omega), u2_at, if_neg (by omega), u2_at, if_neg (by omega), u2_at, if_neg (by omega), u2_at, if_neg (by omega), u2_at, if_neg (by omega), u2_at, if_neg (by omega)]
theorem p_addCorner (hL : L9 ≤ 260) (hS : ST P M t) (hc : sC1 P < 40) (t2 : t + 40 < 1000000) : ∃ P' M' t', f_X11_addCorner F L9 xs9 M = some (1, M') ∧ ST P' M' t' ∧ t' ≤ t + 10 ∧ sC1 P' = sC1 P + 1 ∧ sN P' = sN P := by
  obtain ⟨hI, hV, ht⟩ := id hS
  have km := Km.rf M
  obtain ⟨M1, hM1⟩ : ∃ x, x = sC M 236 0 6 (fun _ => 0) := ⟨_, rfl⟩
  have htM1 : gI M1 122 2 = nI (t) := by rw [hM1, gI_sC, if_neg (by omega)]; exact ht
  have kmM1 : Km M M1 := by rw [hM1]; exact Km.sc km (by omega)
  obtain ⟨v0, M2, dv0, rv0, cv0, fv0⟩ := p_between (F := F) (xs9 := xs9) (lo := (-400)) (hi := 400) hL htM1 (by omega) (by decide) (by decide) (by decide)
  have htM2 : gI M2 122 2 = nI (t + 1) := cv0
  have kmM2 : Km M M2 := Km.d kmM1 fv0
  obtain ⟨M3, hM3⟩ : ∃ x, x = sI M2 236 0 v0 := ⟨_, rfl⟩
  have htM3 : gI M3 122 2 = nI (t + 1) := by rw [hM3, gI_sI, if_neg (by omega)]; exact htM2
  have kmM3 : Km M M3 := by rw [hM3]; exact Km.s kmM2 (by omega)
  have wM3_236_0 : gI M3 236 0 = v0 := by rw [hM3, gI_sI, if_pos ⟨rfl, rfl⟩]
  obtain ⟨v1, M4, dv1, rv1, cv1, fv1⟩ := p_between (F := F) (xs9 := xs9) (lo := (-300)) (hi := 300) hL htM3 (by omega) (by decide) (by decide) (by decide)
  have htM4 : gI M4 122 2 = nI (t + 2) := cv1
  have kmM4 : Km M M4 := Km.d kmM3 fv1
  have wM4_236_0 : gI M4 236 0 = v0 := (fv1 236 0 (by omega)).trans wM3_236_0
  obtain ⟨M5, hM5⟩ : ∃ x, x = sI M4 236 1 v1 := ⟨_, rfl⟩
  have htM5 : gI M5 122 2 = nI (t + 2) := by rw [hM5, gI_sI, if_neg (by omega)]; exact htM4
  have kmM5 : Km M M5 := by rw [hM5]; exact Km.s kmM4 (by omega)
  have wM5_236_0 : gI M5 236 0 = v0 := by rw [hM5, gI_sI, if_neg (by omega)]; exact wM4_236_0
  have wM5_236_1 : gI M5 236 1 = v1 := by rw [hM5, gI_sI, if_pos ⟨rfl, rfl⟩]
  obtain ⟨vz, M6, dvz, rvz, cvz, fvz⟩ := p_draw (F := F) (xs9 := xs9) (n := 5) hL htM5 (by omega) (by decide)
  have htM6 : gI M6 122 2 = nI (t + 3) := cvz
  have kmM6 : Km M M6 := Km.d kmM5 fvz
  have wM6_236_0 : gI M6 236 0 = v0 := (fvz 236 0 (by omega)).trans wM5_236_0
  have wM6_236_1 : gI M6 236 1 = v1 := (fvz 236 1 (by omega)).trans wM5_236_1
  have u0 : (-400 : Int32).toInt = -400 := by decide
  have u1 : (400 : Int32).toInt = 400 := rfl
  have u2 : (-300 : Int32).toInt = -300 := by decide
  have u3 : (300 : Int32).toInt = 300 := rfl
  have u4 : (-900 : Int32).toInt = -900 := by decide
  have u5 : (700 : Int32).toInt = 700 := rfl
  have b0 : inR v0 (-2000) 2000 := by unfold inR; omega
  have b1 : inR v1 (-2000) 2000 := by unfold inR; omega
  have go : ∀ (x : Option (Int32 × GM)), (∃ P' M' t', x = some (1, M') ∧ ST P' M' t' ∧ t' ≤ t + 10 ∧ sC1 P' = sC1 P + 1 ∧ sN P' = sN P) → ∀ y, y = x → (∃ P' M' t', y = some (1, M') ∧ ST P' M' t' ∧ t' ≤ t + 10 ∧ sC1 P' = sC1 P + 1 ∧ sN P' = sN P) := fun x h y e => by rw [e]; exact h
  by_cases hz : vz = 0
  · obtain ⟨v2, M7, dv2, rv2, cv2, fv2⟩ := p_between (F := F) (xs9 := xs9) (lo := (-900)) (hi := (-300)) hL htM6 (by omega) (by decide) (by decide) (by decide)
    have htM7 : gI M7 122 2 = nI (t + 4) := cv2
    have kmM7 : Km M M7 := Km.d kmM6 fv2
    have wM7_236_0 : gI M7 236 0 = v0 := (fv2 236 0 (by omega)).trans wM6_236_0
    have wM7_236_1 : gI M7 236 1 = v1 := (fv2 236 1 (by omega)).trans wM6_236_1
    have b2 : inR v2 (-2000) 2000 := by unfold inR; omega
    obtain ⟨P', M', t', e9, h9, q9, c9⟩ := p_corner2 (F := F) (xs9 := xs9) hL hI hV hc kmM7 htM7 (by omega) wM7_236_0 wM7_236_1 b0 b1 b2
    refine ⟨P', M', t', ?_, h9, by omega, c9⟩
    unfold f_X11_addCorner
    rw [bnd_d, ← hM1, bndO_s _ dv0]
    dsimp only
    rw [bnd_d, ← hM3, bndO_s _ dv1]
    dsimp only
    rw [bnd_d, ← hM5, bndO_s _ dvz]
    dsimp only
    rw [if_pos hz, bndO_s _ dv2]
    exact e9
  · obtain ⟨v2, M7, dv2, rv2, cv2, fv2⟩ := p_between (F := F) (xs9 := xs9) (lo := (-300)) (hi := 700) hL htM6 (by omega) (by decide) (by decide) (by decide)
    have htM7 : gI M7 122 2 = nI (t + 4) := cv2
    have kmM7 : Km M M7 := Km.d kmM6 fv2
    have wM7_236_0 : gI M7 236 0 = v0 := (fv2 236 0 (by omega)).trans wM6_236_0
    have wM7_236_1 : gI M7 236 1 = v1 := (fv2 236 1 (by omega)).trans wM6_236_1
    have b2 : inR v2 (-2000) 2000 := by unfold inR; omega
    obtain ⟨P', M', t', e9, h9, q9, c9⟩ := p_corner2 (F := F) (xs9 := xs9) hL hI hV hc kmM7 htM7 (by omega) wM7_236_0 wM7_236_1 b0 b1 b2
    refine ⟨P', M', t', ?_, h9, by omega, c9⟩
    unfold f_X11_addCorner
    rw [bnd_d, ← hM1, bndO_s _ dv0]
    dsimp only
    rw [bnd_d, ← hM3, bndO_s _ dv1]
    dsimp only
    rw [bnd_d, ← hM5, bndO_s _ dvz]
    dsimp only
    rw [if_neg hz, bndO_s _ dv2]
    exact e9
/-- the next corner, round -/
def nx (n h : Nat) : Nat := if h + 1 = n then 0 else h + 1
theorem nx_e {n h : Nat} (hh : h < n) (hn : n ≤ 40) : (nI h + 1) - (nI h + 1) / nI n * nI n = nI (nx n h) := by
  rw [show (nI h + 1 : Int32) = nI (h + 1) from n_a h 1, n_md (by omega) (by omega) (by omega)]
  unfold nx
  split
  · rename_i e; rw [e, Nat.mod_self]
  · rw [Nat.mod_eq_of_lt (by omega)]
theorem p_third {n f s h : Nat} (hn : gI M 122 3 = nI n) (n40 : n ≤ 40) (n3 : 3 ≤ n) (hf : f < n) (hs : s < n) (hh : h < n) (hfs : f ≠ s) (G : Nat) : ∃ h', h' < n ∧ h' ≠ f ∧ h' ≠ s ∧ lp_X11_addPane_38 F L9 xs9 (nI f) (nI s) (G + 3) (nI h) M = some (nI h', M) := by
  have step : ∀ (k x : Nat), x < n → (x = f ∨ x = s) → lp_X11_addPane_38 F L9 xs9 (nI f) (nI s) (k + 1) (nI x) M = lp_X11_addPane_38 F L9 xs9 (nI f) (nI s) k (nI (nx n x)) M := fun k x hx hq => by
    rw [el_X11_addPane_38]
    unfold st_X11_addPane_38
    have h0 : decide (¬ nI n = 0) = true := by rw [decide_eq_true_eq, i_0, n_eq (by omega) (by omega)]; omega
    by_cases q : x = f
    · rw [if_pos (by rw [q]), hn, grd_t h0, bnd_d, nx_e hx n40]
    · rw [if_neg (by rw [n_eq (by omega) (by omega)]; exact q), if_pos (by rw [n_eq (by omega) (by omega)]; omega), hn, grd_t h0, bnd_d, nx_e hx n40]
  have stop : ∀ (k x : Nat), x < n → x ≠ f → x ≠ s → lp_X11_addPane_38 F L9 xs9 (nI f) (nI s) (k + 1) (nI x) M = some (nI x, M) := fun k x hx h1 h2 => by
    rw [el_X11_addPane_38]
    unfold st_X11_addPane_38
    rw [if_neg (by rw [n_eq (by omega) (by omega)]; exact h1), if_neg (by rw [n_eq (by omega) (by omega)]; exact h2)]
  have nl : ∀ x, x < n → nx n x < n := fun x hx => by unfold nx; split <;> omega
  by_cases q0 : h = f ∨ h = s
  · have l1 := nl h hh
    by_cases q1 : nx n h = f ∨ nx n h = s
    · have l2 := nl _ l1
      have q2 : nx n (nx n h) ≠ f ∧ nx n (nx n h) ≠ s := by
        unfold nx at q1 ⊢
        split at q1 <;> (try split) <;> (try split) <;> omega
      exact ⟨nx n (nx n h), l2, q2.1, q2.2, by rw [step (G + 2) h hh q0, step (G + 1) _ l1 q1, stop G _ l2 q2.1 q2.2]⟩
    · exact ⟨nx n h, l1, fun e => q1 (Or.inl e), fun e => q1 (Or.inr e), by rw [step (G + 2) h hh q0, stop (G + 1) _ l1 (fun e => q1 (Or.inl e)) (fun e => q1 (Or.inr e))]⟩
  · exact ⟨h, hh, fun e => q0 (Or.inl e), fun e => q0 (Or.inr e), stop (G + 2) h hh (fun e => q0 (Or.inl e)) (fun e => q0 (Or.inr e))⟩
theorem p_pane3 {M0 : GM} {f s h : Nat} {d e g : Int32} (hI : cI P M0) (hV : SV P M0) (hn30 : sN P < 30) (km : Km M0 M) (ht : gI M 122 2 = nI t) (w0 : gI M 237 0 = nI f) (w1 : gI M 237 1 = nI s) (w2 : gI M 237 2 = nI h) (w3 : gI M 237 3 = d) (x0 : gI M 238 0 = e) (hf : f < sC1 P) (hs : s < sC1 P) (hh : h < sC1 P) (d1 : f ≠ s) (d2 : s ≠ h) (d3 : h ≠ f) (hd : inR d (-1) 3) (he : e = 0 ∨ e = 1) (hg : g = 0 ∨ g = 1) :
    ∃ P' M', bk_X11_addPane_120 F L9 xs9 g 1 M = some (1, M') ∧ ST P' M' t ∧ sC1 P' = sC1 P ∧ sN P' = sN P + 1 := by
  obtain ⟨n3, n4, n1, n2⟩ := ST.c (t := t) (M := sI M0 122 2 (nI t)) ⟨hI.lo fun g j h => by rw [gI_sI, if_neg (by omega)], hV.to fun a b h => by rw [gI_sI, if_neg h.2.2], by rw [gI_sI, if_pos ⟨rfl, rfl⟩]⟩
  rw [gI_sI, if_neg (by omega)] at n3 n4
  obtain ⟨n, hn⟩ : ∃ n, n = sN P := ⟨_, rfl⟩
  rw [← hn] at n4 n2 hn30
  obtain ⟨M1, hM1⟩ : ∃ x, x = sI M 238 1 g := ⟨_, rfl⟩
  have htM1 : gI M1 122 2 = nI (t) := by rw [hM1, gI_sI, if_neg (by omega)]; exact ht
  have kmM1 : Km M0 M1 := by rw [hM1]; exact Km.s km (by omega)
  have wM1_237_0 : gI M1 237 0 = nI f := by rw [hM1, gI_sI, if_neg (by omega)]; exact w0
  have wM1_237_1 : gI M1 237 1 = nI s := by rw [hM1, gI_sI, if_neg (by omega)]; exact w1
  have wM1_237_2 : gI M1 237 2 = nI h := by rw [hM1, gI_sI, if_neg (by omega)]; exact w2
  have wM1_237_3 : gI M1 237 3 = d := by rw [hM1, gI_sI, if_neg (by omega)]; exact w3
  have wM1_238_0 : gI M1 238 0 = e := by rw [hM1, gI_sI, if_neg (by omega)]; exact x0
  have wM1_238_1 : gI M1 238 1 = g := by rw [hM1, gI_sI, if_pos ⟨rfl, rfl⟩]
  obtain ⟨M2, hM2⟩ : ∃ x, x = sI M1 238 2 1 := ⟨_, rfl⟩
  have htM2 : gI M2 122 2 = nI (t) := by rw [hM2, gI_sI, if_neg (by omega)]; exact htM1
  have kmM2 : Km M0 M2 := by rw [hM2]; exact Km.s kmM1 (by omega)
  have wM2_237_0 : gI M2 237 0 = nI f := by rw [hM2, gI_sI, if_neg (by omega)]; exact wM1_237_0
  have wM2_237_1 : gI M2 237 1 = nI s := by rw [hM2, gI_sI, if_neg (by omega)]; exact wM1_237_1
  have wM2_237_2 : gI M2 237 2 = nI h := by rw [hM2, gI_sI, if_neg (by omega)]; exact wM1_237_2
  have wM2_237_3 : gI M2 237 3 = d := by rw [hM2, gI_sI, if_neg (by omega)]; exact wM1_237_3
  have wM2_238_0 : gI M2 238 0 = e := by rw [hM2, gI_sI, if_neg (by omega)]; exact wM1_238_0
  have wM2_238_1 : gI M2 238 1 = g := by rw [hM2, gI_sI, if_neg (by omega)]; exact wM1_238_1
  have wM2_238_2 : gI M2 238 2 = 1 := by rw [hM2, gI_sI, if_pos ⟨rfl, rfl⟩]
  have c4 : gI M2 122 4 = nI n := (kmM2 122 4 (by omega) (by omega)).trans n4
  obtain ⟨Ma, hMa⟩ : ∃ x, x = sC M2 (173 + n) 0 4 (fun j => gI M2 237 j) := ⟨_, rfl⟩
  have rw4 := row4 (M := M0) (N := M2) (r := 173 + n) (T := 237) (fun a b h => kmM2 a b h.2.1 h.2.2) wM2_237_0 wM2_237_1 wM2_237_2 wM2_237_3
  rw [← hMa] at rw4
  have ca : gI Ma 122 4 = nI n := by rw [hMa, gI_sC, if_neg (by omega)]; exact c4
  have y0 : gI Ma 238 0 = e := by rw [hMa, gI_sC, if_neg (by omega)]; exact wM2_238_0
  have y1 : gI Ma 238 1 = g := by rw [hMa, gI_sC, if_neg (by omega)]; exact wM2_238_1
  have y2 : gI Ma 238 2 = 1 := by rw [hMa, gI_sC, if_neg (by omega)]; exact wM2_238_2
  obtain ⟨Mb, hMb⟩ : ∃ x, x = sC Ma (203 + n) 0 3 (fun j => gI Ma 238 j) := ⟨_, rfl⟩
  have rw3 := row3 (r := 203 + n) (T := 238) rw4 y0 y1 y2
  rw [← hMb] at rw3
  have cb : gI Mb 122 4 = nI n := by rw [hMb, gI_sC, if_neg (by omega)]; exact ca
  obtain ⟨Mc, hMc⟩ : ∃ x, x = sI Mb 122 4 (nI n + 1) := ⟨_, rfl⟩
  have va : ∀ j v, j < 4 → gI M2 237 j = v → gI Mc (173 + n) j = v := fun j v hj hv => by
    rw [hMc, gI_sI, if_neg (by omega), hMb, gI_sC, if_neg (by omega), hMa, gI_sC, if_pos ⟨rfl, by omega, by omega⟩, Nat.sub_zero]; exact hv
  have vb : ∀ j v, j < 3 → gI Ma 238 j = v → gI Mc (203 + n) j = v := fun j v hj hv => by
    rw [hMc, gI_sI, if_neg (by omega), hMb, gI_sC, if_pos ⟨rfl, by omega, by omega⟩, Nat.sub_zero]; exact hv
  have hIc : cI P Mc := (kmM2.cI hI).lo fun g j h => by rw [hMc, gI_sI, if_neg (by omega), hMb, gI_sC, if_neg (by omega), hMa, gI_sC, if_neg (by omega)]
  obtain ⟨Md, ed, hd2, gd⟩ := co_addPane (F := F) hIc (a := nI f) (b := nI s) (c := nI h) (d := d) (e := e) (f := g) (ix_in hf n1) (ix_in hs n1) (ix_in hh n1) (by rw [n_eq (by omega) (by omega)]; exact d1) (by rw [n_eq (by omega) (by omega)]; exact d2) (by rw [n_eq (by omega) (by omega)]; exact d3) hd he hg (by omega)
  rw [← hn] at ed hd2
  have cd : gI Md 122 4 = nI (n + 1) := by rw [gd 122 4 (by omega), hMc, gI_sI, if_pos ⟨rfl, rfl⟩]; exact n_a n 1
  refine ⟨pN P n (nI f) (nI s) (nI h) d e g, Md, ?_, ⟨hd2, ?_, ?_⟩, ?_, ?_⟩
  · unfold bk_X11_addPane_120
    rw [gn_238, grd_t (by decide), grd_t (tf_ok hg), bnd_d, show (1 : Int32).toNatClampNeg = 1 by decide, ← hM1, bnd_d, ← hM2, c4, show gN 124 = 30 by decide +kernel, grd_t (n_in hn30 (by omega)), bnd_d, n_cl (show n < 2147483648 by omega), rr_124, bnd_d, ← hMa, ca, gg_125, grd_t (n_in hn30 (by omega)), bnd_d, n_cl (show n < 2147483648 by omega), rr_125, bnd_d, ← hMb, bnd_d, cb, ← hMc, gN_pan hn30, gN_iss hn30, grd_t (by decide), grd_t (by decide), grd_t (by decide), grd_t (by decide), grd_t (by decide), grd_t (by decide), va 0 _ (by omega) wM2_237_0, va 1 _ (by omega) wM2_237_1, va 2 _ (by omega) wM2_237_2, va 3 _ (by omega) wM2_237_3, vb 0 _ (by omega) y0, vb 1 _ (by omega) y1, bndT_r _ _ ed]
    dsimp only
    rw [cd, n_s, if_pos rfl]
  · refine SV.to (M := sI (sI (sI (sI (sI (sI (sI (sI M0 (173 + n) 0 (nI f)) (173 + n) 1 (nI s)) (173 + n) 2 (nI h)) (173 + n) 3 d) (203 + n) 0 e) (203 + n) 1 g) (203 + n) 2 1) 122 4 (nI n + 1)) ?_ fun a b hs => ?_
    · exact SV_set (SV_set (SV_set (SV_set (SV_set (SV_set (SV_set (SV_set hV (sm_of (by omega) (by omega) (by omega))) (sm_of (by omega) (by omega) (by omega))) (sm_of (by omega) (by omega) (by omega))) (sm_pt hn30)) (sm_is (by omega) (by omega) hn30 rfl)) (sm_is (by omega) (by omega) hn30 rfl)) (sm_is (by omega) (by omega) hn30 rfl)) sm_c2
    · rw [gd a b hs.1, hMc, gI_sI, gI_sI]
      by_cases q : a = 122 ∧ b = 4
      · rw [if_pos q, if_pos q]
      · rw [if_neg q, if_neg q]; exact rw3 a b hs
  · rw [gd 122 2 (by omega), hMc, gI_sI, if_neg (by omega), hMb, gI_sC, if_neg (by omega), hMa, gI_sC, if_neg (by omega)]; exact htM2
  · unfold pN sC1
    rw [u2_at, if_neg (by omega), u2_at, if_neg (by omega), u2_at, if_neg (by omega), u2_at, if_neg (by omega), u2_at, if_neg (by omega), u2_at, if_neg (by omega), u2_at, if_neg (by omega), u2_at, if_neg (by omega)]
  · unfold pN sN
    rw [u2_at, if_pos ⟨rfl, rfl⟩, show (nI n + 1 : Int32) = nI (n + 1) from n_a n 1, n_cl (by omega), hn]
    rfl
theorem p_addPane (hF : 3000 ≤ F) (hL : L9 ≤ 260) (hS : ST P M t) (hn30 : sN P < 30) (h3 : 3 ≤ sC1 P) (t2 : t + 40 < 1000000) : ∃ P' M' t', f_X11_addPane F L9 xs9 M = some (1, M') ∧ ST P' M' t' ∧ t' ≤ t + 6 ∧ sC1 P' = sC1 P ∧ sN P' = sN P + 1 := by
  obtain ⟨hI, hV, ht⟩ := id hS
  have km := Km.rf M
  obtain ⟨c3, -, n40, -⟩ := hS.c
  obtain ⟨n, hn⟩ : ∃ n, n = sC1 P := ⟨_, rfl⟩
  rw [← hn] at c3 n40 h3
  obtain ⟨v0, M1, dv0, rv0, cv0, fv0⟩ := p_draw (F := F) (xs9 := xs9) (n := nI n) hL ht (by omega) (by rw [n_int (by omega)]; omega)
  have htM1 : gI M1 122 2 = nI (t + 1) := cv0
  have kmM1 : Km M M1 := Km.d km fv0
  obtain ⟨v1, M2, dv1, rv1, cv1, fv1⟩ := p_draw (F := F) (xs9 := xs9) (n := (nI n - 2)) hL htM1 (by omega) (by rw [show (nI n - 2 : Int32) = nI (n - 2) from n_of (by rw [a_sub (n_int (by omega)) tv_2 (by omega) (by omega)]; omega), n_int (by omega)]; omega)
  have htM2 : gI M2 122 2 = nI (t + 2) := cv1
  have kmM2 : Km M M2 := Km.d kmM1 fv1
  obtain ⟨v2, M3, dv2, rv2, cv2, fv2⟩ := p_draw (F := F) (xs9 := xs9) (n := nI n) hL htM2 (by omega) (by rw [n_int (by omega)]; omega)
  have htM3 : gI M3 122 2 = nI (t + 3) := cv2
  have kmM3 : Km M M3 := Km.d kmM2 fv2
  have e2 : (nI n - 2 : Int32).toInt = (n : Int) - 2 := a_sub (n_int (by omega)) tv_2 (by omega) (by omega)
  rw [n_int (by omega)] at rv0 rv2
  rw [e2] at rv1
  obtain ⟨f, rfl, hf⟩ := d_nat rv0
  obtain ⟨s, rfl, hs⟩ := d_nat rv1
  obtain ⟨h, rfl, hh⟩ := d_nat rv2
  have hsec : (nI f + 1 + nI s) - (nI f + 1 + nI s) / nI n * nI n = nI ((f + 1 + s) % n) := by
    rw [show (nI f + 1 : Int32) = nI (f + 1) from n_a f 1, n_a, n_md (by omega) (by omega) (by omega)]
  have hsn : (f + 1 + s) % n < n ∧ (f + 1 + s) % n ≠ f := by
    refine ⟨Nat.mod_lt _ (by omega), ?_⟩
    rcases Nat.lt_or_ge (f + 1 + s) n with q | q
    · rw [Nat.mod_eq_of_lt q]; omega
    · rw [Nat.mod_eq_sub_mod q, Nat.mod_eq_of_lt (by omega)]; omega
  have ca : gI M1 122 3 = nI n := (kmM1 122 3 (by omega) (by omega)).trans c3
  have cb : gI M2 122 3 = nI n := (kmM2 122 3 (by omega) (by omega)).trans c3
  have cc : gI M3 122 3 = nI n := (kmM3 122 3 (by omega) (by omega)).trans c3
  obtain ⟨h', hh', q1, q2, e3⟩ := p_third (F := F) (L9 := L9) (xs9 := xs9) cc n40 h3 (show f < n by omega) hsn.1 (show h < n by omega) (fun e => hsn.2 e.symm) (F - 3)
  rw [show F - 3 + 3 = F by omega] at e3
  have n0 : decide (¬ nI n = 0) = true := by rw [decide_eq_true_eq, i_0, n_eq (by omega) (by omega)]; omega
  obtain ⟨s2, hs2⟩ : ∃ x, x = (f + 1 + s) % n := ⟨_, rfl⟩
  rw [← hs2] at hsec hsn e3 q2
  obtain ⟨M4, hM4⟩ : ∃ x, x = sC M3 237 0 4 (fun _ => 0) := ⟨_, rfl⟩
  have htM4 : gI M4 122 2 = nI (t + 3) := by rw [hM4, gI_sC, if_neg (by omega)]; exact htM3
  have kmM4 : Km M M4 := by rw [hM4]; exact Km.sc kmM3 (by omega)
  obtain ⟨M5, hM5⟩ : ∃ x, x = sI M4 237 0 (nI f) := ⟨_, rfl⟩
  have htM5 : gI M5 122 2 = nI (t + 3) := by rw [hM5, gI_sI, if_neg (by omega)]; exact htM4
  have kmM5 : Km M M5 := by rw [hM5]; exact Km.s kmM4 (by omega)
  have wM5_237_0 : gI M5 237 0 = (nI f) := by rw [hM5, gI_sI, if_pos ⟨rfl, rfl⟩]
  obtain ⟨M6, hM6⟩ : ∃ x, x = sI M5 237 1 (nI s2) := ⟨_, rfl⟩
  have htM6 : gI M6 122 2 = nI (t + 3) := by rw [hM6, gI_sI, if_neg (by omega)]; exact htM5
  have kmM6 : Km M M6 := by rw [hM6]; exact Km.s kmM5 (by omega)
  have wM6_237_0 : gI M6 237 0 = (nI f) := by rw [hM6, gI_sI, if_neg (by omega)]; exact wM5_237_0
  have wM6_237_1 : gI M6 237 1 = (nI s2) := by rw [hM6, gI_sI, if_pos ⟨rfl, rfl⟩]
  obtain ⟨M7, hM7⟩ : ∃ x, x = sI M6 237 2 (nI h') := ⟨_, rfl⟩
  have htM7 : gI M7 122 2 = nI (t + 3) := by rw [hM7, gI_sI, if_neg (by omega)]; exact htM6
  have kmM7 : Km M M7 := by rw [hM7]; exact Km.s kmM6 (by omega)
  have wM7_237_0 : gI M7 237 0 = (nI f) := by rw [hM7, gI_sI, if_neg (by omega)]; exact wM6_237_0
  have wM7_237_1 : gI M7 237 1 = (nI s2) := by rw [hM7, gI_sI, if_neg (by omega)]; exact wM6_237_1
  have wM7_237_2 : gI M7 237 2 = (nI h') := by rw [hM7, gI_sI, if_pos ⟨rfl, rfl⟩]
  obtain ⟨v3, M8, dv3, rv3, cv3, fv3⟩ := p_between (F := F) (xs9 := xs9) (lo := (-1)) (hi := 3) hL htM7 (by omega) (by decide) (by decide) (by decide)
  have htM8 : gI M8 122 2 = nI (t + 4) := cv3
  have kmM8 : Km M M8 := Km.d kmM7 fv3
  have wM8_237_0 : gI M8 237 0 = (nI f) := (fv3 237 0 (by omega)).trans wM7_237_0
  have wM8_237_1 : gI M8 237 1 = (nI s2) := (fv3 237 1 (by omega)).trans wM7_237_1
  have wM8_237_2 : gI M8 237 2 = (nI h') := (fv3 237 2 (by omega)).trans wM7_237_2
  obtain ⟨M9, hM9⟩ : ∃ x, x = sI M8 237 3 v3 := ⟨_, rfl⟩
  have htM9 : gI M9 122 2 = nI (t + 4) := by rw [hM9, gI_sI, if_neg (by omega)]; exact htM8
  have kmM9 : Km M M9 := by rw [hM9]; exact Km.s kmM8 (by omega)
  have wM9_237_0 : gI M9 237 0 = (nI f) := by rw [hM9, gI_sI, if_neg (by omega)]; exact wM8_237_0
  have wM9_237_1 : gI M9 237 1 = (nI s2) := by rw [hM9, gI_sI, if_neg (by omega)]; exact wM8_237_1
  have wM9_237_2 : gI M9 237 2 = (nI h') := by rw [hM9, gI_sI, if_neg (by omega)]; exact wM8_237_2
  have wM9_237_3 : gI M9 237 3 = v3 := by rw [hM9, gI_sI, if_pos ⟨rfl, rfl⟩]
  obtain ⟨M10, hM10⟩ : ∃ x, x = sC M9 238 0 3 (fun _ => 0) := ⟨_, rfl⟩
  have htM10 : gI M10 122 2 = nI (t + 4) := by rw [hM10, gI_sC, if_neg (by omega)]; exact htM9
  have kmM10 : Km M M10 := by rw [hM10]; exact Km.sc kmM9 (by omega)
  have wM10_237_0 : gI M10 237 0 = (nI f) := by rw [hM10, gI_sC, if_neg (by omega)]; exact wM9_237_0
  have wM10_237_1 : gI M10 237 1 = (nI s2) := by rw [hM10, gI_sC, if_neg (by omega)]; exact wM9_237_1
  have wM10_237_2 : gI M10 237 2 = (nI h') := by rw [hM10, gI_sC, if_neg (by omega)]; exact wM9_237_2
  have wM10_237_3 : gI M10 237 3 = v3 := by rw [hM10, gI_sC, if_neg (by omega)]; exact wM9_237_3
  obtain ⟨v4, M11, dv4, rv4, cv4, fv4⟩ := p_draw (F := F) (xs9 := xs9) (n := 4) hL htM10 (by omega) (by decide)
  have htM11 : gI M11 122 2 = nI (t + 5) := cv4
  have kmM11 : Km M M11 := Km.d kmM10 fv4
  have wM11_237_0 : gI M11 237 0 = (nI f) := (fv4 237 0 (by omega)).trans wM10_237_0
  have wM11_237_1 : gI M11 237 1 = (nI s2) := (fv4 237 1 (by omega)).trans wM10_237_1
  have wM11_237_2 : gI M11 237 2 = (nI h') := (fv4 237 2 (by omega)).trans wM10_237_2
  have wM11_237_3 : gI M11 237 3 = v3 := (fv4 237 3 (by omega)).trans wM10_237_3
  have b3 : inR v3 (-1) 3 := rv3
  have key : ∀ e : Int32, (e = 0 ∨ e = 1) → ∃ P' M' t', bk_X11_addPane_104 F L9 xs9 e 0 M11 = some (1, M') ∧ ST P' M' t' ∧ t' ≤ t + 6 ∧ sC1 P' = sC1 P ∧ sN P' = sN P + 1 := by
    intro e he
    obtain ⟨M12, hM12⟩ : ∃ x, x = sI M11 238 0 e := ⟨_, rfl⟩
    have htM12 : gI M12 122 2 = nI (t + 5) := by rw [hM12, gI_sI, if_neg (by omega)]; exact htM11
    have kmM12 : Km M M12 := by rw [hM12]; exact Km.s kmM11 (by omega)
    have wM12_237_0 : gI M12 237 0 = (nI f) := by rw [hM12, gI_sI, if_neg (by omega)]; exact wM11_237_0
    have wM12_237_1 : gI M12 237 1 = (nI s2) := by rw [hM12, gI_sI, if_neg (by omega)]; exact wM11_237_1
    have wM12_237_2 : gI M12 237 2 = (nI h') := by rw [hM12, gI_sI, if_neg (by omega)]; exact wM11_237_2
    have wM12_237_3 : gI M12 237 3 = v3 := by rw [hM12, gI_sI, if_neg (by omega)]; exact wM11_237_3
    have wM12_238_0 : gI M12 238 0 = e := by rw [hM12, gI_sI, if_pos ⟨rfl, rfl⟩]
    obtain ⟨v5, M13, dv5, rv5, cv5, fv5⟩ := p_draw (F := F) (xs9 := xs9) (n := 3) hL htM12 (by omega) (by decide)
    have htM13 : gI M13 122 2 = nI (t + 6) := cv5
    have kmM13 : Km M M13 := Km.d kmM12 fv5
    have wM13_237_0 : gI M13 237 0 = (nI f) := (fv5 237 0 (by omega)).trans wM12_237_0
    have wM13_237_1 : gI M13 237 1 = (nI s2) := (fv5 237 1 (by omega)).trans wM12_237_1
    have wM13_237_2 : gI M13 237 2 = (nI h') := (fv5 237 2 (by omega)).trans wM12_237_2
    have wM13_237_3 : gI M13 237 3 = v3 := (fv5 237 3 (by omega)).trans wM12_237_3
    have wM13_238_0 : gI M13 238 0 = e := (fv5 238 0 (by omega)).trans wM12_238_0
    have fin : ∀ g : Int32, (g = 0 ∨ g = 1) → ∃ P' M', bk_X11_addPane_120 F L9 xs9 g 1 M13 = some (1, M') ∧ ST P' M' (t + 6) ∧ sC1 P' = sC1 P ∧ sN P' = sN P + 1 := fun g hg =>
      p_pane3 hI hV hn30 kmM13 htM13 wM13_237_0 wM13_237_1 wM13_237_2 wM13_237_3 wM13_238_0 (by omega) (by omega) (by omega) (fun q => hsn.2 q.symm) (fun q => q2 q.symm) q1 b3 he hg
    by_cases z : v5 ≤ 0
    · obtain ⟨P', M', e9, h9, c9⟩ := fin 0 (Or.inl rfl)
      refine ⟨P', M', _, ?_, h9, by omega, c9⟩
      unfold bk_X11_addPane_104
      rw [gn_238, grd_t (by decide), grd_t (tf_ok he), bnd_d, show (0 : Int32).toNatClampNeg = 0 by decide, ← hM12, bndO_s _ dv5]
      dsimp only
      rw [if_pos z]
      exact e9
    · obtain ⟨P', M', e9, h9, c9⟩ := fin 1 (Or.inr rfl)
      refine ⟨P', M', _, ?_, h9, by omega, c9⟩
      unfold bk_X11_addPane_104
      rw [gn_238, grd_t (by decide), grd_t (tf_ok he), bnd_d, show (0 : Int32).toNatClampNeg = 0 by decide, ← hM12, bndO_s _ dv5]
      dsimp only
      rw [if_neg z]
      exact e9
  have top : ∀ X, (if v4 = 0 then bk_X11_addPane_104 F L9 xs9 1 0 M11 else bk_X11_addPane_104 F L9 xs9 0 0 M11) = X → f_X11_addPane F L9 xs9 M = X := fun X hX => by
    unfold f_X11_addPane
    rw [c3, bndO_s _ dv0]
    dsimp only
    rw [bnd_d, ca, bndO_s _ dv1]
    dsimp only
    rw [cb, grd_t n0, bnd_d, hsec, bndO_s _ dv2]
    dsimp only
    rw [bnd_d, bndO_s _ e3]
    dsimp only
    rw [bnd_d, ← hM4, bnd_d, ← hM5, bnd_d, ← hM6, bnd_d, ← hM7, bndO_s _ dv3]
    dsimp only
    rw [bnd_d, ← hM9, bnd_d, ← hM10, bndO_s _ dv4]
    exact hX
  by_cases z : v4 = 0
  · obtain ⟨P', M', t', e9, h9, c9⟩ := key 1 (Or.inr rfl)
    exact ⟨P', M', t', top _ (by rw [if_pos z]; exact e9), h9, c9⟩
  · obtain ⟨P', M', t', e9, h9, c9⟩ := key 0 (Or.inl rfl)
    exact ⟨P', M', t', top _ (by rw [if_neg z]; exact e9), h9, c9⟩
end MK
