/-! PURE PART: the checksum, by the reference -/
theorem rd_seen {P : PM} {M : GM} {F c : Nat} (hF : 3000 ≤ F) (hO : OK P) (hR : RV P M) (hc : c < 40) (d : Int64) : lp_X11_digest_48 F (nI c) F d 0 M = some (dgA d (sSv P c) 3, M) := by
  have L : ∃ q, lp_X11_digest_48 F (nI c) F d 0 M = some q ∧ q = (dgA d (sSv P c) 3, M) := by
    refine run_up (fun n (s : Int64 × Int32 × GM) => lp_X11_digest_48 F (nI c) n s.1 s.2.1 s.2.2) (fun i s => s.2.1 = nI i ∧ s.1 = dgA d (sSv P c) i ∧ s.2.2 = M) _ 0 3 F (by omega) (by omega) (s := (d, 0, M)) ⟨rfl, rfl, rfl⟩ ?_ ?_
    · rintro i ⟨a, x, M1⟩ - hi ⟨rfl, rfl, hm⟩
      have hm : M1 = M := hm
      subst hm
      obtain ⟨v, v1, v2⟩ := r_seenBy hF hO hR hc hi
      refine ⟨(dgA d (sSv P c) (i + 1), nI (i + 1), M1), ⟨rfl, rfl, rfl⟩, fun n => ?_⟩
      show lp_X11_digest_48 F (nI c) (n + 1) (dgA d (sSv P c) i) (nI i) M1 = _
      rw [el_X11_digest_48]
      unfold st_X11_digest_48
      rw [if_neg (by rw [i_3, n_le (by omega) (by omega)]; omega), bndO_s _ v1, bnd_d, bnd_d, i_1, n_a, a_of v2]
      rfl
    · rintro ⟨a, x, M1⟩ ⟨rfl, rfl, hm⟩
      have hm : M1 = M := hm
      subst hm
      refine ⟨_, rfl, fun n => ?_⟩
      show lp_X11_digest_48 F (nI c) (n + 1) _ (nI 3) M1 = _
      rw [el_X11_digest_48]
      unfold st_X11_digest_48
      rw [if_pos (by decide)] <;> rfl
  obtain ⟨q, e, rfl⟩ := L
  exact e
theorem rd_corners {P : PM} {M : GM} {F : Nat} (hF : 3000 ≤ F) (hO : OK P) (hR : RV P M) (d : Int64) : lp_X11_digest_37 F F d 0 M = some (dgC P d (sC1 P), M) := by
  obtain ⟨-, -, m1, m2⟩ := sN_of hO
  have e1 : gI M 122 1 = nI (sC1 P) := (hR.1 1 (by omega) (by omega)).trans m1
  have L : ∃ q, lp_X11_digest_37 F F d 0 M = some q ∧ q = (dgC P d (sC1 P), M) := by
    refine run_up (fun n (s : Int64 × Int32 × GM) => lp_X11_digest_37 F n s.1 s.2.1 s.2.2) (fun i s => s.2.1 = nI i ∧ s.1 = dgC P d i ∧ s.2.2 = M) _ 0 (sC1 P) F (by omega) (by omega) (s := (d, 0, M)) ⟨rfl, rfl, rfl⟩ ?_ ?_
    · rintro i ⟨a, x, M1⟩ - hi ⟨rfl, rfl, hm⟩
      have hm : M1 = M := hm
      subst hm
      refine ⟨(dgC P d (i + 1), nI (i + 1), M1), ⟨rfl, rfl, rfl⟩, fun n => ?_⟩
      show lp_X11_digest_37 F (n + 1) (dgC P d i) (nI i) M1 = _
      rw [el_X11_digest_37]
      unfold st_X11_digest_37
      rw [e1, if_neg (by rw [n_le (by omega) (by omega)]; omega), bnd_d, bndO_s _ (rd_seen hF hO hR (show i < 40 by omega) (dgC P d i))]
      show bnd (nI i + 1) _ = _
      rw [bnd_d, i_1, n_a]
      rfl
    · rintro ⟨a, x, M1⟩ ⟨rfl, rfl, hm⟩
      have hm : M1 = M := hm
      subst hm
      refine ⟨_, rfl, fun n => ?_⟩
      show lp_X11_digest_37 F (n + 1) _ (nI _) M1 = _
      rw [el_X11_digest_37]
      unfold st_X11_digest_37
      rw [e1, if_pos (by rw [n_le (by omega) (by omega)]; exact Nat.le_refl _)] <;> rfl
  obtain ⟨q, e, rfl⟩ := L
  exact e
theorem rd_spot {P : PM} {M : GM} {F p k : Nat} (hF : 3000 ≤ F) (hO : OK P) (hR : RV P M) (hl : rPoly M (sPane P p)) (hk : k < (sPane P p).length) (a : Int32) (d : Int64) : lp_X11_digest_157 F a (nI k) F d 0 M = some (dgA d (sSw P p k) 4, M) := by
  have len4 := sPane_len P p
  have ev := sVx_at hk
  have L : ∃ q, lp_X11_digest_157 F a (nI k) F d 0 M = some q ∧ q = (dgA d (sSw P p k) 4, M) := by
    refine run_up (fun n (s : Int64 × Int32 × GM) => lp_X11_digest_157 F a (nI k) n s.1 s.2.1 s.2.2) (fun i s => s.2.1 = nI i ∧ s.1 = dgA d (sSw P p k) i ∧ s.2.2 = M) _ 0 4 F (by omega) (by omega) (s := (d, 0, M)) ⟨rfl, rfl, rfl⟩ ?_ ?_
    · rintro i ⟨b, x, M1⟩ - hi ⟨rfl, rfl, hm⟩
      have hm : M1 = M := hm
      subst hm
      obtain ⟨z, z1, z2⟩ := rq_onScreen (F := F) (w := i) hO hR (show k < 4 by omega) (hl.2 k _ ev) (sPane_at hO ev) hi
      refine ⟨(dgA d (sSw P p k) (i + 1), nI (i + 1), M1), ⟨rfl, rfl, rfl⟩, fun n => ?_⟩
      show lp_X11_digest_157 F a (nI k) (n + 1) (dgA d (sSw P p k) i) (nI i) M1 = _
      rw [el_X11_digest_157]
      unfold st_X11_digest_157
      rw [if_neg (by rw [i_4, n_le (by omega) (by omega)]; omega), gn_144, grd_t (n_in (show k < 4 by omega) (by omega)), bnd_d, n_cl (show k < 2147483648 by omega), gr_144, bndO_s _ z1, bnd_d, bnd_d, i_1, n_a, a_of z2]
      rfl
    · rintro ⟨b, x, M1⟩ ⟨rfl, rfl, hm⟩
      have hm : M1 = M := hm
      subst hm
      refine ⟨_, rfl, fun n => ?_⟩
      show lp_X11_digest_157 F a (nI k) (n + 1) _ (nI 4) M1 = _
      rw [el_X11_digest_157]
      unfold st_X11_digest_157
      rw [if_pos (by decide)] <;> rfl
  obtain ⟨q, e, rfl⟩ := L
  exact e
theorem rd_spots {P : PM} {M : GM} {F p : Nat} (hF : 3000 ≤ F) (hO : OK P) (hR : RV P M) (hl : rPoly M (sPane P p)) (a : Int32) (d : Int64) : lp_X11_digest_145 F a F d 0 M = some (dgS P p d (sPane P p).length, M) := by
  have len4 := sPane_len P p
  have L : ∃ q, lp_X11_digest_145 F a F d 0 M = some q ∧ q = (dgS P p d (sPane P p).length, M) := by
    refine run_up (fun n (s : Int64 × Int32 × GM) => lp_X11_digest_145 F a n s.1 s.2.1 s.2.2) (fun i s => s.2.1 = nI i ∧ s.1 = dgS P p d i ∧ s.2.2 = M) _ 0 (sPane P p).length F (by omega) (by omega) (s := (d, 0, M)) ⟨rfl, rfl, rfl⟩ ?_ ?_
    · rintro i ⟨b, x, M1⟩ - hi ⟨rfl, rfl, hm⟩
      have hm : M1 = M := hm
      subst hm
      refine ⟨(dgS P p d (i + 1), nI (i + 1), M1), ⟨rfl, rfl, rfl⟩, fun n => ?_⟩
      show lp_X11_digest_145 F a (n + 1) (dgS P p d i) (nI i) M1 = _
      rw [el_X11_digest_145]
      unfold st_X11_digest_145
      rw [hl.1, if_neg (by rw [n_le (by omega) (by omega)]; omega), bnd_d, bndO_s _ (rd_spot (F := F) hF hO hR hl hi a (dgS P p d i))]
      show bnd (nI i + 1) _ = _
      rw [bnd_d, i_1, n_a]
      rfl
    · rintro ⟨b, x, M1⟩ ⟨rfl, rfl, hm⟩
      have hm : M1 = M := hm
      subst hm
      refine ⟨_, rfl, fun n => ?_⟩
      show lp_X11_digest_145 F a (n + 1) _ (nI _) M1 = _
      rw [el_X11_digest_145]
      unfold st_X11_digest_145
      rw [hl.1, if_pos (by rw [n_le (by omega) (by omega)]; exact Nat.le_refl _)] <;> rfl
  obtain ⟨q, e, rfl⟩ := L
  exact e
theorem rd_panes {P : PM} {M : GM} {F : Nat} (hF : 3000 ≤ F) (hO : OK P) (hR : RV P M) (d : Int64) : ∃ M', lp_X11_digest_83 F F d 0 M = some (dgPn P d (sN P), M') ∧ rQ P M M' := by
  obtain ⟨n1, n2, -, -⟩ := sN_of hO
  have L : ∃ q, lp_X11_digest_83 F F d 0 M = some q ∧ ∃ M', q = (dgPn P d (sN P), M') ∧ rQ P M M' := by
    refine run_up (fun n (s : Int64 × Int32 × GM) => lp_X11_digest_83 F n s.1 s.2.1 s.2.2) (fun i s => s.2.1 = nI i ∧ s.1 = dgPn P d i ∧ rQ P M s.2.2) _ 0 (sN P) F (by omega) (by omega) (s := (d, 0, M)) ⟨rfl, rfl, rQ.rf hR⟩ ?_ ?_
    · rintro i ⟨b, x, M1⟩ - hi ⟨rfl, rfl, k1⟩
      have i30 : i < 30 := by omega
      obtain ⟨M2, e2, -, q2⟩ := rq_sidesOf (F := F) hF hO k1.1 i30
      obtain ⟨M3, e3, f3, l3⟩ := r_drawnPieces (F := F) hF hO q2.1 i30
      have q3 := rQ.ra q2.1 f3 l3
      obtain ⟨M4, e4, y4, f4, l4⟩ := r_pointsIn (F := F) hF hO q3.1 i30
      have q4 : rQ P M3 M4 := rQ.of q3.1 (fun g k h => f4 g k fun q => h (q.elim Or.inl fun e => Or.inr (Or.inl ⟨by omega, by omega⟩))) l4
      refine ⟨(dgPn P d (i + 1), nI (i + 1), M4), ⟨rfl, rfl, k1.tr (q2.tr (q3.tr q4))⟩, fun n => ?_⟩
      show lp_X11_digest_83 F (n + 1) (dgPn P d i) (nI i) M1 = _
      rw [el_X11_digest_83]
      unfold st_X11_digest_83
      rw [show gI M1 122 2 = nI (sN P) from (k1.1.1 2 (by omega) (by omega)).trans n1, if_neg (by rw [n_le (by omega) (by omega)]; omega), bndO_s _ e2]
      show bndO (f_X11_drawnPieces F (nI i) M2) _ = _
      rw [bndO_s _ e3]
      show bndO (f_X11_pointsIn F (nI i) M3) _ = _
      rw [bndO_s _ e4]
      show bnd _ _ = _
      rw [bnd_d, bndO_s _ (rq_with hF q4.1), bnd_d, bnd_d]
      rw [bndO_s _ (rd_spots (F := F) hF hO q4.1 y4 (nI i) _)]
      show bnd (nI i + 1) _ = _
      rw [bnd_d, i_1, n_a]
      rfl
    · rintro ⟨b, x, M1⟩ ⟨rfl, rfl, k1⟩
      refine ⟨_, ⟨M1, rfl, k1⟩, fun n => ?_⟩
      show lp_X11_digest_83 F (n + 1) _ (nI _) M1 = _
      rw [el_X11_digest_83]
      unfold st_X11_digest_83
      rw [show gI M1 122 2 = nI (sN P) from (k1.1.1 2 (by omega) (by omega)).trans n1, if_pos (by rw [n_le (by omega) (by omega)]; exact Nat.le_refl _)] <;> rfl
  obtain ⟨q, e, M', rfl, h⟩ := L
  exact ⟨M', e, h⟩
theorem rd_points {P : PM} {M : GM} {F : Nat} (hF : 3000 ≤ F) (hR : RV P M) (d : Int64) : lp_X11_digest_216 F F d 0 M = some (dgX P d 960, M) := by
  have L : ∃ q, lp_X11_digest_216 F F d 0 M = some q ∧ q = (dgX P d 960, M) := by
    refine run_up (fun n (s : Int64 × Int32 × GM) => lp_X11_digest_216 F n s.1 s.2.1 s.2.2) (fun i s => s.2.1 = nI i ∧ s.1 = dgX P d i ∧ s.2.2 = M) _ 0 960 F (by omega) (by omega) (s := (d, 0, M)) ⟨rfl, rfl, rfl⟩ ?_ ?_
    · rintro i ⟨b, x, M1⟩ - hi ⟨rfl, rfl, hm⟩
      have hm : M1 = M := hm
      subst hm
      refine ⟨(dgX P d (i + 1), nI (i + 1), M1), ⟨rfl, rfl, rfl⟩, fun n => ?_⟩
      show lp_X11_digest_216 F (n + 1) (dgX P d i) (nI i) M1 = _
      rw [el_X11_digest_216]
      unfold st_X11_digest_216
      rw [if_neg (by rw [i_960, n_le (by omega) (by omega)]; omega), gn_138, gn_139, gn_140, n_in hi (by omega), n_cl (by omega), grdT, grdT, grdT, hR.2 138 i (by omega) (by omega), hR.2 139 i (by omega) (by omega), hR.2 140 i (by omega) (by omega), bnd_d, bnd_d, i_1, n_a]
      rfl
    · rintro ⟨b, x, M1⟩ ⟨rfl, rfl, hm⟩
      have hm : M1 = M := hm
      subst hm
      refine ⟨_, rfl, fun n => ?_⟩
      show lp_X11_digest_216 F (n + 1) _ (nI 960) M1 = _
      rw [el_X11_digest_216]
      unfold st_X11_digest_216
      rw [if_pos (by decide)] <;> rfl
  obtain ⟨q, e, rfl⟩ := L
  exact e
theorem rd_digest {P : PM} {M : GM} {F : Nat} (hF : 3000 ≤ F) (hO : OK P) (hR : RV P M) : ∃ M', f_X11_digest F M = some (dgAll P, M') ∧ rQ P (sI M 122 0 0) M' := by
  have hR0 := RV_thr hR 0
  obtain ⟨M1, e1, -, -, q1⟩ := rq_look (F := F) hF hO hR0
  have e2 := rd_corners (F := F) hF hO q1.1 (dgTop P)
  obtain ⟨M3, e3, q3⟩ := rd_panes (F := F) hF hO q1.1 (dgC P (dgTop P) (sC1 P))
  have e4 := rq_different (F := F) hF q3.1
  have e5 := rd_points (F := F) hF q3.1 (dgPn P (dgC P (dgTop P) (sC1 P)) (sN P) * 31 + (nI (sDist P)).toInt64)
  refine ⟨M3, ?_, q1.tr q3⟩
  have top : (((((76229 : Int64) + (P 122 1).toInt64) * (31 : Int64)) + (P 122 2).toInt64) * (31 : Int64)) + (nI (sStale P)).toInt64 = dgTop P := by
    unfold dgTop
    rw [show (2459 : Int64) * 31 = 76229 by decide]
  unfold f_X11_digest
  rw [bnd_d, bndO_s _ e1]
  show bnd (((((76229 : Int64) + (gI (sI M 122 0 0) 122 1).toInt64) * (31 : Int64)) + (gI (sI M 122 0 0) 122 2).toInt64) * (31 : Int64) + (nI (sStale P)).toInt64) _ = _
  rw [hR0.1 1 (by omega) (by omega), hR0.1 2 (by omega) (by omega), top, bnd_d, bnd_d, bndO_s _ e2]
  show bnd 0 _ = _
  rw [bnd_d, bndO_s _ e3]
  show bndO (f_X11_different F M3) _ = _
  rw [bndO_s _ e4, bnd_d, bnd_d, bndO_s _ e5]
  rfl
theorem op_digest {P : PM} {M : GM} {F : Nat} (hF : 3000 ≤ F) (hI : Inv P M) : ∃ w M1 M2, f_X10_digest F M = some (.inr (w, M1)) ∧ f_X11_digest F M1 = some (w, M2) ∧ Inv P M2 := by
  obtain ⟨⟨hO, hD⟩, hC, hR⟩ := id hI
  obtain ⟨M1, e1, q1⟩ := cd_digest (F := F) hF hO hC
  have hR1 : RV P M1 := hR.to fun g k h => q1.2 g k (by omega)
  obtain ⟨M2, e2, q2⟩ := rd_digest (F := F) hF hO hR1
  have fr : ∀ g k, g < 122 → gI M2 g k = gI M1 g k := fun g k h => (q2.2.1 g k h).trans (by rw [gI_sI, if_neg (by omega)])
  exact ⟨_, M1, M2, e1, e2, hI.1, ⟨q1.1.1.to fun g k h => fr g k (by unfold cvS at h; omega), q1.1.2.to fun k => fr _ _ (by omega)⟩, q2.1⟩
