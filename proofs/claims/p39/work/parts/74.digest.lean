/-! PURE PART: the checksum -/
def dgA (d : Int64) (f : Nat → Int32) : Nat → Int64
  | 0 => d
  | n + 1 => dgA d f n * 31 + (f n).toInt64
def sSv (P : PM) (c r : Nat) : Int32 := Int32.ofInt (sSeen P c r)
def dgC (P : PM) (d : Int64) : Nat → Int64
  | 0 => d
  | c + 1 => dgA (dgC P d c) (sSv P c) 3
def sVx (P : PM) (p k : Nat) : V := (sPane P p).getD k (fun _ => 0)
theorem sVx_at {P : PM} {p k : Nat} (h : k < (sPane P p).length) : (sPane P p)[k]? = some (sVx P p k) := by
  unfold sVx; rw [List.getD_eq_getElem?_getD, List.getElem?_eq_getElem h]; rfl
def sSw (P : PM) (p k w : Nat) : Int32 := Int32.ofInt (sScr P (sVx P p k) w)
def dgS (P : PM) (p : Nat) (d : Int64) : Nat → Int64
  | 0 => d
  | k + 1 => dgA (dgS P p d k) (sSw P p k) 4
def dgP1 (P : PM) (p : Nat) (d : Int64) : Int64 := (((d * 31 + (nI (sPane P p).length).toInt64) * 31 + (nI (sPieces P p)).toInt64) * 31 + (nI (sPoints P p)).toInt64) * 31 + (nI (sWith P p)).toInt64
def dgPn (P : PM) (d : Int64) : Nat → Int64
  | 0 => d
  | p + 1 => dgS P p (dgP1 P p (dgPn P d p)) (sPane P p).length
def dgX (P : PM) (d : Int64) : Nat → Int64
  | 0 => d
  | k + 1 => ((dgX P d k * 31 + (P 138 k).toInt64) * 31 + (P 139 k).toInt64) * 31 + (P 140 k).toInt64
def dgTop (P : PM) : Int64 := (((2459 : Int64) * 31 + (P 122 1).toInt64) * 31 + (P 122 2).toInt64) * 31 + (nI (sStale P)).toInt64
def dgAll (P : PM) : Int64 := dgX P (dgPn P (dgC P (dgTop P) (sC1 P)) (sN P) * 31 + (nI (sDist P)).toInt64) 960
/-! the class -/
theorem cd_seen {P : PM} {M : GM} {F c : Nat} (hF : 3000 ≤ F) (hO : OK P) (hC : CV P M) (hc : c < sC1 P) (d : Int64) : lp_X10_digest_66 F (nI c) F d 0 M = some (.inl (dgA d (sSv P c) 3, M)) := by
  obtain ⟨-, -, -, m2⟩ := sN_of hO
  have one : ∀ r, r < 3 → f_X10_seen F (nI c) (nI r) M = some (.inr (sSv P c r)) := fun r hr => by
    obtain ⟨v, v1, v2⟩ := c_along (F := F) (r := r) hO hC (show c < 40 by omega) hr
    unfold f_X10_seen f_X10_requireCameraRow
    rw [c_reqCorner hO hC, if_pos (show inR (nI c) 0 _ by unfold inR; rw [n_int (by omega)]; omega), bndTr, w_in _ tv_0 tv_2, one_if, if_pos (show inR (nI r) 0 2 by unfold inR; rw [n_int (by omega)]; omega), bndTr, gn_1, grd_t (n_in (show c < 40 by omega) (by omega)), bnd_d, n_cl (by omega), gr_1, bndO_s _ v1, a_of v2]
    rfl
  have L : ∃ q, lp_X10_digest_66 F (nI c) F d 0 M = some q ∧ q = .inl (dgA d (sSv P c) 3, M) := by
    refine run_up (fun n (s : Int64 × Int32 × GM) => lp_X10_digest_66 F (nI c) n s.1 s.2.1 s.2.2) (fun i s => s.2.1 = nI i ∧ s.1 = dgA d (sSv P c) i ∧ s.2.2 = M) _ 0 3 F (by omega) (by omega) (s := (d, 0, M)) ⟨rfl, rfl, rfl⟩ ?_ ?_
    · rintro i ⟨a, x, M1⟩ - hi ⟨rfl, rfl, hm⟩
      have hm : M1 = M := hm
      subst hm
      refine ⟨(dgA d (sSv P c) (i + 1), nI (i + 1), M1), ⟨rfl, rfl, rfl⟩, fun n => ?_⟩
      show lp_X10_digest_66 F (nI c) (n + 1) (dgA d (sSv P c) i) (nI i) M1 = _
      rw [el_X10_digest_66]
      unfold st_X10_digest_66
      rw [if_neg (by rw [i_3, n_le (by omega) (by omega)]; omega), bndT_r _ _ (one i hi), bnd_d, bnd_d, i_1, n_a]
      rfl
    · rintro ⟨a, x, M1⟩ ⟨rfl, rfl, hm⟩
      have hm : M1 = M := hm
      subst hm
      refine ⟨_, rfl, fun n => ?_⟩
      show lp_X10_digest_66 F (nI c) (n + 1) _ (nI 3) M1 = _
      rw [el_X10_digest_66]
      unfold st_X10_digest_66
      rw [if_pos (by decide)] <;> rfl
  obtain ⟨q, e, rfl⟩ := L
  exact e
theorem cd_corners {P : PM} {M : GM} {F : Nat} (hF : 3000 ≤ F) (hO : OK P) (hC : CV P M) (d : Int64) : lp_X10_digest_55 F F d 0 M = some (.inl (dgC P d (sC1 P), M)) := by
  obtain ⟨-, -, m1, m2⟩ := sN_of hO
  have e12 : gI M 0 12 = nI (sC1 P) := hC.1.1.trans m1
  have L : ∃ q, lp_X10_digest_55 F F d 0 M = some q ∧ q = .inl (dgC P d (sC1 P), M) := by
    refine run_up (fun n (s : Int64 × Int32 × GM) => lp_X10_digest_55 F n s.1 s.2.1 s.2.2) (fun i s => s.2.1 = nI i ∧ s.1 = dgC P d i ∧ s.2.2 = M) _ 0 (sC1 P) F (by omega) (by omega) (s := (d, 0, M)) ⟨rfl, rfl, rfl⟩ ?_ ?_
    · rintro i ⟨a, x, M1⟩ - hi ⟨rfl, rfl, hm⟩
      have hm : M1 = M := hm
      subst hm
      refine ⟨(dgC P d (i + 1), nI (i + 1), M1), ⟨rfl, rfl, rfl⟩, fun n => ?_⟩
      show lp_X10_digest_55 F (n + 1) (dgC P d i) (nI i) M1 = _
      rw [el_X10_digest_55]
      unfold st_X10_digest_55
      rw [e12, if_neg (by rw [n_le (by omega) (by omega)]; omega), bnd_d, bndT_l _ _ (cd_seen hF hO hC hi (dgC P d i))]
      show bnd (nI i + 1) _ = _
      rw [bnd_d, i_1, n_a]
      rfl
    · rintro ⟨a, x, M1⟩ ⟨rfl, rfl, hm⟩
      have hm : M1 = M := hm
      subst hm
      refine ⟨_, rfl, fun n => ?_⟩
      show lp_X10_digest_55 F (n + 1) _ (nI _) M1 = _
      rw [el_X10_digest_55]
      unfold st_X10_digest_55
      rw [e12, if_pos (by rw [n_le (by omega) (by omega)]; omega)] <;> rfl
  obtain ⟨q, e, rfl⟩ := L
  exact e
theorem cd_spot {P : PM} {M : GM} {F p k : Nat} (hF : 3000 ≤ F) (hO : OK P) (hC : CS P M) (hp : p < sN P) (hk : k < (sPane P p).length) (a : Int32) (d : Int64) : ∃ M', lp_X10_digestPane_80 F (nI p) a (nI k) F d 0 M = some (.inl (dgA d (sSw P p k) 4, M')) ∧ cQ P M M' := by
  have ev := sVx_at hk
  have L : ∃ q, lp_X10_digestPane_80 F (nI p) a (nI k) F d 0 M = some q ∧ ∃ M', q = .inl (dgA d (sSw P p k) 4, M') ∧ cQ P M M' := by
    refine run_up (fun n (s : Int64 × Int32 × GM) => lp_X10_digestPane_80 F (nI p) a (nI k) n s.1 s.2.1 s.2.2) (fun i s => s.2.1 = nI i ∧ s.1 = dgA d (sSw P p k) i ∧ cQ P M s.2.2) _ 0 4 F (by omega) (by omega) (s := (d, 0, M)) ⟨rfl, rfl, cQ.rf hC⟩ ?_ ?_
    · rintro i ⟨b, x, M1⟩ - hi ⟨rfl, rfl, k1⟩
      obtain ⟨z, M2, z1, z2, q⟩ := cq_screen (F := F) (w := i) hF hO k1.1 hp ev hi
      refine ⟨(dgA d (sSw P p k) (i + 1), nI (i + 1), M2), ⟨rfl, rfl, k1.tr q⟩, fun n => ?_⟩
      show lp_X10_digestPane_80 F (nI p) a (nI k) (n + 1) (dgA d (sSw P p k) i) (nI i) M1 = _
      rw [el_X10_digestPane_80]
      unfold st_X10_digestPane_80
      rw [if_neg (by rw [i_4, n_le (by omega) (by omega)]; omega), bndT_r _ _ z1]
      show bnd _ _ = _
      rw [bnd_d, bnd_d, i_1, n_a, a_of z2]
      rfl
    · rintro ⟨b, x, M1⟩ ⟨rfl, rfl, k1⟩
      refine ⟨_, ⟨M1, rfl, k1⟩, fun n => ?_⟩
      show lp_X10_digestPane_80 F (nI p) a (nI k) (n + 1) _ (nI 4) M1 = _
      rw [el_X10_digestPane_80]
      unfold st_X10_digestPane_80
      rw [if_pos (by decide)] <;> rfl
  obtain ⟨q, e, M', rfl, h⟩ := L
  exact ⟨M', e, h⟩
theorem cd_spots {P : PM} {M : GM} {F p : Nat} (hF : 3000 ≤ F) (hO : OK P) (hC : CS P M) (hp : p < sN P) (d : Int64) : ∃ M', lp_X10_digestPane_70 F (nI p) (nI (sPane P p).length) F d 0 M = some (.inl (dgS P p d (sPane P p).length, M')) ∧ cQ P M M' := by
  have len4 := sPane_len P p
  have L : ∃ q, lp_X10_digestPane_70 F (nI p) (nI (sPane P p).length) F d 0 M = some q ∧ ∃ M', q = .inl (dgS P p d (sPane P p).length, M') ∧ cQ P M M' := by
    refine run_up (fun n (s : Int64 × Int32 × GM) => lp_X10_digestPane_70 F (nI p) (nI (sPane P p).length) n s.1 s.2.1 s.2.2) (fun i s => s.2.1 = nI i ∧ s.1 = dgS P p d i ∧ cQ P M s.2.2) _ 0 (sPane P p).length F (by omega) (by omega) (s := (d, 0, M)) ⟨rfl, rfl, cQ.rf hC⟩ ?_ ?_
    · rintro i ⟨b, x, M1⟩ - hi ⟨rfl, rfl, k1⟩
      obtain ⟨M2, e2, q⟩ := cd_spot (F := F) hF hO k1.1 hp hi (nI (sPane P p).length) (dgS P p d i)
      refine ⟨(dgS P p d (i + 1), nI (i + 1), M2), ⟨rfl, rfl, k1.tr q⟩, fun n => ?_⟩
      show lp_X10_digestPane_70 F (nI p) (nI (sPane P p).length) (n + 1) (dgS P p d i) (nI i) M1 = _
      rw [el_X10_digestPane_70]
      unfold st_X10_digestPane_70
      rw [if_neg (by rw [n_le (by omega) (by omega)]; omega), bnd_d, bndT_l _ _ e2]
      show bnd (nI i + 1) _ = _
      rw [bnd_d, i_1, n_a]
      rfl
    · rintro ⟨b, x, M1⟩ ⟨rfl, rfl, k1⟩
      refine ⟨_, ⟨M1, rfl, k1⟩, fun n => ?_⟩
      show lp_X10_digestPane_70 F (nI p) (nI (sPane P p).length) (n + 1) _ (nI _) M1 = _
      rw [el_X10_digestPane_70]
      unfold st_X10_digestPane_70
      rw [if_pos (by rw [n_le (by omega) (by omega)]; exact Nat.le_refl _)] <;> rfl
  obtain ⟨q, e, M', rfl, h⟩ := L
  exact ⟨M', e, h⟩
theorem cd_pane {P : PM} {M : GM} {F p : Nat} (hF : 3000 ≤ F) (hO : OK P) (hC : CS P M) (hp : p < sN P) (d : Int64) : ∃ M', f_X10_digestPane F d (nI p) M = some (.inr (dgS P p (dgP1 P p d) (sPane P p).length, M')) ∧ cQ P M M' := by
  obtain ⟨M1, e1, q1⟩ := cq_polygonOf (F := F) hF hO hC hp
  obtain ⟨M2, e2, q2⟩ := cq_piecesOf (F := F) hF hO q1.1 hp
  obtain ⟨M3, e3, q3⟩ := cq_pointsOf (F := F) hF hO q2.1 hp
  have e4 := cq_pointsWith (F := F) hF hO q3.1.1 hp
  obtain ⟨M5, e5, q5⟩ := cd_spots (F := F) hF hO q3.1 hp (dgP1 P p d)
  refine ⟨M5, ?_, q1.tr (q2.tr (q3.tr q5))⟩
  unfold f_X10_digestPane
  rw [bnd_d, bndT_r _ _ e1]
  show bnd (nI (sPane P p).length) _ = _
  rw [bnd_d, bnd_d, bndT_r _ _ e2]
  show bnd _ _ = _
  rw [bnd_d, bndT_r _ _ e3]
  show bnd _ _ = _
  rw [bnd_d, bndT_r _ _ e4, bnd_d, bnd_d]
  exact bndT_l _ _ e5
theorem cd_panes {P : PM} {M : GM} {F : Nat} (hF : 3000 ≤ F) (hO : OK P) (hC : CS P M) (d : Int64) : ∃ M', lp_X10_digest_101 F F d 0 M = some (.inl (dgPn P d (sN P), M')) ∧ cQ P M M' := by
  obtain ⟨n1, n2, -, -⟩ := sN_of hO
  have L : ∃ q, lp_X10_digest_101 F F d 0 M = some q ∧ ∃ M', q = .inl (dgPn P d (sN P), M') ∧ cQ P M M' := by
    refine run_up (fun n (s : Int64 × Int32 × GM) => lp_X10_digest_101 F n s.1 s.2.1 s.2.2) (fun i s => s.2.1 = nI i ∧ s.1 = dgPn P d i ∧ cQ P M s.2.2) _ 0 (sN P) F (by omega) (by omega) (s := (d, 0, M)) ⟨rfl, rfl, cQ.rf hC⟩ ?_ ?_
    · rintro i ⟨b, x, M1⟩ - hi ⟨rfl, rfl, k1⟩
      obtain ⟨M2, e2, q⟩ := cd_pane (F := F) hF hO k1.1 hi (dgPn P d i)
      refine ⟨(dgPn P d (i + 1), nI (i + 1), M2), ⟨rfl, rfl, k1.tr q⟩, fun n => ?_⟩
      show lp_X10_digest_101 F (n + 1) (dgPn P d i) (nI i) M1 = _
      rw [el_X10_digest_101]
      unfold st_X10_digest_101
      rw [show gI M1 0 13 = nI (sN P) from k1.1.1.1.2.1.trans n1, if_neg (by rw [n_le (by omega) (by omega)]; omega), bndT_r _ _ e2]
      show bnd _ _ = _
      rw [bnd_d, bnd_d, i_1, n_a]
      rfl
    · rintro ⟨b, x, M1⟩ ⟨rfl, rfl, k1⟩
      refine ⟨_, ⟨M1, rfl, k1⟩, fun n => ?_⟩
      show lp_X10_digest_101 F (n + 1) _ (nI _) M1 = _
      rw [el_X10_digest_101]
      unfold st_X10_digest_101
      rw [show gI M1 0 13 = nI (sN P) from k1.1.1.1.2.1.trans n1, if_pos (by rw [n_le (by omega) (by omega)]; exact Nat.le_refl _)] <;> rfl
  obtain ⟨q, e, M', rfl, h⟩ := L
  exact ⟨M', e, h⟩
theorem nR_in {n : Nat} {u : Int} (h : (n : Int) ≤ u) (h2 : n < 2147483648) : inR (nI n) 0 u := by unfold inR; rw [n_int h2]; omega
theorem cd_points {P : PM} {M : GM} {F : Nat} (hF : 3000 ≤ F) (hC : CV P M) (d : Int64) : lp_X10_digest_136 F F d 0 M = some (.inl (dgX P d 960, M)) := by
  have row : ∀ y, y < 24 → lp_X10_digest_145 F (nI y) F (dgX P d (y * 40)) 0 M = some (.inl (dgX P d ((y + 1) * 40), M)) := fun y hy => by
    have L : ∃ q, lp_X10_digest_145 F (nI y) F (dgX P d (y * 40)) 0 M = some q ∧ q = .inl (dgX P d (y * 40 + 40), M) := by
      refine run_up (fun n (s : Int64 × Int32 × GM) => lp_X10_digest_145 F (nI y) n s.1 s.2.1 s.2.2) (fun i s => s.2.1 = nI i ∧ s.1 = dgX P d (y * 40 + i) ∧ s.2.2 = M) _ 0 40 F (by omega) (by omega) (s := (dgX P d (y * 40), 0, M)) ⟨rfl, rfl, rfl⟩ ?_ ?_
      · rintro i ⟨a, x, M1⟩ - hi ⟨rfl, rfl, hm⟩
        have hm : M1 = M := hm
        subst hm
        have pt : ptR (nI i) (nI y) := ⟨nR_in (by omega) (by omega), nR_in (by omega) (by omega)⟩
        obtain ⟨c1, c2, c3⟩ := hC.2.2.2.2.2 (y * 40 + i) (by omega)
        have a1 : f_X10_colourAt F (nI i) (nI y) M1 = some (.inr (P 138 (y * 40 + i))) := by
          unfold f_X10_colourAt
          rw [c_reqPoint, if_pos pt, bndTr, pt_ix, gn_28, grd_t (n_in (by omega) (by omega)), n_cl (by omega), c1]
        have a2 : f_X10_depthAt F (nI i) (nI y) M1 = some (.inr (P 139 (y * 40 + i))) := by
          unfold f_X10_depthAt
          rw [c_reqPoint, if_pos pt, bndTr, pt_ix, gn_29, grd_t (n_in (by omega) (by omega)), n_cl (by omega), c2]
        have a3 : f_X10_paneAt F (nI i) (nI y) M1 = some (.inr (P 140 (y * 40 + i))) := by
          unfold f_X10_paneAt
          rw [c_reqPoint, if_pos pt, bndTr, pt_ix, gn_30, grd_t (n_in (by omega) (by omega)), n_cl (by omega), c3]
        refine ⟨(dgX P d (y * 40 + (i + 1)), nI (i + 1), M1), ⟨rfl, rfl, rfl⟩, fun n => ?_⟩
        show lp_X10_digest_145 F (nI y) (n + 1) (dgX P d (y * 40 + i)) (nI i) M1 = _
        rw [el_X10_digest_145]
        unfold st_X10_digest_145
        rw [if_neg (by rw [i_40, n_le (by omega) (by omega)]; omega), bndT_r _ _ a1, bnd_d, bndT_r _ _ a2, bnd_d, bndT_r _ _ a3, bnd_d, bnd_d, i_1, n_a]
        rfl
      · rintro ⟨a, x, M1⟩ ⟨rfl, rfl, hm⟩
        have hm : M1 = M := hm
        subst hm
        refine ⟨_, rfl, fun n => ?_⟩
        show lp_X10_digest_145 F (nI y) (n + 1) _ (nI 40) M1 = _
        rw [el_X10_digest_145]
        unfold st_X10_digest_145
        rw [if_pos (by decide)] <;> rfl
    obtain ⟨q, e, rfl⟩ := L
    rw [e, Nat.add_mul, Nat.one_mul]
  have L : ∃ q, lp_X10_digest_136 F F d 0 M = some q ∧ q = .inl (dgX P d 960, M) := by
    refine run_up (fun n (s : Int64 × Int32 × GM) => lp_X10_digest_136 F n s.1 s.2.1 s.2.2) (fun i s => s.2.1 = nI i ∧ s.1 = dgX P d (i * 40) ∧ s.2.2 = M) _ 0 24 F (by omega) (by omega) (s := (d, 0, M)) ⟨rfl, rfl, rfl⟩ ?_ ?_
    · rintro i ⟨a, x, M1⟩ - hi ⟨rfl, rfl, hm⟩
      have hm : M1 = M := hm
      subst hm
      refine ⟨(dgX P d ((i + 1) * 40), nI (i + 1), M1), ⟨rfl, rfl, rfl⟩, fun n => ?_⟩
      show lp_X10_digest_136 F (n + 1) (dgX P d (i * 40)) (nI i) M1 = _
      rw [el_X10_digest_136]
      unfold st_X10_digest_136
      rw [if_neg (by rw [i_24, n_le (by omega) (by omega)]; omega), bnd_d, bndT_l _ _ (row i hi)]
      show bnd (nI i + 1) _ = _
      rw [bnd_d, i_1, n_a]
    · rintro ⟨a, x, M1⟩ ⟨rfl, rfl, hm⟩
      have hm : M1 = M := hm
      subst hm
      refine ⟨_, rfl, fun n => ?_⟩
      show lp_X10_digest_136 F (n + 1) _ (nI 24) M1 = _
      rw [el_X10_digest_136]
      unfold st_X10_digest_136
      rw [if_pos (by decide)]
  obtain ⟨q, e, rfl⟩ := L
  exact e
theorem cd_digest {P : PM} {M : GM} {F : Nat} (hF : 3000 ≤ F) (hO : OK P) (hC : CS P M) : ∃ M', f_X10_digest F M = some (.inr (dgAll P, M')) ∧ cQ P M M' := by
  obtain ⟨M1, M2, e1, e2, -, f2, -⟩ := c_look0 (F := F) hF hO hC
  have q2 := cQ.of hC f2
  have e3 := cd_corners (F := F) hF hO q2.1.1 (dgTop P)
  obtain ⟨M4, e4, q4⟩ := cd_panes (F := F) hF hO q2.1 (dgC P (dgTop P) (sC1 P))
  obtain ⟨M5, e5, q5⟩ := cq_colours (F := F) hF hO q4.1
  have e6 := cd_points (F := F) hF q5.1.1 (dgPn P (dgC P (dgTop P) (sC1 P)) (sN P) * 31 + (nI (sDist P)).toInt64)
  refine ⟨M5, ?_, q2.tr (q4.tr q5)⟩
  unfold f_X10_digest
  rw [show f_X10_corners M = P 122 1 from hC.1.1.1, show f_X10_panes M = P 122 2 from hC.1.1.2.1, bnd_d, bnd_d, bnd_d, bndO_s _ e1, bndO_s _ e2]
  show bnd (dgTop P) _ = _
  rw [bnd_d, bnd_d, bndT_l _ _ e3]
  show bnd 0 _ = _
  rw [bnd_d, bndT_l _ _ e4]
  show bndO (f_X10_colours F M4) _ = _
  rw [bndO_s _ e5]
  show bnd _ _ = _
  rw [bnd_d, bnd_d]
  exact bndT_l _ _ e6
