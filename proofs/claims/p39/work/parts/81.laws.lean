/-! PURE PART: the law's loops -/
theorem md40 {k : Nat} (h : k < 2147483648) : nI k - nI k / (40 : Int32) * (40 : Int32) = nI (k % 40) := n_md (m := 40) h (by omega) (by omega)
theorem dv40 {k : Nat} (h : k < 2147483648) : nI k / (40 : Int32) = nI (k / 40) := n_dv (m := 40) h (by omega) (by omega)
theorem n_down (d : Nat) : nI (d + 1) + (-1) = nI d := by
  rw [← n_a d 1, Int32.add_assoc, show nI 1 + (-1 : Int32) = 0 by decide, Int32.add_zero]
theorem n_ge0 {k : Nat} (h : k < 2147483648) : ¬ nI k < 0 := by rw [a_lt (n_int h) tv_0]; omega
theorem cmp_same (a : Int64) : lg_cmp a a = 0 := by
  exact (lg_cmp_eq a a).mpr rfl
section LAW
variable {P Q : PM} {M : GM} {F L9 t : Nat} {xs9 : Nat → Int32}
theorem SV.fr (h : SV P M) {M' : GM} (f : fr M M') : SV P M' := h.to fun a b hs => f a b hs.1
theorem ST.fr (h : ST P M t) {M' : GM} (hI : cI P M') (f : fr M M') : ST P M' t := ⟨hI, h.2.1.to fun a b hs => f a b hs.1, (f 122 2 (by omega)).trans h.2.2⟩
theorem p_chs {a12 a13 : Int32} (hF : 3000 ≤ F) (hL : L9 ≤ 260) : ∀ (d n : Nat) {P : PM} {M : GM} {t : Nat}, ST P M t → 1 ≤ sC1 P → 1 ≤ sN P → d < 10 → t + 1000 + 10 * d < 1000000 → ∃ P' M' t', lp_L_law_69 F L9 xs9 a12 a13 (n + d + 2) (nI d) M = some M' ∧ ST P' M' t' ∧ t' ≤ t + 10 * (d + 1) ∧ cnt P P' := by
  intro d
  induction d with
  | zero =>
    intro n P M t hS h1 h2 _ ht
    obtain ⟨P', M', t', e, h, q, c⟩ := p_change (F := F) (xs9 := xs9) hF hL hS h1 h2 (by omega)
    refine ⟨P', M', t', ?_, h, by omega, c⟩
    show lp_L_law_69 F L9 xs9 a12 a13 (n + 1 + 1) (nI 0) M = _
    rw [el_L_law_69]
    unfold st_L_law_69
    rw [if_neg (n_ge0 (by omega)), bndO_s _ e]
    dsimp only
    rw [if_neg (by decide), bnd_d, show nI 0 + (-1 : Int32) = -1 by decide, el_L_law_69]
    unfold st_L_law_69
    rw [if_pos (by decide)]
  | succ d ih =>
    intro n P M t hS h1 h2 h3 ht
    obtain ⟨P', M', t', e, h, q, c⟩ := p_change (F := F) (xs9 := xs9) hF hL hS h1 h2 (by omega)
    obtain ⟨P2, M2, t2, e2, h2', q2, c2⟩ := ih n h (by rw [c.1]; exact h1) (by rw [c.2]; exact h2) (by omega) (by omega)
    refine ⟨P2, M2, t2, ?_, h2', by omega, c.tr c2⟩
    show lp_L_law_69 F L9 xs9 a12 a13 (n + d + 2 + 1) (nI (d + 1)) M = _
    rw [el_L_law_69]
    unfold st_L_law_69
    rw [if_neg (n_ge0 (by omega)), bndO_s _ e]
    dsimp only
    rw [if_neg (by decide), bnd_d, n_down, e2]
theorem p_tail {a79 a80 a82 : Int32} {b81 : Int64} {p x c b : Nat} (hF : 3000 ≤ F) (hL : L9 ≤ 260) (hS : ST Q M t) (hp : p < sN Q) (hx : x < 960) (hb : (b = 0 ∧ sFst Q p (x % 40) (x / 40) = none) ∨ (b = 1 ∧ sFst Q p (x % 40) (x / 40) ≠ none)) (t2 : t + 20 < 1000000) :
    ∃ d M', d < 7 ∧ ST Q M' (t + 1) ∧ ∀ kont, bk_L_law_271_233 F L9 xs9 kont a79 a80 b81 a82 (nI p) (nI x) (nI b) (nI b) (nI c) M = kont (nI (c + b)) (nI (x + (1 + d))) M' := by
  obtain ⟨hI, hV, ht⟩ := id hS
  have x4 : x % 40 < 40 := by omega
  have y4 : x / 40 < 24 := by omega
  obtain ⟨w1, M1, e1, q1, i1, g1⟩ := co_depthOf (F := F) hF hI hp x4 y4
  obtain ⟨w2, M2, e2, q2, i2, g2⟩ := co_colourOf (F := F) hF i1 hp x4 y4
  have g := g1.tr g2
  have hS2 := hS.fr i2 g
  obtain ⟨v, M3, d3, r3, c3, f3⟩ := p_draw (F := F) (xs9 := xs9) (n := 7) hL hS2.2.2 (by omega) (by decide)
  obtain ⟨d, rfl, hd⟩ := d_nat r3
  have km3 : Km M2 M3 := (Km.rf M2).d f3
  have i7 : (7 : Int32).toInt = 7 := rfl
  refine ⟨d, M3, by omega, ⟨km3.cI i2, km3.SV hS2.2.1, c3⟩, fun kont => ?_⟩
  have fin : bk_L_law_356_233 F L9 xs9 kont a79 a80 b81 a82 (nI p) (nI (c + b)) (nI x) M2 = kont (nI (c + b)) (nI (x + (1 + d))) M3 := by
    unfold bk_L_law_356_233
    rw [bndO_s _ d3]
    dsimp only
    rw [i_1, n_a, n_a, bnd_d]
  unfold bk_L_law_271_233
  rw [n_a, bnd_d, md40 (show x < 2147483648 by omega), dv40 (show x < 2147483648 by omega), bndT_r _ _ e1]
  dsimp only
  rw [bnd_d, bndT_r _ _ e2]
  dsimp only
  rw [bnd_d]
  rcases hb with ⟨rfl, h⟩ | ⟨rfl, h⟩
  · rcases sDepO_rg (p := p) (x := x % 40) (y := x / 40) hI.1.1 with ⟨-, a, b⟩ | ⟨n, -⟩
    · have w1e : w1 = -1 := a_ext (q1.trans (a.trans tv_m1.symm))
      have w2e : w2 = -1 := a_ext (q2.trans (b.trans tv_m1.symm))
      rw [if_pos (show nI 0 = (0 : Int32) from rfl), if_pos w1e, if_pos w2e]
      exact fin
    · exact absurd h n
  · rcases sDepO_rg (p := p) (x := x % 40) (y := x / 40) hI.1.1 with ⟨n, -⟩ | ⟨-, a, b⟩
    · exact absurd n h
    · have i65 : (65534 : Int32).toInt = 65534 := rfl
      have i16 : (16777215 : Int32).toInt = 16777215 := rfl
      rw [if_neg (show ¬ nI 1 = (0 : Int32) by decide), if_neg (by rw [a_lt q1 tv_0]; omega), if_neg (by rw [a_lt i65 q1]; omega), if_neg (by rw [a_lt q2 tv_0]; omega), if_pos (by rw [a_le q2 i16]; omega)]
      exact fin
theorem cntB_mono {f : Nat → Bool} {a b : Nat} (h : a ≤ b) : cntB f a ≤ cntB f b := by
  induction b with
  | zero => rw [Nat.le_zero.mp h]; exact Nat.le_refl _
  | succ b ih =>
    by_cases q : a = b + 1
    · rw [q]; exact Nat.le_refl _
    · have := ih (by omega)
      show _ ≤ cntB f b + (if f b = true then 1 else 0)
      omega
theorem p_samp {a79 a80 a82 : Int32} {b81 : Int64} {p : Nat} (hF : 3000 ≤ F) (hL : L9 ≤ 260) (hS : ST Q M t) (hp : p < sN Q) (t2 : t + 2000 < 1000000) :
    ∃ r : Int32 × GM, lp_L_law_233 F L9 xs9 a79 a80 b81 a82 (nI p) F 0 0 M = some r ∧ ∃ c t', r.1 = nI c ∧ c ≤ sPoints Q p ∧ ST Q r.2 t' ∧ t' ≤ t + 1000 := by
  refine run_loop (fun n (s : Int32 × Int32 × GM) => lp_L_law_233 F L9 xs9 a79 a80 b81 a82 (nI p) n s.1 s.2.1 s.2.2) (fun i s => ∃ c x t', s.1 = nI c ∧ s.2.1 = nI x ∧ i ≤ x ∧ x ≤ 1000 ∧ c ≤ cntB (sLies Q p) (min x 960) ∧ ST Q s.2.2 t' ∧ t' ≤ t + i) _ 960 ?_ ?_ 960 0 (0, 0, M) F (by omega) ⟨0, 0, t, rfl, rfl, by omega, by omega, by omega, hS, by omega⟩ (by omega)
  · rintro i ⟨a, b, M1⟩ hi ⟨c, x, t', rfl, rfl, h1, h2, h3, hS1, h4⟩
    by_cases hx : x < 960
    · refine Or.inl ?_
      obtain ⟨hI, hV, ht⟩ := id hS1
      obtain ⟨M2, e2, i2, g2⟩ := co_liesIn (F := F) hF hI hp (show x % 40 < 40 by omega) (show x / 40 < 24 by omega)
      have hS2 := hS1.fr i2 g2
      rw [show min x 960 = x by omega] at h3
      have es : cntB (sLies Q p) (x + 1) = cntB (sLies Q p) x + if sLies Q p x = true then 1 else 0 := rfl
      by_cases hn : sFst Q p (x % 40) (x / 40) = none
      · obtain ⟨d, M3, hd, hS3, e3⟩ := p_tail (F := F) (xs9 := xs9) (a79 := a79) (a80 := a80) (a82 := a82) (b81 := b81) (c := c) (b := 0) hF hL hS2 hp hx (Or.inl ⟨rfl, hn⟩) (by omega)
        refine ⟨(nI (c + 0), nI (x + (1 + d)), M3), ⟨c + 0, x + (1 + d), t' + 1, rfl, rfl, by omega, by omega, ?_, hS3, by omega⟩, fun n => ?_⟩
        · have := cntB_mono (f := sLies Q p) (show x ≤ min (x + (1 + d)) 960 by omega)
          omega
        · show lp_L_law_233 F L9 xs9 a79 a80 b81 a82 (nI p) (n + 1) (nI c) (nI x) M1 = lp_L_law_233 F L9 xs9 a79 a80 b81 a82 (nI p) n (nI (c + 0)) (nI (x + (1 + d))) M3
          rw [el_L_law_233]
          unfold st_L_law_233
          rw [if_neg (by rw [i_960, n_le (by omega) (by omega)]; omega), md40 (show x < 2147483648 by omega), dv40 (show x < 2147483648 by omega), bndT_r _ _ e2]
          dsimp only
          rw [bnd_d, if_pos hn, if_pos rfl]
          exact e3 _
      · obtain ⟨d, M3, hd, hS3, e3⟩ := p_tail (F := F) (xs9 := xs9) (a79 := a79) (a80 := a80) (a82 := a82) (b81 := b81) (c := c) (b := 1) hF hL hS2 hp hx (Or.inr ⟨rfl, hn⟩) (by omega)
        refine ⟨(nI (c + 1), nI (x + (1 + d)), M3), ⟨c + 1, x + (1 + d), t' + 1, rfl, rfl, by omega, by omega, ?_, hS3, by omega⟩, fun n => ?_⟩
        · have hl : sLies Q p x = true := by
            rw [← Bool.not_eq_false]
            exact fun q => hn (sLies_n.mp q)
          rw [if_pos hl] at es
          have := cntB_mono (f := sLies Q p) (show x + 1 ≤ min (x + (1 + d)) 960 by omega)
          omega
        · show lp_L_law_233 F L9 xs9 a79 a80 b81 a82 (nI p) (n + 1) (nI c) (nI x) M1 = lp_L_law_233 F L9 xs9 a79 a80 b81 a82 (nI p) n (nI (c + 1)) (nI (x + (1 + d))) M3
          rw [el_L_law_233]
          unfold st_L_law_233
          rw [if_neg (by rw [i_960, n_le (by omega) (by omega)]; omega), md40 (show x < 2147483648 by omega), dv40 (show x < 2147483648 by omega), bndT_r _ _ e2]
          dsimp only
          rw [bnd_d, if_neg hn, if_neg (by decide)]
          exact e3 _
    · refine Or.inr ⟨(nI c, M1), ⟨c, t', rfl, ?_, hS1, by omega⟩, fun n => ?_⟩
      · rw [show min x 960 = 960 by omega] at h3; exact h3
      · show lp_L_law_233 F L9 xs9 a79 a80 b81 a82 (nI p) (n + 1) (nI c) (nI x) M1 = _
        rw [el_L_law_233]
        unfold st_L_law_233
        rw [if_pos (by rw [i_960, n_le (by omega) (by omega)]; omega)]
  · rintro ⟨a, b, M1⟩ ⟨c, x, t', rfl, rfl, h1, h2, h3, hS1, h4⟩
    refine ⟨(nI c, M1), ⟨c, t', rfl, ?_, hS1, by omega⟩, fun n => ?_⟩
    · rw [show min x 960 = 960 by omega] at h3; exact h3
    · show lp_L_law_233 F L9 xs9 a79 a80 b81 a82 (nI p) (n + 1) (nI c) (nI x) M1 = _
      rw [el_L_law_233]
      unfold st_L_law_233
      rw [if_pos (by rw [i_960, n_le (by omega) (by omega)]; omega)]
theorem p_227 {a47 a48 : Int32} {b49 : Int64} {s i : Nat} (hF : 3000 ≤ F) (hL : L9 ≤ 260) (hS : ST Q M t) (hp : i < sN Q) (t2 : t + 2000 < 1000000) :
    ∃ M' t', ST Q M' t' ∧ t' ≤ t + 1000 ∧ ∀ kont, bk_L_law_227_126 F L9 xs9 kont a47 a48 b49 (nI s) (nI i) M = kont (nI (s + sWith Q i)) (nI (i + 1)) M' := by
  obtain ⟨r, e1, c, t', hc, c2, hS1, h4⟩ := p_samp (F := F) (xs9 := xs9) (a79 := a47) (a80 := a48) (b81 := b49) (a82 := nI s) hF hL hS hp t2
  obtain ⟨rc, M1⟩ := r
  have hc : rc = nI c := hc
  subst hc
  have hS1 : ST Q M1 t' := hS1
  obtain ⟨M2, e2, q2⟩ := cq_pointsOf (F := F) hF hS1.1.1.1 hS1.1.2 hp
  have j2 := hS1.1.q q2
  have hS2 := hS1.fr j2.1 j2.2
  obtain ⟨M3, e3, q3⟩ := cq_pointsOf (F := F) hF hS2.1.1.1 hS2.1.2 hp
  have j3 := hS2.1.q q3
  have hS3 := hS2.fr j3.1 j3.2
  have e4 := cq_pointsWith (F := F) hF hS3.1.1.1 hS3.1.2.1 hp
  have l1 : sPoints Q i ≤ 960 := cntB_le _ _
  refine ⟨M3, t', hS3, h4, fun kont => ?_⟩
  unfold bk_L_law_227_126
  rw [bnd_d, bnd_d, bndO_s _ e1]
  dsimp only
  rw [bndT_r _ _ e2]
  dsimp only
  rw [if_neg (by rw [n_lt (by omega) (by omega)]; omega), bndT_r _ _ e3]
  dsimp only
  rw [if_pos (by rw [i_960, n_le (by omega) (by omega)]; omega), bndT_r _ _ e4, n_a, bnd_d, i_1, n_a, bnd_d]
theorem p_195 {a47 a48 : Int32} {b49 : Int64} {s i : Nat} (hF : 3000 ≤ F) (hL : L9 ≤ 260) (hS : ST Q M t) (hd : pd Q) (hp : i < sN Q) (t2 : t + 2000 < 1000000) :
    ∃ M' t', ST Q M' t' ∧ t' ≤ t + 1000 ∧ ∀ kont, bk_L_law_195_126 F L9 xs9 kont a47 a48 b49 (nI s) (nI i) M = kont (nI (s + sWith Q i)) (nI (i + 1)) M' := by
  obtain ⟨M', t', h1, h2, h3⟩ := p_227 (F := F) (xs9 := xs9) (a47 := a47) (a48 := a48) (b49 := b49) (s := s) hF hL hS hp t2
  obtain ⟨-, -, -, n30⟩ := hS.c
  have p30 : i < 30 := by omega
  have x2 : gI M (203 + i) 2 = Q 134 i := hS.2.1 _ _ _ _ (sm_is (by omega) (by omega) p30 rfl)
  refine ⟨M', t', h1, h2, fun kont => ?_⟩
  unfold bk_L_law_195_126
  rw [gg_125, grd_t (n_in p30 (by omega)), bnd_d, n_cl (show i < 2147483648 by omega), rr_125, gN_iss p30, grd_t (by decide), x2]
  by_cases z : Q 134 i = 0
  · rw [if_pos z, bndT_r _ _ (co_seenOf (F := F) hS.1 hp z)]
    dsimp only
    rw [if_pos rfl, bndT_r _ _ (cq_pointsWith (F := F) hF hS.1.1.1 hS.1.2.1 hp), if_pos (by rw [sWith_0 hS.1.1.1 hd hp z]; rfl)]
    exact h3 _
  · rw [if_neg z]
    exact h3 _
theorem p_168 {a47 a48 : Int32} {b49 : Int64} {s i : Nat} (hF : 3000 ≤ F) (hL : L9 ≤ 260) (hS : ST Q M t) (hd : pd Q) (hp : i < sN Q) (t2 : t + 2000 < 1000000) :
    ∃ M' t', ST Q M' t' ∧ t' ≤ t + 1000 ∧ ∀ kont, bk_L_law_168_126 F L9 xs9 kont a47 a48 b49 (nI s) (nI i) (nI (sPane Q i).length) (nI (sPieces Q i)) M = kont (nI (s + sWith Q i)) (nI (i + 1)) M' := by
  have gm : g_max (0 : Int32) (nI (sPane Q i).length - (2 : Int32)) = nI ((sPane Q i).length - 2) := by
    rcases sPane_l3 Q i with e | e | e <;> rw [e] <;> decide
  have le := sPieces_le Q i
  have l4 := sPane_len Q i
  by_cases z : sPieces Q i = 0
  · obtain ⟨M2, e2, q2⟩ := cq_pointsOf (F := F) hF hS.1.1.1 hS.1.2 hp
    have j2 := hS.1.q q2
    obtain ⟨M', t', h1, h2, h3⟩ := p_195 (F := F) (xs9 := xs9) (a47 := a47) (a48 := a48) (b49 := b49) (s := s) hF hL (hS.fr j2.1 j2.2) hd hp t2
    refine ⟨M', t', h1, h2, fun kont => ?_⟩
    unfold bk_L_law_168_126
    rw [gm, if_neg (by rw [n_lt (by omega) (by omega)]; omega), if_pos (by rw [z]; rfl), bndT_r _ _ e2]
    dsimp only
    rw [if_pos (by rw [sPieces_0 z]; rfl)]
    exact h3 _
  · obtain ⟨M', t', h1, h2, h3⟩ := p_195 (F := F) (xs9 := xs9) (a47 := a47) (a48 := a48) (b49 := b49) (s := s) hF hL hS hd hp t2
    refine ⟨M', t', h1, h2, fun kont => ?_⟩
    unfold bk_L_law_168_126
    rw [gm, if_neg (by rw [n_lt (by omega) (by omega)]; omega), if_neg (by rw [i_0, n_eq (by omega) (by omega)]; exact z)]
    exact h3 _
theorem sAll_s (Q : PM) (i : Nat) : sAll Q (i + 1) = sAll Q i + sWith Q i := by
  unfold sAll sWith
  rfl
theorem p_panes {a47 a48 : Int32} {b49 : Int64} (hF : 3000 ≤ F) (hL : L9 ≤ 260) (hS : ST Q M t) (hd : pd Q) (t2 : t + 50000 < 1000000) :
    ∃ r : Int32 × GM, lp_L_law_126 F L9 xs9 a47 a48 b49 F 0 0 M = some r ∧ ∃ t', r.1 = nI (sAll Q (sN Q)) ∧ ST Q r.2 t' ∧ t' ≤ t + 1000 * sN Q := by
  obtain ⟨-, -, -, n30⟩ := hS.c
  refine run_up (fun n (s : Int32 × Int32 × GM) => lp_L_law_126 F L9 xs9 a47 a48 b49 n s.1 s.2.1 s.2.2) (fun i s => ∃ t', s.1 = nI (sAll Q i) ∧ s.2.1 = nI i ∧ ST Q s.2.2 t' ∧ t' ≤ t + 1000 * i) _ 0 (sN Q) F (by omega) (by omega) (s := (0, 0, M)) ⟨t, rfl, rfl, hS, by omega⟩ ?_ ?_
  · rintro i ⟨a, b, M1⟩ - hi ⟨t', rfl, rfl, hS1, h4⟩
    have hS1 : ST Q M1 t' := hS1
    obtain ⟨-, c4, -, -⟩ := hS1.c
    obtain ⟨M2, e2, q2⟩ := cq_polygonOf (F := F) hF hS1.1.1.1 hS1.1.2 hi
    have j2 := hS1.1.q q2
    have hS2 := hS1.fr j2.1 j2.2
    obtain ⟨M3, e3, q3⟩ := cq_piecesOf (F := F) hF hS2.1.1.1 hS2.1.2 hi
    have j3 := hS2.1.q q3
    have hS3 := hS2.fr j3.1 j3.2
    obtain ⟨M', t9, h1, h2, h3⟩ := p_168 (F := F) (xs9 := xs9) (a47 := a47) (a48 := a48) (b49 := b49) (s := sAll Q i) hF hL hS3 hd hi (by omega)
    have h4 : t' ≤ t + 1000 * i := h4
    have h9 : t9 ≤ t + 1000 * (i + 1) := Nat.le_trans h2 (by rw [Nat.mul_succ, ← Nat.add_assoc]; exact Nat.add_le_add_right h4 1000)
    refine ⟨(nI (sAll Q i + sWith Q i), nI (i + 1), M'), ⟨t9, congrArg nI (sAll_s Q i).symm, rfl, h1, h9⟩, fun n => ?_⟩
    show lp_L_law_126 F L9 xs9 a47 a48 b49 (n + 1) (nI (sAll Q i)) (nI i) M1 = lp_L_law_126 F L9 xs9 a47 a48 b49 n (nI (sAll Q i + sWith Q i)) (nI (i + 1)) M'
    have h3 := h3 (lp_L_law_126 F L9 xs9 a47 a48 b49 n)
    rw [el_L_law_126]
    unfold st_L_law_126
    rw [c4, if_neg (by rw [n_le (by omega) (by omega)]; omega), bndT_r _ _ e2]
    dsimp only
    rw [bnd_d, bndT_r _ _ e3]
    dsimp only
    rw [bnd_d]
    rcases sPane_l3 Q i with e | e | e
    · rw [if_pos (by rw [e]; rfl)]
      exact h3
    · rw [if_neg (by rw [e]; decide), if_pos (by rw [e]; rfl)]
      exact h3
    · rw [if_neg (by rw [e]; decide), if_neg (by rw [e]; decide), if_pos (by rw [e]; rfl)]
      exact h3
  · rintro ⟨a, b, M1⟩ ⟨t', rfl, rfl, hS1, h4⟩
    have hS1 : ST Q M1 t' := hS1
    obtain ⟨-, c4, -, -⟩ := hS1.c
    refine ⟨(nI (sAll Q (sN Q)), M1), ⟨t', rfl, hS1, h4⟩, fun n => ?_⟩
    show lp_L_law_126 F L9 xs9 a47 a48 b49 (n + 1) _ (nI (sN Q)) M1 = _
    rw [el_L_law_126]
    unfold st_L_law_126
    rw [c4, if_pos (by rw [n_le (by omega) (by omega)]; omega)]
theorem p_none {a144 a145 a147 : Int32} {b146 : Int64} (hF : 3000 ≤ F) (hS : ST Q M t) (hd : pd Q) :
    ∃ r : Int32 × GM, lp_L_law_420 F L9 xs9 a144 a145 b146 a147 F 0 0 M = some r ∧ r.1 = nI (sNone Q) ∧ ST Q r.2 t := by
  obtain ⟨-, -, -, n30⟩ := hS.c
  refine run_up (fun n (s : Int32 × Int32 × GM) => lp_L_law_420 F L9 xs9 a144 a145 b146 a147 n s.1 s.2.1 s.2.2) (fun k s => s.1 = nI (cntB (fun k => decide (Q 140 k = -1)) k) ∧ s.2.1 = nI k ∧ ST Q s.2.2 t) _ 0 960 F (by omega) (by omega) (s := (0, 0, M)) ⟨rfl, rfl, hS⟩ ?_ ?_
  · rintro k ⟨a, b, M1⟩ - hk ⟨rfl, rfl, hS1⟩
    have hS1 : ST Q M1 t := hS1
    have x4 : k % 40 < 40 := by omega
    have y4 : k / 40 < 24 := by omega
    have e1 := co_paneAt (F := F) hS1.1 x4 y4
    rw [show k / 40 * 40 + k % 40 = k by omega] at e1
    rcases pd_q hd hk with ⟨ed, ep⟩ | ⟨i, hi, ep, hs, hg, hl⟩
    · have e2 := co_depthAt (F := F) hS1.1 x4 y4
      rw [show k / 40 * 40 + k % 40 = k by omega, ed] at e2
      refine ⟨(nI (cntB (fun k => decide (Q 140 k = -1)) (k + 1)), nI (k + 1), M1), ⟨rfl, rfl, hS1⟩, fun n => ?_⟩
      show lp_L_law_420 F L9 xs9 a144 a145 b146 a147 (n + 1) (nI (cntB (fun k => decide (Q 140 k = -1)) k)) (nI k) M1 = lp_L_law_420 F L9 xs9 a144 a145 b146 a147 n (nI (cntB (fun k => decide (Q 140 k = -1)) k + if decide (Q 140 k = -1) = true then 1 else 0)) (nI (k + 1)) M1
      rw [if_pos (show decide (Q 140 k = -1) = true from decide_eq_true ep), el_L_law_420]
      unfold st_L_law_420
      rw [if_neg (by rw [i_960, n_le (by omega) (by omega)]; omega), md40 (show k < 2147483648 by omega), dv40 (show k < 2147483648 by omega), bndT_r _ _ e1, bnd_d, ep, if_neg (by decide)]
      unfold bk_L_law_456_420
      rw [bnd_d, if_neg (by decide), md40 (show k < 2147483648 by omega), dv40 (show k < 2147483648 by omega), bndT_r _ _ e2, if_pos rfl, bnd_d, i_1, n_a, n_a]
    · have p30 : i < 30 := by omega
      have x2 : gI M1 (203 + i) 2 = Q 134 i := hS1.2.1 _ _ _ _ (sm_is (by omega) (by omega) p30 rfl)
      have x0 : gI M1 (203 + i) 0 = Q 132 i := hS1.2.1 _ _ _ _ (sm_is (by omega) (by omega) p30 rfl)
      obtain ⟨M2, e2, i2, g2⟩ := co_liesIn (F := F) hF hS1.1 hi x4 y4
      rw [if_neg hl] at e2
      refine ⟨(nI (cntB (fun k => decide (Q 140 k = -1)) (k + 1)), nI (k + 1), M2), ⟨rfl, rfl, hS1.fr i2 g2⟩, fun n => ?_⟩
      show lp_L_law_420 F L9 xs9 a144 a145 b146 a147 (n + 1) (nI (cntB (fun k => decide (Q 140 k = -1)) k)) (nI k) M1 = lp_L_law_420 F L9 xs9 a144 a145 b146 a147 n (nI (cntB (fun k => decide (Q 140 k = -1)) k + if decide (Q 140 k = -1) = true then 1 else 0)) (nI (k + 1)) M2
      rw [if_neg (show ¬ decide (Q 140 k = -1) = true by rw [decide_eq_true_eq, ep]; exact (m1_ne (by omega)).symm), el_L_law_420]
      unfold st_L_law_420
      have i0 : (0 : Int32) ≤ nI i := by rw [i_0, n_le (by omega) (by omega)]; omega
      rw [if_neg (by rw [i_960, n_le (by omega) (by omega)]; omega), md40 (show k < 2147483648 by omega), dv40 (show k < 2147483648 by omega), bndT_r _ _ e1, bnd_d, ep, if_pos i0]
      unfold bk_L_law_456_420
      rw [bnd_d, if_pos i0, gg_125, grd_t (n_in p30 (by omega)), bnd_d, n_cl (show i < 2147483648 by omega), rr_125, gN_iss p30, grd_t (by decide), x2, if_neg hs, grd_t (n_in p30 (by omega)), bnd_d, gN_iss p30, grd_t (by decide), x0, if_pos hg, md40 (show k < 2147483648 by omega), dv40 (show k < 2147483648 by omega), bndT_r _ _ e2]
      dsimp only
      rw [if_neg (by decide), bnd_d, i_0, i_1, n_a, n_a]
  · rintro ⟨a, b, M1⟩ ⟨rfl, rfl, hS1⟩
    have hS1 : ST Q M1 t := hS1
    refine ⟨(nI (sNone Q), M1), ⟨rfl, hS1⟩, fun n => ?_⟩
    show lp_L_law_420 F L9 xs9 a144 a145 b146 a147 (n + 1) _ (nI 960) M1 = _
    rw [el_L_law_420]
    unfold st_L_law_420
    rw [if_pos (by decide)]
    rfl
theorem p_hide {a231 a232 : Int32} {b233 : Int64} (hF : 3000 ≤ F) (hS : ST Q M t) : ∃ M', lp_L_law_692 F L9 xs9 a231 a232 b233 F 0 M = some M' ∧ cI (hid Q (sN Q)) M' ∧ fr M M' := by
  obtain ⟨-, c4, -, n30⟩ := hS.c
  refine run_up (fun n (s : Int32 × GM) => lp_L_law_692 F L9 xs9 a231 a232 b233 n s.1 s.2) (fun i s => s.1 = nI i ∧ cI (hid Q i) s.2 ∧ fr M s.2) _ 0 (sN Q) F (by omega) (by omega) (s := (0, M)) ⟨rfl, by rw [hid_0]; exact hS.1, fr.rf M⟩ ?_ ?_
  · rintro i ⟨x, M1⟩ - hi ⟨rfl, h1, h2⟩
    have h1 : cI (hid Q i) M1 := h1
    have h2 : fr M M1 := h2
    obtain ⟨M2, e2, i2, g2⟩ := co_show (F := F) (n := i) h1 (show i < sN (hid Q i) by show i < ((hid Q i) 122 2).toNatClampNeg; rw [hid_o (by omega)]; exact hi) (Or.inl rfl)
    rw [hid_s] at i2
    refine ⟨(nI (i + 1), M2), ⟨rfl, i2, h2.tr g2⟩, fun n => ?_⟩
    show lp_L_law_692 F L9 xs9 a231 a232 b233 (n + 1) (nI i) M1 = lp_L_law_692 F L9 xs9 a231 a232 b233 n (nI (i + 1)) M2
    rw [el_L_law_692]
    unfold st_L_law_692
    rw [h2 122 4 (by omega), c4, if_neg (by rw [n_le (by omega) (by omega)]; omega), bndT_r _ _ e2]
    dsimp only
    rw [bnd_d, i_1, n_a]
  · rintro ⟨x, M1⟩ ⟨rfl, h1, h2⟩
    have h2 : fr M M1 := h2
    refine ⟨M1, ⟨h1, h2⟩, fun n => ?_⟩
    show lp_L_law_692 F L9 xs9 a231 a232 b233 (n + 1) (nI (sN Q)) M1 = _
    rw [el_L_law_692]
    unfold st_L_law_692
    rw [h2 122 4 (by omega), c4, if_pos (by rw [n_le (by omega) (by omega)]; omega)]
theorem p_rest {a255 a256 : Int32} {b257 : Int64} {D : PM} (hF : 3000 ≤ F) (hO : OK Q) (hV : SV Q M) (hI : cI D M) (eN : D 122 2 = Q 122 2) : ∃ M', lp_L_law_756 F L9 xs9 a255 a256 b257 F 0 M = some M' ∧ cI (rst Q D (sN Q)) M' ∧ fr M M' := by
  obtain ⟨n1, n30, -, -⟩ := sN_of hO
  have c4 : gI M 122 4 = nI (sN Q) := (hV _ _ _ _ sm_c2).trans n1
  refine run_up (fun n (s : Int32 × GM) => lp_L_law_756 F L9 xs9 a255 a256 b257 n s.1 s.2) (fun i s => s.1 = nI i ∧ cI (rst Q D i) s.2 ∧ fr M s.2) _ 0 (sN Q) F (by omega) (by omega) (s := (0, M)) ⟨rfl, by rw [rst_0]; exact hI, fr.rf M⟩ ?_ ?_
  · rintro i ⟨x, M1⟩ - hi ⟨rfl, h1, h2⟩
    have h1 : cI (rst Q D i) M1 := h1
    have h2 : fr M M1 := h2
    have p30 : i < 30 := by omega
    have x2 : gI M1 (203 + i) 2 = Q 134 i := (h2 _ _ (by omega)).trans (hV _ _ _ _ (sm_is (by omega) (by omega) p30 rfl))
    obtain ⟨M2, e2, i2, g2⟩ := co_show (F := F) (n := i) h1 (show i < sN (rst Q D i) by show i < ((rst Q D i) 122 2).toNatClampNeg; rw [rst_o (by omega), eN]; exact hi) (hO.2.2.2.2.2.2.2.2.2.2.1 134 i (by omega) (by omega))
    rw [rst_s] at i2
    refine ⟨(nI (i + 1), M2), ⟨rfl, i2, h2.tr g2⟩, fun n => ?_⟩
    show lp_L_law_756 F L9 xs9 a255 a256 b257 (n + 1) (nI i) M1 = lp_L_law_756 F L9 xs9 a255 a256 b257 n (nI (i + 1)) M2
    rw [el_L_law_756]
    unfold st_L_law_756
    rw [h2 122 4 (by omega), c4, if_neg (by rw [n_le (by omega) (by omega)]; omega), gg_125, grd_t (n_in p30 (by omega)), bnd_d, n_cl (show i < 2147483648 by omega), rr_125, gN_iss p30, grd_t (by decide), x2, bndT_r _ _ e2]
    dsimp only
    rw [bnd_d, i_1, n_a]
  · rintro ⟨x, M1⟩ ⟨rfl, h1, h2⟩
    have h2 : fr M M1 := h2
    refine ⟨M1, ⟨h1, h2⟩, fun n => ?_⟩
    show lp_L_law_756 F L9 xs9 a255 a256 b257 (n + 1) (nI (sN Q)) M1 = _
    rw [el_L_law_756]
    unfold st_L_law_756
    rw [h2 122 4 (by omega), c4, if_pos (by rw [n_le (by omega) (by omega)]; omega)]
end LAW
