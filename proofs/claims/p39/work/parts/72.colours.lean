/-! PURE PART: how many colours the picture has -/
/-- whether a point is the first one of its colour -/
def sNew (P : PM) (k : Nat) : Bool := !((List.range k).any fun j => decide (P 138 j = P 138 k))
theorem sNew_iff {P : PM} {k : Nat} : sNew P k = true ↔ ∀ j, j < k → P 138 j ≠ P 138 k := by
  unfold sNew
  rw [Bool.not_eq_true', Bool.eq_false_iff, ne_eq, List.any_eq_true]
  constructor
  · intro h j hj e
    exact h ⟨j, List.mem_range.mpr hj, decide_eq_true e⟩
  · rintro h ⟨j, h1, h2⟩
    exact h j (List.mem_range.mp h1) (of_decide_eq_true h2)
def sDist (P : PM) : Nat := cntB (sNew P) 960
/-- a place in the table of colours, kept numbers by places -/
def tP (h d : Nat) : Nat := (h + d) % 2048
/-- the table T holds the colours of the points before m: st gives where a colour's search begins -/
def cT (P : PM) (T : Nat → Int32) (st : Int32 → Nat) (m : Nat) : Prop :=
  (∀ j, j < 2048 → T j = 0 ∨ ∃ k, k < m ∧ T j = P 138 k + 1) ∧
  (∀ k, k < m → ∃ d, d < 2048 ∧ T (tP (st (P 138 k)) d) = P 138 k + 1 ∧ ∀ e, e < d → T (tP (st (P 138 k)) e) ≠ 0) ∧
  cntB (fun j => decide (T j ≠ 0)) 2048 = cntB (sNew P) m
theorem kept {c : Int32} (h : 0 ≤ c.toInt ∧ c.toInt ≤ 16777215) : (c + 1).toInt = c.toInt + 1 := a_add rfl tv_1 (by omega) (by omega)
theorem kept_ne {c : Int32} (h : 0 ≤ c.toInt ∧ c.toInt ≤ 16777215) : c + 1 ≠ 0 := fun q => by
  have := congrArg Int32.toInt q
  rw [kept h, tv_0] at this
  omega
theorem kept_inj {c d : Int32} (hc : 0 ≤ c.toInt ∧ c.toInt ≤ 16777215) (hd : 0 ≤ d.toInt ∧ d.toInt ≤ 16777215) (h : c + 1 = d + 1) : c = d := by
  have := congrArg Int32.toInt h
  rw [kept hc, kept hd] at this
  exact a_ext (by omega)
/-- where the search for a colour begins -/
def stt (c : Int32) : Nat := ((((c * (-1640531535)).toUInt32 >>> ((21 : Int32).toUInt32 &&& Int32.toUInt32 31)).toInt32)).toNatClampNeg
theorem stt_e (c : Int32) : ((c * (-1640531535)).toUInt32 >>> ((21 : Int32).toUInt32 &&& Int32.toUInt32 31)).toInt32 = nI (stt c) ∧ stt c < 2048 := by
  unfold stt
  generalize hx : c * (-1640531535) = x
  have e : ((x.toUInt32 >>> ((21 : Int32).toUInt32 &&& Int32.toUInt32 31)).toInt32).toBitVec = x.toBitVec >>> 21 := rfl
  have h3 : ((x.toUInt32 >>> ((21 : Int32).toUInt32 &&& Int32.toUInt32 31)).toInt32).toInt = (x.toBitVec >>> 21).toInt := by rw [← e]; rfl
  have hlt := x.toBitVec.isLt
  rw [BitVec.toInt_eq_toNat_cond, BitVec.toNat_ushiftRight, Nat.shiftRight_eq_div_pow, if_pos (by omega)] at h3
  have h4 := a_nat32 h3
  generalize (x.toUInt32 >>> ((21 : Int32).toUInt32 &&& Int32.toUInt32 31)).toInt32 = w at h3 h4 ⊢
  rw [h4]
  exact ⟨n_of (by rw [h3]; omega), by omega⟩
theorem cntB_all {f : Nat → Bool} {n : Nat} (h : ∀ k, k < n → f k = true) : cntB f n = n := by
  induction n with
  | zero => rfl
  | succ n ih => unfold cntB; rw [ih fun k hk => h k (by omega), h n (by omega)]; simp
theorem tP_to {h z : Nat} (h1 : h < 2048) (hz : z < 2048) : tP h ((z + 2048 - h) % 2048) = z := by unfold tP; omega
theorem cT_free {P : PM} {T : Nat → Int32} {st : Int32 → Nat} {m : Nat} (hT : cT P T st m) (hm : m < 960) : ∃ z, z < 2048 ∧ T z = 0 := by
  refine Classical.byContradiction fun hn => ?_
  have e := hT.2.2
  rw [cntB_all (f := fun j => decide (T j ≠ 0)) fun j hj => decide_eq_true fun q => hn ⟨j, hj, q⟩] at e
  have := cntB_le (sNew P) m
  omega
theorem c_search {P : PM} {M : GM} {F m h : Nat} {K : Int32} (hF : 3000 ≤ F) (hm : m < 960) (hh : h < 2048) (hT : cT P (fun j => gI M 40 j) stt m) :
    ∃ r, lp_X2_include_15 F K (nI h) F 0 M = some r ∧ ((r = .inr M ∧ ∃ d, d < 2048 ∧ gI M 40 (tP h d) = K) ∨ (∃ d, d < 2048 ∧ gI M 40 (tP h d) = 0 ∧ (∀ e, e < d → gI M 40 (tP h e) ≠ K ∧ gI M 40 (tP h e) ≠ 0) ∧ r = .inr (sI (sI M 40 (tP h d) K) 39 1 (gI M 39 1 + 1)))) := by
  obtain ⟨z, hz, tz⟩ := cT_free hT hm
  refine run_loop (fun n (s : Int32 × GM) => lp_X2_include_15 F K (nI h) n s.1 s.2) (fun i s => s.1 = nI i ∧ s.2 = M ∧ ∀ e, e < i → gI M 40 (tP h e) ≠ K ∧ gI M 40 (tP h e) ≠ 0) _ 2048 ?_ ?_ 2048 0 (0, M) F (by omega) ⟨rfl, rfl, fun e he => absurd he (by omega)⟩ (by omega)
  · rintro i ⟨x, M1⟩ hi ⟨rfl, hM, k1⟩
    have hM : M1 = M := hM
    subst hM
    have ei : (nI h + nI i) - (nI h + nI i) / 2048 * 2048 = nI (tP h i) := by
      rw [n_a]
      exact n_of (by rw [a_mod (n_int (by omega)) (show (2048 : Int32).toInt = 2048 from rfl) (by omega) (by omega)]; unfold tP; omega)
    have tl : tP h i < 2048 := by unfold tP; omega
    have head : ∀ rec, st_X2_include_15 F K (nI h) rec (nI i) M1 = if gI M1 40 (tP h i) = K then some (.inr M1) else if gI M1 40 (tP h i) = 0 then some (.inr (sI (sI M1 40 (tP h i) K) 39 1 (gI M1 39 1 + 1))) else rec (nI (i + 1)) M1 := fun rec => by
      unfold st_X2_include_15
      rw [if_neg (by rw [i_2048, n_le (by omega) (by omega)]; omega), ei, bnd_d, gn_40, n_in tl (by omega), n_cl (by omega), grdT, grdT, grdT, bnd_d, bnd_d, bnd_d, gI_sI, if_neg (show ¬ (39 = 40 ∧ 1 = tP h i) by omega), i_1, n_a]
    have step : ∀ n, lp_X2_include_15 F K (nI h) (n + 1) (nI i) M1 = st_X2_include_15 F K (nI h) (lp_X2_include_15 F K (nI h) n) (nI i) M1 := fun n => rfl
    by_cases c1 : gI M1 40 (tP h i) = K
    · exact Or.inr ⟨.inr M1, Or.inl ⟨rfl, i, by omega, c1⟩, fun n => (step n).trans (by rw [head, if_pos c1])⟩
    · by_cases c2 : gI M1 40 (tP h i) = 0
      · exact Or.inr ⟨_, Or.inr ⟨i, by omega, c2, k1, rfl⟩, fun n => (step n).trans (by rw [head, if_neg c1, if_pos c2])⟩
      · refine Or.inl ⟨(nI (i + 1), M1), ⟨rfl, rfl, fun e he => ?_⟩, fun n => (step n).trans (by rw [head, if_neg c1, if_neg c2])⟩
        by_cases q : e = i
        · subst q; exact ⟨c1, c2⟩
        · exact k1 e (by omega)
  · rintro ⟨x, M1⟩ ⟨rfl, hM, k1⟩
    have := (k1 ((z + 2048 - h) % 2048) (by omega)).2
    rw [tP_to hh hz] at this
    exact absurd tz this
theorem c_include {P : PM} {M : GM} {F m : Nat} (hF : 3000 ≤ F) (hO : OK P) (hm : m < 960) (hT : cT P (fun j => gI M 40 j) stt m) (hs : gI M 39 1 = nI (cntB (sNew P) m)) :
    ∃ M', f_X2_include F (P 138 m) M = some M' ∧ cT P (fun j => gI M' 40 j) stt (m + 1) ∧ gI M' 39 1 = nI (cntB (sNew P) (m + 1)) ∧ (∀ g k, ¬ (g = 39 ∨ g = 40) → gI M' g k = gI M g k) ∧ M'.2 = M.2 := by
  have col : ∀ k, 0 ≤ (P 138 k).toInt ∧ (P 138 k).toInt ≤ 16777215 := fun k => hO.2.2.2.2.2.2.2.2.2.2.2.2.2.2 k
  obtain ⟨s1, s2⟩ := stt_e (P 138 m)
  obtain ⟨r, r1, r2⟩ := c_search (F := F) (K := P 138 m + 1) hF hm s2 hT
  obtain ⟨t1, t2, t3⟩ := hT
  have fin : ∀ M', r = .inr M' → f_X2_include F (P 138 m) M = some M' := fun M' h => by
    unfold f_X2_include
    rw [bnd_d, s1, bnd_d, bnd_d, r1, h]; rfl
  have cs : cntB (sNew P) (m + 1) = cntB (sNew P) m + if sNew P m = true then 1 else 0 := rfl
  rcases r2 with ⟨hr, d, hd, e⟩ | ⟨d, hd, e, k1, hr⟩
  · have old : ∃ k, k < m ∧ P 138 k = P 138 m := by
      rcases t1 (tP (stt (P 138 m)) d) (by unfold tP; omega) with h | ⟨k, h1, h2⟩
      · have h : gI M 40 (tP (stt (P 138 m)) d) = 0 := h
        rw [e] at h; exact absurd h (kept_ne (col m))
      · have h2 : gI M 40 (tP (stt (P 138 m)) d) = P 138 k + 1 := h2
        rw [e] at h2
        exact ⟨k, h1, (kept_inj (col m) (col k) h2).symm⟩
    obtain ⟨k0, h0, h1⟩ := old
    have nn : ¬ sNew P m = true := fun h => sNew_iff.mp h k0 h0 h1
    rw [cs, if_neg nn]
    refine ⟨M, fin M hr, ⟨fun j hj => ?_, fun k hk => ?_, ?_⟩, hs, fun _ _ _ => rfl, rfl⟩
    · rcases t1 j hj with h | ⟨k, a1, a2⟩
      · exact Or.inl h
      · exact Or.inr ⟨k, by omega, a2⟩
    · by_cases q : k = m
      · rw [q, ← h1]; exact t2 k0 h0
      · exact t2 k (by omega)
    · rw [cs, if_neg nn]; exact t3
  · have nn : sNew P m = true := by
      rw [sNew_iff]
      intro j hj ej
      obtain ⟨d2, b1, b2, b3⟩ := t2 j hj
      rw [ej] at b2 b3
      have b2 : gI M 40 (tP (stt (P 138 m)) d2) = P 138 m + 1 := b2
      rcases Nat.lt_trichotomy d2 d with q | q | q
      · exact (k1 d2 q).1 b2
      · rw [q, e] at b2; exact kept_ne (col m) b2.symm
      · exact b3 d q e
    rw [cs, if_pos nn]
    generalize hj : tP (stt (P 138 m)) d = j0 at e hr
    have j9 : j0 < 2048 := by rw [← hj]; unfold tP; omega
    have at9 : ∀ j, gI (sI (sI M 40 j0 (P 138 m + 1)) 39 1 (gI M 39 1 + 1)) 40 j = if j = j0 then P 138 m + 1 else gI M 40 j := fun j => by
      rw [gI_sI, if_neg (by omega), gI_sI]
      by_cases q : j = j0
      · rw [if_pos ⟨rfl, q⟩, if_pos q]
      · rw [if_neg (fun h => q h.2), if_neg q]
    refine ⟨_, fin _ hr, ⟨fun j h9 => ?_, fun k hk => ?_, ?_⟩, ?_, fun g k h => ?_, rfl⟩
    · show gI _ 40 j = 0 ∨ ∃ k, k < m + 1 ∧ gI _ 40 j = _
      rw [at9]
      by_cases q : j = j0
      · rw [if_pos q]; exact Or.inr ⟨m, by omega, rfl⟩
      · rw [if_neg q]
        rcases t1 j h9 with h | ⟨k, a1, a2⟩
        · exact Or.inl h
        · exact Or.inr ⟨k, by omega, a2⟩
    · have key : ∀ p, gI M 40 p ≠ 0 → gI (sI (sI M 40 j0 (P 138 m + 1)) 39 1 (gI M 39 1 + 1)) 40 p = gI M 40 p := fun p hp => by
        rw [at9, if_neg (fun q => hp (by rw [q]; exact e))]
      by_cases q : k = m
      · subst q
        refine ⟨d, hd, ?_, fun e2 he => ?_⟩
        · show gI _ 40 _ = _
          rw [hj, at9, if_pos rfl]
        · show gI _ 40 _ ≠ 0
          rw [key _ (k1 e2 he).2]; exact (k1 e2 he).2
      · obtain ⟨d2, b1, b2, b3⟩ := t2 k (by omega)
        have b2 : gI M 40 (tP (stt (P 138 k)) d2) = P 138 k + 1 := b2
        refine ⟨d2, b1, ?_, fun e2 he => ?_⟩
        · show gI _ 40 _ = _
          rw [key _ (by rw [b2]; exact kept_ne (col k))]; exact b2
        · show gI _ 40 _ ≠ 0
          have := b3 e2 he
          rw [key _ this]; exact this
    · rw [cs, if_pos nn, ← t3]
      refine cntB_up j9 (fun k hk => ?_) ?_ ?_
      · show decide (gI M 40 k ≠ 0) = decide (gI _ 40 k ≠ 0)
        rw [at9, if_neg hk]
      · show decide (gI M 40 j0 ≠ 0) = false
        rw [e]; rfl
      · show decide (gI _ 40 j0 ≠ 0) = true
        rw [at9, if_pos rfl]; exact decide_eq_true (kept_ne (col m))
    · rw [gI_sI, if_pos ⟨rfl, rfl⟩, hs, i_1, n_a]
    · rw [gI_sI, if_neg (by omega), gI_sI, if_neg (by omega)]
theorem cq_colours {P : PM} {M : GM} {F : Nat} (hF : 3000 ≤ F) (hO : OK P) (hC : CS P M) : ∃ M', f_X10_colours F M = some (nI (sDist P), M') ∧ cQ P M M' := by
  obtain ⟨M1, e1, z1, f1, -⟩ := c_fill (M := M) (F := F) (p := 40) (a := 0) hF (by rw [gn_40]; omega)
  rw [gn_40] at z1
  obtain ⟨M2, hM2⟩ : ∃ M2, M2 = sI M1 39 1 0 := ⟨_, rfl⟩
  have T0 : cT P (fun j => gI M2 40 j) stt 0 := by
    have z2 : ∀ j, j < 2048 → gI M2 40 j = 0 := fun j hj => by rw [hM2, gI_sI, if_neg (by omega)]; exact z1 j hj
    refine ⟨fun j hj => Or.inl (z2 j hj), fun k hk => absurd hk (by omega), ?_⟩
    rw [cntB_congr (g := fun _ => false) fun j hj => ?_, cntB_ff]
    · rfl
    · show decide (gI M2 40 j ≠ 0) = false
      rw [z2 j hj]; rfl
  have i2 : ∀ g k, ¬ (g = 39 ∨ g = 40) → gI M2 g k = gI M g k := fun g k h => by rw [hM2, gI_sI, if_neg (by omega), f1 g k (by omega)]
  have L : ∃ M', lp_X10_colours_20 F 960 F 0 M2 = some M' ∧ (gI M' 39 1 = nI (sDist P) ∧ (∀ g k, ¬ (g = 39 ∨ g = 40) → gI M' g k = gI M g k)) := by
    refine run_up (fun n (s : Int32 × GM) => lp_X10_colours_20 F 960 n s.1 s.2) (fun m s => s.1 = nI m ∧ cT P (fun j => gI s.2 40 j) stt m ∧ gI s.2 39 1 = nI (cntB (sNew P) m) ∧ (∀ g k, ¬ (g = 39 ∨ g = 40) → gI s.2 g k = gI M g k)) _ 0 960 F (by omega) (by omega) (s := (0, M2)) ⟨rfl, T0, by rw [hM2, gI_sI, if_pos ⟨rfl, rfl⟩]; rfl, i2⟩ ?_ ?_
    · rintro m ⟨x, M3⟩ - hm ⟨rfl, k1, k2, k3⟩
      obtain ⟨M4, e4, t4, s4, f4, -⟩ := c_include (F := F) hF hO hm k1 k2
      have ev : gI M3 28 m = P 138 m := (k3 28 m (by omega)).trans (hC.1.2.2.2.2.2 m hm).1
      refine ⟨(nI (m + 1), M4), ⟨rfl, t4, s4, fun g k h => (f4 g k h).trans (k3 g k h)⟩, fun n => ?_⟩
      show lp_X10_colours_20 F 960 (n + 1) (nI m) M3 = lp_X10_colours_20 F 960 n (nI (m + 1)) M4
      rw [el_X10_colours_20]
      unfold st_X10_colours_20
      rw [if_neg (by rw [i_960, n_le (by omega) (by omega)]; omega), gn_28, grd_t (n_in hm (by omega)), bnd_d, n_cl (by omega), ev, bndO_s _ e4, bnd_d, i_1, n_a]
    · rintro ⟨x, M3⟩ ⟨rfl, k1, k2, k3⟩
      refine ⟨M3, ⟨k2, k3⟩, fun n => ?_⟩
      show lp_X10_colours_20 F 960 (n + 1) (nI 960) M3 = _
      rw [el_X10_colours_20]
      unfold st_X10_colours_20
      rw [if_pos (by decide)]
  obtain ⟨M', e, k1, k2⟩ := L
  refine ⟨M', ?_, cQ.of hC fun g k h => k2 g k (by unfold cqS at h; omega)⟩
  unfold f_X10_colours f_X2_empty
  rw [bndO_s _ e1, bnd_d, ← hM2, bndOs, bnd_d, bnd_d, bndO_s _ e, k1]
