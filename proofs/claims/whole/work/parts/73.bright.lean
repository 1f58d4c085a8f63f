/-! PURE PART: brightness -/
/-- the bits of no NaN -/
def nn64 (n : Nat) : Prop := n % 9223372036854775808 ≤ 9218868437227405312
theorem b64_t : FP.Core.b64.tails = 4503599627370496 := by decide +kernel
theorem b64_e : FP.Core.b64.exps = 2048 := by decide +kernel
theorem b64_p : 2 ^ FP.Core.b64.p = 9007199254740992 := by decide +kernel
theorem b64_q : FP.Core.b64.qmin = -1074 ∧ FP.Core.b64.qmax = 971 := by decide +kernel
theorem nn_asm (s : Bool) (e t : Nat) (he : e ≤ 2046) (ht : t < 4503599627370496) : nn64 (FP.Core.assemble FP.Core.b64 s e t) := by
  unfold FP.Core.assemble nn64
  rw [b64_t, b64_e]
  cases s
  · show ((0 * 2048 + e) * 4503599627370496 + t) % _ ≤ _
    omega
  · show ((1 * 2048 + e) * 4503599627370496 + t) % _ ≤ _
    omega
theorem nn_fin (s : Bool) (c : Nat) (q : Int) (hc : c < 9007199254740992) (hq : q ≤ 971) : nn64 (FP.Core.encode FP.Core.b64 (.fin s c q)) := by
  show nn64 (if c < FP.Core.b64.tails then FP.Core.assemble FP.Core.b64 s 0 c else FP.Core.assemble FP.Core.b64 s ((q - FP.Core.b64.qmin).toNat + 1) (c - FP.Core.b64.tails))
  rw [b64_t, b64_q.1]
  by_cases h : c < 4503599627370496
  · rw [if_pos h]; exact nn_asm s 0 c (by omega) h
  · rw [if_neg h]; exact nn_asm s _ _ (by omega) (by omega)
theorem nn_inf (s : Bool) : nn64 (FP.Core.encode FP.Core.b64 (.inf s)) := by
  show nn64 (FP.Core.assemble FP.Core.b64 s (FP.Core.b64.exps - 1) 0)
  unfold FP.Core.assemble nn64
  rw [b64_t, b64_e]
  cases s
  · show ((0 * 2048 + (2048 - 1)) * 4503599627370496 + 0) % _ ≤ _
    omega
  · show ((1 * 2048 + (2048 - 1)) * 4503599627370496 + 0) % _ ≤ _
    omega
theorem nn_bound (s : Bool) (c : Nat) (q : Int) (hc : c < 9007199254740992) : nn64 (FP.Core.encode FP.Core.b64 (FP.Core.bound FP.Core.b64 s c q)) := by
  unfold FP.Core.bound
  rw [b64_q.2]
  by_cases h : q ≤ 971
  · rw [if_pos h]; exact nn_fin s c q hc h
  · rw [if_neg h]; exact nn_inf s
theorem nn_settle (s : Bool) (c : Nat) (q : Int) : nn64 (FP.Core.encode FP.Core.b64 (FP.Core.settle FP.Core.b64 s c q)) := by
  unfold FP.Core.settle
  rw [b64_p, b64_t]
  by_cases h : c < 9007199254740992
  · rw [if_pos h]; exact nn_bound s c q h
  · rw [if_neg h]; exact nn_bound s _ _ (by omega)
theorem nn_ratio (s : Bool) (a b : Nat) (e : Int) : nn64 (FP.Core.encode FP.Core.b64 (FP.Core.roundRatio FP.Core.b64 s a b e)) := by
  unfold FP.Core.roundRatio
  by_cases h : a = 0
  · rw [if_pos h]; exact nn_fin s 0 _ (by omega) (by rw [b64_q.1]; omega)
  · rw [if_neg h]; exact nn_settle _ _ _
theorem nn_dec {n : Nat} (h : nn64 n) : FP.Core.decode FP.Core.b64 n ≠ .nan := by
  unfold nn64 at h
  have eE : FP.Core.fieldE FP.Core.b64 n = n / 4503599627370496 % 2048 := by unfold FP.Core.fieldE; rw [b64_t, b64_e]
  have eT : FP.Core.fieldT FP.Core.b64 n = n % 4503599627370496 := by unfold FP.Core.fieldT; rw [b64_t]
  unfold FP.Core.decode
  rw [eE, eT, b64_e]
  by_cases h1 : n / 4503599627370496 % 2048 = 2048 - 1
  · rw [if_pos h1, if_pos (by omega)]; intro q; cases q
  · rw [if_neg h1]
    by_cases h2 : n / 4503599627370496 % 2048 = 0
    · rw [if_pos h2]; intro q; cases q
    · rw [if_neg h2]; intro q; cases q
theorem nn_of {n : Nat} (h : nn64 n) : nn64 (UInt64.ofNat n).toNat := by
  have e : (UInt64.ofNat n).toNat = n % 18446744073709551616 := UInt64.toNat_ofNat'
  rw [e]
  unfold nn64 at h ⊢
  omega
theorem nn_i2d (v : Int32) : nn64 (FP.i2d v).toNat := nn_of (show nn64 (FP.Core.encode FP.Core.b64 (FP.Core.roundRatio FP.Core.b64 _ _ 1 0)) from nn_ratio _ _ _ _)
theorem dec_960 : ∃ c q, FP.Core.decode FP.Core.b64 (4651655465120301056 : UInt64).toNat = .fin false c q ∧ c ≠ 0 := ⟨8444249301319680, -43, by decide +kernel, by decide⟩
theorem nn_div {x : UInt64} (h : nn64 x.toNat) : nn64 (FP.ddiv x 4651655465120301056).toNat := by
  obtain ⟨c, q, e, hc⟩ := dec_960
  refine nn_of ?_
  unfold FP.Core.div
  rw [e]
  have hd := nn_dec h
  cases hx : FP.Core.decode FP.Core.b64 x.toNat with
  | nan => exact absurd hx hd
  | inf s => exact nn_inf _
  | fin s a r =>
    show nn64 (FP.Core.encode FP.Core.b64 (if c = 0 then _ else FP.Core.roundRatio FP.Core.b64 _ a c (r - q)))
    rw [if_neg hc]
    exact nn_ratio _ _ _ _
theorem gNum_nn {y : UInt64} (h : nn64 y.toNat) : gNum y = true := by
  unfold gNum
  rw [decide_eq_true_eq, UInt64.le_iff_toNat_le, UInt64.toNat_and]
  show y.toNat &&& (2 ^ 63 - 1) ≤ 9218868437227405312
  rw [Nat.and_two_pow_sub_one_eq_mod]
  exact h
/-- r + g + b of the points before k -/
def sBr (P : PM) : Nat → Int
  | 0 => 0
  | k + 1 => sBr P k + ((P 138 k).toInt / 65536 + (P 138 k).toInt / 256 % 256 + (P 138 k).toInt % 256)
theorem sBr_rg {P : PM} (hO : OK P) : ∀ k, 0 ≤ sBr P k ∧ sBr P k ≤ 765 * k := by
  intro k
  induction k with
  | zero => exact ⟨Int.le_refl 0, by simp [sBr]⟩
  | succ k ih =>
    have := hO.2.2.2.2.2.2.2.2.2.2.2.2.2.2 k
    unfold sBr
    omega
theorem c_bright {P : PM} {M : GM} {F : Nat} (hF : 3000 ≤ F) (hO : OK P) (hC : CV P M) : ∃ w : Int64, lp_X10_brightness_17 F 960 M F 0 0 = some w ∧ w.toInt = sBr P 960 := by
  refine run_up (fun n (s : Int64 × Int32) => lp_X10_brightness_17 F 960 M n s.1 s.2) (fun i s => s.2 = nI i ∧ s.1.toInt = sBr P i) _ 0 960 F (by omega) (by omega) (s := (0, 0)) ⟨rfl, rfl⟩ ?_ ?_
  · rintro i ⟨a, x⟩ - hi ⟨rfl, k1⟩
    have k1 : a.toInt = sBr P i := k1
    have rg := sBr_rg hO i
    have col := hO.2.2.2.2.2.2.2.2.2.2.2.2.2.2 i
    have e := a_add64 k1 (a_64 (a_add (a_add (a_redC (P 138 i) col.1 col.2) (a_greenC (P 138 i)) (by omega) (by omega)) (a_blueC (P 138 i)) (by omega) (by omega))) (by omega) (by omega)
    refine ⟨(_, nI (i + 1)), ⟨rfl, e⟩, fun n => ?_⟩
    show lp_X10_brightness_17 F 960 M (n + 1) a (nI i) = _
    rw [el_X10_brightness_17]
    unfold st_X10_brightness_17
    rw [if_neg (by rw [i_960, n_le (by omega) (by omega)]; omega), gn_28, grd_t (n_in hi (by omega)), bnd_d, n_cl (by omega), (hC.2.2.2.2.2 i hi).1, bnd_d, bnd_d, i_1, n_a]
  · rintro ⟨a, x⟩ ⟨rfl, k1⟩
    refine ⟨a, k1, fun n => ?_⟩
    show lp_X10_brightness_17 F 960 M (n + 1) a (nI 960) = _
    rw [el_X10_brightness_17]
    unfold st_X10_brightness_17
    rw [if_pos (by decide)]
theorem r_bright {P : PM} {M : GM} {F : Nat} (hF : 3000 ≤ F) (hO : OK P) (hR : RV P M) : ∃ v : Int32, lp_X11_brightness_9 F F 0 0 M = some (v, M) ∧ v.toInt = sBr P 960 := by
  have L : ∃ q : Int32 × GM, lp_X11_brightness_9 F F 0 0 M = some q ∧ (q.1.toInt = sBr P 960 ∧ q.2 = M) := by
    refine run_up (fun n (s : Int32 × Int32 × GM) => lp_X11_brightness_9 F n s.1 s.2.1 s.2.2) (fun i s => s.2.1 = nI i ∧ s.1.toInt = sBr P i ∧ s.2.2 = M) _ 0 960 F (by omega) (by omega) (s := (0, 0, M)) ⟨rfl, rfl, rfl⟩ ?_ ?_
    · rintro i ⟨a, x, M1⟩ - hi ⟨rfl, k1, hm⟩
      have hm : M1 = M := hm
      subst hm
      have k1 : a.toInt = sBr P i := k1
      have rg := sBr_rg hO i
      have col := hO.2.2.2.2.2.2.2.2.2.2.2.2.2.2 i
      have e := a_add k1 (a_add (a_add (a_red (P 138 i)) (a_green (P 138 i)) (by omega) (by omega)) (a_blue (P 138 i)) (by omega) (by omega)) (by omega) (by omega)
      refine ⟨(_, nI (i + 1), M1), ⟨rfl, e, rfl⟩, fun n => ?_⟩
      show lp_X11_brightness_9 F (n + 1) a (nI i) M1 = _
      rw [el_X11_brightness_9]
      unfold st_X11_brightness_9
      rw [if_neg (by rw [i_960, n_le (by omega) (by omega)]; omega), gn_138, n_in hi (by omega), n_cl (by omega), grdT, grdT, grdT, hR.2 138 i (by omega) (by omega), bnd_d, bnd_d, i_1, n_a]
    · rintro ⟨a, x, M1⟩ ⟨rfl, k1, hm⟩
      have hm : M1 = M := hm
      subst hm
      refine ⟨(a, M1), ⟨k1, rfl⟩, fun n => ?_⟩
      show lp_X11_brightness_9 F (n + 1) a (nI 960) M1 = _
      rw [el_X11_brightness_9]
      unfold st_X11_brightness_9
      rw [if_pos (by decide)]
  obtain ⟨⟨v, M'⟩, e, h, rfl⟩ := L
  exact ⟨v, e, h⟩
theorem op_brightness {P : PM} {M : GM} {F : Nat} (hF : 3000 ≤ F) (hI : Inv P M) : ∃ y M2, f_X10_brightness F M = some y ∧ f_X11_brightness F M = some (y, M2) ∧ Inv P M2 := by
  obtain ⟨⟨hO, hD⟩, hC, hR⟩ := id hI
  obtain ⟨w, w1, w2⟩ := c_bright (F := F) hF hO hC.1
  obtain ⟨v, v1, v2⟩ := r_bright (F := F) hF hO (RV_thr hR 0)
  have e : FP.l2d w = FP.i2d v := by
    show UInt64.ofNat (FP.Core.fromInt FP.Core.b64 w.toInt) = UInt64.ofNat (FP.Core.fromInt FP.Core.b64 v.toInt)
    rw [w2, v2]
  have g := gNum_nn (nn_div (nn_i2d v))
  refine ⟨FP.ddiv (FP.i2d v) 4651655465120301056, sI M 122 0 0, ?_, ?_, hI.1, ⟨hC.1.to fun g k h => by rw [gI_sI, if_neg (by unfold cvS at h; omega)], hC.2.to fun k => by rw [gI_sI, if_neg (by omega)]⟩, RV_thr hR 0⟩
  · unfold f_X10_brightness
    rw [bnd_d, bnd_d, bnd_d, bndO_s _ w1, e, grd_t g]
  · unfold f_X11_brightness
    rw [bnd_d, bnd_d, bnd_d, bndO_s _ v1]
    show grd (gNum (FP.ddiv (FP.i2d v) 4651655465120301056)) _ = _
    rw [grd_t g]
