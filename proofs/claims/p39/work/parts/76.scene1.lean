/-! PURE PART: what the law keeps, draws, small steps -/
theorem a_and31 (c : Int32) : 0 ≤ (c &&& (2147483647 : Int32)).toInt := by
  have h : (c &&& (2147483647 : Int32)).toBitVec.msb = false := by
    rw [Int32.toBitVec_and, BitVec.msb_and, show (2147483647 : Int32).toBitVec.msb = false by decide, Bool.and_false]
  show 0 ≤ (c &&& (2147483647 : Int32)).toBitVec.toInt
  rw [BitVec.toInt_eq_toNat_of_msb h]
  exact Int.natCast_nonneg _
theorem a_col {a b c : Int32} (ha : 0 ≤ a.toInt ∧ a.toInt < 256) (hb : 0 ≤ b.toInt ∧ b.toInt < 256) (hc : 0 ≤ c.toInt ∧ c.toInt < 256) : inR (((a <<< ((16 : Int32) &&& 31)) ||| (b <<< ((8 : Int32) &&& 31))) ||| c) 0 16777215 := by
  have na := a_nat a ha.1
  have nb := a_nat b hb.1
  have nc := a_nat c hc.1
  have ea : (a <<< ((16 : Int32) &&& 31)).toBitVec = a.toBitVec <<< 16 := rfl
  have eb : (b <<< ((8 : Int32) &&& 31)).toBitVec = b.toBitVec <<< 8 := rfl
  have la : (a.toBitVec <<< 16).toNat < 2 ^ 24 := by
    rw [BitVec.toNat_shiftLeft, Nat.shiftLeft_eq]
    exact Nat.lt_of_le_of_lt (Nat.mod_le _ _) (by omega)
  have lb : (b.toBitVec <<< 8).toNat < 2 ^ 24 := by
    rw [BitVec.toNat_shiftLeft, Nat.shiftLeft_eq]
    exact Nat.lt_of_le_of_lt (Nat.mod_le _ _) (by omega)
  have lc : c.toBitVec.toNat < 2 ^ 24 := by omega
  have h : (((a <<< ((16 : Int32) &&& 31)) ||| (b <<< ((8 : Int32) &&& 31))) ||| c).toBitVec.toNat < 2 ^ 24 := by
    rw [Int32.toBitVec_or, Int32.toBitVec_or, ea, eb, BitVec.toNat_or, BitVec.toNat_or]
    exact Nat.or_lt_two_pow (Nat.or_lt_two_pow la lb) lc
  have e : (((a <<< ((16 : Int32) &&& 31)) ||| (b <<< ((8 : Int32) &&& 31))) ||| c).toInt = ((((a <<< ((16 : Int32) &&& 31)) ||| (b <<< ((8 : Int32) &&& 31))) ||| c).toBitVec.toNat : Int) := BitVec.toInt_eq_toNat_of_lt (by omega)
  unfold inR
  omega
/-- where the law keeps what a cell of P is -/
def sm (g k a b : Nat) : Prop :=
  (g = 122 ∧ a = 122 ∧ ((k = 1 ∧ b = 3) ∨ (k = 2 ∧ b = 4) ∨ (k = 3 ∧ b = 11) ∨ (k = 4 ∧ b = 12) ∨ (k = 5 ∧ b = 13))) ∨ (124 ≤ g ∧ g ≤ 129 ∧ k < 40 ∧ a = 133 + k ∧ b + 124 = g) ∨ (g = 130 ∧ k < 90 ∧ a = 173 + k / 3 ∧ b = k % 3) ∨ (g = 131 ∧ k < 30 ∧ a = 173 + k ∧ b = 3) ∨
  (132 ≤ g ∧ g ≤ 134 ∧ k < 30 ∧ a = 203 + k ∧ b + 132 = g) ∨ (g = 137 ∧ k < 12 ∧ a = 233 + k / 4 ∧ b = k % 4) ∨ (g = 135 ∧ k < 256 ∧ a = 129 + k / 64 ∧ b = k % 64) ∨ (g = 136 ∧ k < 4 ∧ a = 128 ∧ b = k)
theorem sm_inj {g k g2 k2 a b : Nat} (h : sm g k a b) (h2 : sm g2 k2 a b) : g = g2 ∧ k = k2 := by
  unfold sm at h h2
  rcases h with h | h | h | h | h | h | h | h <;> rcases h2 with h2 | h2 | h2 | h2 | h2 | h2 | h2 | h2 <;> omega
theorem sm_fun {g k a b a2 b2 : Nat} (h : sm g k a b) (h2 : sm g k a2 b2) : a = a2 ∧ b = b2 := by
  unfold sm at h h2
  rcases h with h | h | h | h | h | h | h | h <;> rcases h2 with h2 | h2 | h2 | h2 | h2 | h2 | h2 | h2 <;> omega
/-- the law's own cells, but the counter of draws -/
def scC (a b : Nat) : Prop := 122 ≤ a ∧ a < 236 ∧ ¬ (a = 122 ∧ b = 2)
theorem sm_rg {g k a b : Nat} (h : sm g k a b) : scC a b := by
  unfold sm at h
  unfold scC
  rcases h with h | h | h | h | h | h | h | h <;> omega
theorem sm_c1 : sm 122 1 122 3 := Or.inl ⟨rfl, rfl, Or.inl ⟨rfl, rfl⟩⟩
theorem sm_c2 : sm 122 2 122 4 := Or.inl ⟨rfl, rfl, Or.inr (Or.inl ⟨rfl, rfl⟩)⟩
theorem sm_nr : sm 122 3 122 11 := Or.inl ⟨rfl, rfl, Or.inr (Or.inr (Or.inl ⟨rfl, rfl⟩))⟩
theorem sm_fc : sm 122 4 122 12 := Or.inl ⟨rfl, rfl, Or.inr (Or.inr (Or.inr (Or.inl ⟨rfl, rfl⟩)))⟩
theorem sm_bg : sm 122 5 122 13 := Or.inl ⟨rfl, rfl, Or.inr (Or.inr (Or.inr (Or.inr ⟨rfl, rfl⟩)))⟩
theorem sm_cor {g k b : Nat} (h1 : 124 ≤ g) (h2 : g ≤ 129) (hk : k < 40) (hb : b + 124 = g) : sm g k (133 + k) b := Or.inr (Or.inl ⟨h1, h2, hk, rfl, hb⟩)
theorem sm_of {k a b : Nat} (hk : k < 90) (ha : a = 173 + k / 3) (hb : b = k % 3) : sm 130 k a b := Or.inr (Or.inr (Or.inl ⟨rfl, hk, ha, hb⟩))
theorem sm_pt {k : Nat} (hk : k < 30) : sm 131 k (173 + k) 3 := Or.inr (Or.inr (Or.inr (Or.inl ⟨rfl, hk, rfl, rfl⟩)))
theorem sm_is {g k b : Nat} (h1 : 132 ≤ g) (h2 : g ≤ 134) (hk : k < 30) (hb : b + 132 = g) : sm g k (203 + k) b := Or.inr (Or.inr (Or.inr (Or.inr (Or.inl ⟨h1, h2, hk, rfl, hb⟩))))
theorem sm_cam {k a b : Nat} (hk : k < 12) (ha : a = 233 + k / 4) (hb : b = k % 4) : sm 137 k a b := Or.inr (Or.inr (Or.inr (Or.inr (Or.inr (Or.inl ⟨rfl, hk, ha, hb⟩)))))
theorem sm_tin {k a b : Nat} (hk : k < 256) (ha : a = 129 + k / 64) (hb : b = k % 64) : sm 135 k a b := Or.inr (Or.inr (Or.inr (Or.inr (Or.inr (Or.inr (Or.inl ⟨rfl, hk, ha, hb⟩))))))
theorem sm_rep {k : Nat} (hk : k < 4) : sm 136 k 128 k := Or.inr (Or.inr (Or.inr (Or.inr (Or.inr (Or.inr (Or.inr ⟨rfl, hk, rfl, rfl⟩))))))
/-- the law's own cells tell the same as P -/
def SV (P : PM) (M : GM) : Prop := ∀ g k a b, sm g k a b → gI M a b = P g k
theorem SV.to {P : PM} {M M' : GM} (h : SV P M) (f : ∀ a b, scC a b → gI M' a b = gI M a b) : SV P M' := fun g k a b q => (f a b (sm_rg q)).trans (h g k a b q)
theorem SV_set {P : PM} {M : GM} (h : SV P M) {g k a b : Nat} {v : Int32} (hc : sm g k a b) : SV (u2 P g k v) (sI M a b v) := by
  intro g2 k2 a2 b2 hc2
  rw [gI_sI, u2_at]
  by_cases q : a2 = a ∧ b2 = b
  · obtain ⟨rfl, rfl⟩ := q
    obtain ⟨rfl, rfl⟩ := sm_inj hc hc2
    rw [if_pos ⟨rfl, rfl⟩, if_pos ⟨rfl, rfl⟩]
  · rw [if_neg q, if_neg (fun e => q (by
      obtain ⟨rfl, rfl⟩ := e
      obtain ⟨e1, e2⟩ := sm_fun hc hc2
      exact ⟨e1.symm, e2.symm⟩))]
    exact h g2 k2 a2 b2 hc2
theorem cI.lo {P : PM} {M M' : GM} (h : cI P M) (f : ∀ g k, g < 122 → gI M' g k = gI M g k) : cI P M' := ⟨h.1, h.2.1.to fun g k q => f g k (by unfold cvS at q; omega), h.2.2.to fun k => f _ _ (by omega)⟩
/-- class and law agree, the draws are counted -/
def ST (P : PM) (M : GM) (t : Nat) : Prop := cI P M ∧ SV P M ∧ gI M 122 2 = nI t
theorem ST.c {P : PM} {M : GM} {t : Nat} (h : ST P M t) : gI M 122 3 = nI (sC1 P) ∧ gI M 122 4 = nI (sN P) ∧ sC1 P ≤ 40 ∧ sN P ≤ 30 := by
  obtain ⟨n1, n2, n3, n4⟩ := sN_of h.1.1.1
  exact ⟨(h.2.1 _ _ _ _ sm_c1).trans n3, (h.2.1 _ _ _ _ sm_c2).trans n1, n4, n2⟩
/-- the same but for rows just made and the counter -/
def Km (M M' : GM) : Prop := ∀ g k, g < 236 → ¬ (g = 122 ∧ k = 2) → gI M' g k = gI M g k
theorem Km.rf (M : GM) : Km M M := fun _ _ _ _ => rfl
theorem Km.tr {M M1 M2 : GM} (h : Km M M1) (k : Km M1 M2) : Km M M2 := fun g j h1 h2 => (k g j h1 h2).trans (h g j h1 h2)
theorem Km.d {M M1 M2 : GM} (h : Km M M1) (f : ∀ g k, ¬ (g = 122 ∧ k = 2) → gI M2 g k = gI M1 g k) : Km M M2 := fun g j h1 h2 => (f g j h2).trans (h g j h1 h2)
theorem Km.s {M M1 : GM} (h : Km M M1) {a b : Nat} {v : Int32} (ha : 236 ≤ a) : Km M (sI M1 a b v) := fun g j h1 h2 => by rw [gI_sI, if_neg (by omega)]; exact h g j h1 h2
theorem Km.sc {M M1 : GM} (h : Km M M1) {a n : Nat} {f : Nat → Int32} (ha : 236 ≤ a) : Km M (sC M1 a 0 n f) := fun g j h1 h2 => by rw [gI_sC, if_neg (by omega)]; exact h g j h1 h2
theorem Km.cI {P : PM} {M M' : GM} (h : Km M M') (hI : cI P M) : cI P M' := hI.lo fun g k q => h g k (by omega) (by omega)
theorem Km.SV {P : PM} {M M' : GM} (h : Km M M') (hV : SV P M) : SV P M' := hV.to fun a b q => h a b q.2.1 q.2.2
theorem gn_236 : gN 236 = 6 := by decide +kernel
theorem gn_237 : gN 237 = 4 := by decide +kernel
theorem gn_238 : gN 238 = 3 := by decide +kernel
theorem gn_239 : gN 239 = 3 := by decide +kernel
theorem gg_126 : gN 126 = 3 := by decide +kernel
theorem gg_125 : gN 125 = 30 := by decide +kernel
theorem gg_127 : gN 127 = 4 := by decide +kernel
theorem gg_128 : gN 128 = 4 := by decide +kernel
theorem gN_cor {k : Nat} (h : k < 40) : gN (133 + k) = 6 := (by decide +kernel : ∀ k, k < 40 → gN (133 + k) = 6) k h
theorem gN_pan {k : Nat} (h : k < 30) : gN (173 + k) = 4 := (by decide +kernel : ∀ k, k < 30 → gN (173 + k) = 4) k h
theorem gN_iss {k : Nat} (h : k < 30) : gN (203 + k) = 3 := (by decide +kernel : ∀ k, k < 30 → gN (203 + k) = 3) k h
theorem gN_cam {k : Nat} (h : k < 3) : gN (233 + k) = 4 := (by decide +kernel : ∀ k, k < 3 → gN (233 + k) = 4) k h
theorem gN_pat {k : Nat} (h : k < 4) : gN (129 + k) = 64 := (by decide +kernel : ∀ k, k < 4 → gN (129 + k) = 64) k h
theorem rr_123 (j : Nat) : gR 123 j = 133 + j := rfl
theorem rr_124 (j : Nat) : gR 124 j = 173 + j := rfl
theorem rr_125 (j : Nat) : gR 125 j = 203 + j := rfl
theorem rr_126 (j : Nat) : gR 126 j = 233 + j := rfl
theorem rr_127 (j : Nat) : gR 127 j = 129 + j := rfl
theorem n_s (n : Nat) : nI (n + 1) - 1 = nI n := by
  rw [← n_a n 1]
  exact Int32.add_sub_cancel _ _
section DRW
variable {M : GM} {F L9 t : Nat} {xs9 : Nat → Int32}
theorem p_draw {n : Int32} (hL : L9 ≤ 260) (ht : gI M 122 2 = nI t) (t2 : t < 1000000) (hn : 0 < n.toInt) : ∃ (v : Int32) (M' : GM), f_X11_draw F L9 xs9 n M = some (v, M') ∧ (0 ≤ v.toInt ∧ v.toInt < n.toInt) ∧ gI M' 122 2 = nI (t + 1) ∧ ∀ g k, ¬ (g = 122 ∧ k = 2) → gI M' g k = gI M g k := by
  have e24 : (nI t - nI t / (24 : Int32) * (24 : Int32)).toInt = (t : Int) % 24 := a_mod (n_int (by omega)) rfl (by omega) (by omega)
  have c : ∃ v2, f_L_cell F L9 xs9 (nI t - nI t / (24 : Int32) * (24 : Int32)) M = some v2 := by
    unfold f_L_cell
    by_cases h : Int32.ofNat L9 ≤ nI t - nI t / (24 : Int32) * (24 : Int32)
    · rw [if_pos h]; exact ⟨_, rfl⟩
    · rw [if_neg h, grd_t (a_gIn e24 (by omega) (by
        have h2 : ¬ ((L9 : Int) ≤ (t : Int) % 24) := fun q => h ((a_le (n_int (n := L9) (by omega)) e24).mpr q)
        omega))]
      exact ⟨_, rfl⟩
  obtain ⟨v2, h2⟩ := c
  have b : ∀ w : Int32, ∃ v, f_L_below F w n M = some v ∧ 0 ≤ v.toInt ∧ v.toInt < n.toInt := fun w => by
    unfold f_L_below
    rw [grd_t (by
      rw [decide_eq_true_eq]
      intro h
      rw [h] at hn
      exact absurd hn (by decide))]
    refine ⟨_, rfl, ?_⟩
    rw [a_mod (c := w &&& 2147483647) rfl rfl (a_and31 w) hn]
    have := Int.emod_nonneg (w &&& 2147483647).toInt (show n.toInt ≠ 0 by omega)
    have := Int.emod_lt_of_pos (w &&& 2147483647).toInt hn
    omega
  unfold f_X11_draw
  rw [ht, bndO_s _ h2]
  obtain ⟨v, h3, h4⟩ := b ((v2 >>> (((nI t / (24 : Int32)) - (nI t / (24 : Int32)) / (8 : Int32) * (8 : Int32)) &&& 31)) + ((43 : Int32) * nI t))
  rw [bndO_s _ h3]
  refine ⟨v, sI M 122 2 (nI t + 1), by rw [bnd_d, bnd_d], h4, by rw [gI_sI, if_pos ⟨rfl, rfl⟩]; exact n_a t 1, fun g k h => by rw [gI_sI, if_neg h]⟩
theorem p_between {lo hi : Int32} (hL : L9 ≤ 260) (ht : gI M 122 2 = nI t) (t2 : t < 1000000) (h1 : -100000 ≤ lo.toInt) (h2 : hi.toInt ≤ 100000) (h3 : lo.toInt ≤ hi.toInt) : ∃ (v : Int32) (M' : GM), f_X11_between F L9 xs9 lo hi M = some (v, M') ∧ (lo.toInt ≤ v.toInt ∧ v.toInt ≤ hi.toInt) ∧ gI M' 122 2 = nI (t + 1) ∧ ∀ g k, ¬ (g = 122 ∧ k = 2) → gI M' g k = gI M g k := by
  have e : ((hi - lo) + (1 : Int32)).toInt = hi.toInt - lo.toInt + 1 := a_add (a_sub rfl rfl (by omega) (by omega)) tv_1 (by omega) (by omega)
  obtain ⟨v, M', e1, e2, e3, e4⟩ := p_draw (F := F) (xs9 := xs9) (n := (hi - lo) + 1) hL ht t2 (by omega)
  unfold f_X11_between
  rw [bndO_s _ e1]
  have e5 : (lo + v).toInt = lo.toInt + v.toInt := a_add rfl rfl (by omega) (by omega)
  exact ⟨lo + v, M', rfl, by omega, e3, e4⟩
theorem p_colour (hL : L9 ≤ 260) (ht : gI M 122 2 = nI t) (t2 : t + 2 < 1000000) : ∃ (v : Int32) (M' : GM), f_X11_colour F L9 xs9 M = some (v, M') ∧ inR v 0 16777215 ∧ gI M' 122 2 = nI (t + 3) ∧ ∀ g k, ¬ (g = 122 ∧ k = 2) → gI M' g k = gI M g k := by
  have t256 : (256 : Int32).toInt = 256 := rfl
  obtain ⟨a, M1, a1, a2, a3, a4⟩ := p_draw (F := F) (xs9 := xs9) (n := 256) hL ht (by omega) (by decide)
  obtain ⟨b, M2, b1, b2, b3, b4⟩ := p_draw (F := F) (xs9 := xs9) (n := 256) hL a3 (by omega) (by decide)
  obtain ⟨c, M3, c1, c2, c3, c4⟩ := p_draw (F := F) (xs9 := xs9) (n := 256) hL b3 (by omega) (by decide)
  unfold f_X11_colour
  rw [bndO_s _ a1]
  show ∃ v M', bndO (f_X11_draw F L9 xs9 256 M1) _ = _ ∧ _
  rw [bndO_s _ b1]
  show ∃ v M', bndO (f_X11_draw F L9 xs9 256 M2) _ = _ ∧ _
  rw [bndO_s _ c1]
  rw [t256] at a2 b2 c2
  exact ⟨_, M3, rfl, a_col a2 b2 c2, c3, fun g k h => (c4 g k h).trans ((b4 g k h).trans (a4 g k h))⟩
end DRW
/-- a corner's number, as the law reckons it -/
theorem p_seen {P : PM} {M : GM} {F c r t : Nat} (hS : ST P M t) (hc : c < 40) (hr : r < 3) : ∃ v, f_X11_seen F (nI c) (nI r) M = some v ∧ v.toInt = sSeen P c r := by
  obtain ⟨hI, hV, -⟩ := hS
  have hO := hI.1.1
  have hcam := hO.2.2.2.2.2.2.2.2.2.2.2.2.2.1
  have hpl := hO.2.2.2.2.1
  have k0 : gI M (233 + r) 0 = P 137 (4 * r) := hV _ _ _ _ (sm_cam (by omega) (by omega) (by omega))
  have k1 : gI M (233 + r) 1 = P 137 (4 * r + 1) := hV _ _ _ _ (sm_cam (by omega) (by omega) (by omega))
  have k2 : gI M (233 + r) 2 = P 137 (4 * r + 2) := hV _ _ _ _ (sm_cam (by omega) (by omega) (by omega))
  have k3 : gI M (233 + r) 3 = P 137 (4 * r + 3) := hV _ _ _ _ (sm_cam (by omega) (by omega) (by omega))
  have x0 : gI M (133 + c) 0 = P 124 c := hV _ _ _ _ (sm_cor (by omega) (by omega) hc rfl)
  have x1 : gI M (133 + c) 1 = P 125 c := hV _ _ _ _ (sm_cor (by omega) (by omega) hc rfl)
  have x2 : gI M (133 + c) 2 = P 126 c := hV _ _ _ _ (sm_cor (by omega) (by omega) hc rfl)
  have b0 := hcam (4 * r)
  have b1 := hcam (4 * r + 1)
  have b2 := hcam (4 * r + 2)
  have b3 := hcam (4 * r + 3)
  have p0 := hpl 0 c (by omega)
  have p1 := hpl 1 c (by omega)
  have p2 := hpl 2 c (by omega)
  have m0 := a_mb b0.1 b0.2 p0.1 p0.2
  have m1 := a_mb b1.1 b1.2 p1.1 p1.2
  have m2 := a_mb b2.1 b2.2 p2.1 p2.2
  simp only [Nat.reduceAdd, Nat.add_zero] at m0 m1 m2
  have e0 := a_mul64 (a_64 (a := P 137 (4 * r)) rfl) (a_64 (a := P 124 c) rfl) (by omega) (by omega)
  have e1 := a_mul64 (a_64 (a := P 137 (4 * r + 1)) rfl) (a_64 (a := P 125 c) rfl) (by omega) (by omega)
  have e2 := a_mul64 (a_64 (a := P 137 (4 * r + 2)) rfl) (a_64 (a := P 126 c) rfl) (by omega) (by omega)
  have e3 := a_add64 (a_add64 e0 e1 (by omega) (by omega)) e2 (by omega) (by omega)
  obtain ⟨q, q1, q2⟩ := a_fdiv64 F M e3 (show (1024 : Int64).toInt = 1024 from rfl) (by omega) (by omega) (by omega)
  unfold f_X11_seen
  rw [gg_126, gn_123, n_in hr (by omega), n_in hc (by omega), n_cl (show r < 2147483648 by omega), n_cl (show c < 2147483648 by omega)]
  simp only [grdT, bnd_d, rr_126, rr_123]
  rw [gN_cam hr, gN_cor hc, show gIn (0 : Int32) 4 = true by decide, show gIn (1 : Int32) 4 = true by decide, show gIn (2 : Int32) 4 = true by decide, show gIn (3 : Int32) 4 = true by decide, show gIn (0 : Int32) 6 = true by decide, show gIn (1 : Int32) 6 = true by decide, show gIn (2 : Int32) 6 = true by decide]
  simp only [grdT]
  rw [k0, k1, k2, k3, x0, x1, x2, bndO_s _ q1]
  refine ⟨_, rfl, ?_⟩
  have e4 := a_32 q2 (by omega) (by omega)
  unfold sSeen
  exact a_add e4 rfl (by omega) (by omega)
theorem p_front {P : PM} {M : GM} {F t : Nat} (hF : 3000 ≤ F) (hS : ST P M t) : f_X11_inFront F M = some (nI (sFront P)) := by
  obtain ⟨c3, -, c40, -⟩ := hS.c
  have nr : gI M 122 11 = P 122 3 := hS.2.1 _ _ _ _ sm_nr
  have L : ∃ q, lp_X11_inFront_4 F M F 0 0 = some q ∧ q = nI (sFront P) := by
    refine run_up (fun n (s : Int32 × Int32) => lp_X11_inFront_4 F M n s.1 s.2) (fun i s => s.2 = nI i ∧ s.1 = nI (cntB (fun c => decide (sNear P ≤ sSeen P c 2)) i)) _ 0 (sC1 P) F (by omega) (by omega) (s := (0, 0)) ⟨rfl, rfl⟩ ?_ ?_
    · rintro i ⟨c, x⟩ - hi ⟨rfl, rfl⟩
      obtain ⟨v, v1, v2⟩ := p_seen (F := F) (c := i) (r := 2) hS (by omega) (by omega)
      refine ⟨(nI (cntB (fun c => decide (sNear P ≤ sSeen P c 2)) (i + 1)), nI (i + 1)), ⟨rfl, rfl⟩, fun n => ?_⟩
      show lp_X11_inFront_4 F M (n + 1) (nI (cntB (fun c => decide (sNear P ≤ sSeen P c 2)) i)) (nI i) = lp_X11_inFront_4 F M n (nI (cntB (fun c => decide (sNear P ≤ sSeen P c 2)) i + if decide (sNear P ≤ sSeen P i 2) = true then 1 else 0)) (nI (i + 1))
      rw [el_X11_inFront_4]
      unfold st_X11_inFront_4
      rw [c3, if_neg (by rw [n_le (by omega) (by omega)]; omega), i_2, bndO_s _ v1, nr]
      have q : P 122 3 ≤ v ↔ sNear P ≤ sSeen P i 2 := by rw [a_le (show (P 122 3).toInt = sNear P from rfl) v2]
      by_cases w : sNear P ≤ sSeen P i 2
      · rw [if_pos (q.mpr w), if_pos (decide_eq_true w), bnd_d, bnd_d, i_1, n_a, n_a]
      · rw [if_neg (fun h => w (q.mp h)), if_neg (by rw [decide_eq_true_eq]; exact w), bnd_d, bnd_d, i_0, i_1, n_a, n_a]
    · rintro ⟨c, x⟩ ⟨rfl, rfl⟩
      refine ⟨_, rfl, fun n => ?_⟩
      show lp_X11_inFront_4 F M (n + 1) _ (nI _) = _
      rw [el_X11_inFront_4]
      unfold st_X11_inFront_4
      rw [c3, if_pos (by rw [n_le (by omega) (by omega)]; omega)]
      rfl
  obtain ⟨q, e, rfl⟩ := L
  unfold f_X11_inFront
  rw [bnd_d, bnd_d, bndO_s _ e]
