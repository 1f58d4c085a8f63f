/-! PURE PART: arithmetic of the machine's numbers, read as integers -/
theorem a_bm32 {n : Int} (h1 : -2147483648 ≤ n) (h2 : n ≤ 2147483647) : n.bmod (2 ^ 32) = n := Int.bmod_eq_of_le (by omega) (by omega)
theorem a_bm64 {n : Int} (h1 : -9223372036854775808 ≤ n) (h2 : n ≤ 9223372036854775807) : n.bmod (2 ^ 64) = n := Int.bmod_eq_of_le (by omega) (by omega)
theorem a_lo (a : Int32) : -2147483648 ≤ a.toInt := by have := a.le_toInt; omega
theorem a_hi (a : Int32) : a.toInt ≤ 2147483647 := by have := a.toInt_lt; omega
theorem a_lo64 (a : Int64) : -9223372036854775808 ≤ a.toInt := by have := a.le_toInt; omega
theorem a_hi64 (a : Int64) : a.toInt ≤ 9223372036854775807 := by have := a.toInt_lt; omega
theorem a_ext {a b : Int32} (h : a.toInt = b.toInt) : a = b := Int32.toInt_inj.mp h
theorem a_ext64 {a b : Int64} (h : a.toInt = b.toInt) : a = b := Int64.toInt_inj.mp h
theorem a_of {a : Int32} {x : Int} (h : a.toInt = x) : a = Int32.ofInt x := by rw [← h, Int32.ofInt_toInt]
theorem a_ofI {x : Int} (h1 : -2147483648 ≤ x) (h2 : x ≤ 2147483647) : (Int32.ofInt x).toInt = x := Int32.toInt_ofInt_of_le (by omega) (by omega)
theorem a_ofI64 {x : Int} (h1 : -9223372036854775808 ≤ x) (h2 : x ≤ 9223372036854775807) : (Int64.ofInt x).toInt = x := Int64.toInt_ofInt_of_le (by omega) (by omega)
theorem a_add {a b : Int32} {x y : Int} (ha : a.toInt = x) (hb : b.toInt = y) (h1 : -2147483648 ≤ x + y) (h2 : x + y ≤ 2147483647) : (a + b).toInt = x + y := by rw [Int32.toInt_add, ha, hb, a_bm32 h1 h2]
theorem a_sub {a b : Int32} {x y : Int} (ha : a.toInt = x) (hb : b.toInt = y) (h1 : -2147483648 ≤ x - y) (h2 : x - y ≤ 2147483647) : (a - b).toInt = x - y := by rw [Int32.toInt_sub, ha, hb, a_bm32 h1 h2]
theorem a_mul {a b : Int32} {x y : Int} (ha : a.toInt = x) (hb : b.toInt = y) (h1 : -2147483648 ≤ x * y) (h2 : x * y ≤ 2147483647) : (a * b).toInt = x * y := by rw [Int32.toInt_mul, ha, hb, a_bm32 h1 h2]
theorem a_add64 {a b : Int64} {x y : Int} (ha : a.toInt = x) (hb : b.toInt = y) (h1 : -9223372036854775808 ≤ x + y) (h2 : x + y ≤ 9223372036854775807) : (a + b).toInt = x + y := by rw [Int64.toInt_add, ha, hb, a_bm64 h1 h2]
theorem a_sub64 {a b : Int64} {x y : Int} (ha : a.toInt = x) (hb : b.toInt = y) (h1 : -9223372036854775808 ≤ x - y) (h2 : x - y ≤ 9223372036854775807) : (a - b).toInt = x - y := by rw [Int64.toInt_sub, ha, hb, a_bm64 h1 h2]
theorem a_mul64 {a b : Int64} {x y : Int} (ha : a.toInt = x) (hb : b.toInt = y) (h1 : -9223372036854775808 ≤ x * y) (h2 : x * y ≤ 9223372036854775807) : (a * b).toInt = x * y := by rw [Int64.toInt_mul, ha, hb, a_bm64 h1 h2]
theorem a_neg64 {a : Int64} {x : Int} (ha : a.toInt = x) (h1 : -9223372036854775808 < x) : (-a).toInt = -x := by
  rw [Int64.toInt_neg, ha, a_bm64 (by have := a_hi64 a; omega) (by omega)]
theorem a_64 {a : Int32} {x : Int} (ha : a.toInt = x) : a.toInt64.toInt = x := by rw [Int32.toInt_toInt64, ha]
theorem a_32 {a : Int64} {x : Int} (ha : a.toInt = x) (h1 : -2147483648 ≤ x) (h2 : x ≤ 2147483647) : a.toInt32.toInt = x := by rw [Int64.toInt_toInt32, ha, a_bm32 h1 h2]
theorem a_lt {a b : Int32} {x y : Int} (ha : a.toInt = x) (hb : b.toInt = y) : a < b ↔ x < y := by rw [Int32.lt_iff_toInt_lt, ha, hb]
theorem a_le {a b : Int32} {x y : Int} (ha : a.toInt = x) (hb : b.toInt = y) : a ≤ b ↔ x ≤ y := by rw [Int32.le_iff_toInt_le, ha, hb]
theorem a_eq {a b : Int32} {x y : Int} (ha : a.toInt = x) (hb : b.toInt = y) : a = b ↔ x = y := by rw [← Int32.toInt_inj, ha, hb]
theorem a_lt64 {a b : Int64} {x y : Int} (ha : a.toInt = x) (hb : b.toInt = y) : a < b ↔ x < y := by rw [Int64.lt_iff_toInt_lt, ha, hb]
theorem a_le64 {a b : Int64} {x y : Int} (ha : a.toInt = x) (hb : b.toInt = y) : a ≤ b ↔ x ≤ y := by rw [Int64.le_iff_toInt_le, ha, hb]
theorem a_eq64 {a b : Int64} {x y : Int} (ha : a.toInt = x) (hb : b.toInt = y) : a = b ↔ x = y := by rw [← Int64.toInt_inj, ha, hb]
theorem a_0le (x : Int) : 0 ≤ x ∨ x < 0 := by omega
/-- quotients: the divisor is more than 0 -/
theorem a_div {a b : Int32} {x y : Int} (ha : a.toInt = x) (hb : b.toInt = y) (h0 : 0 ≤ x) (hy : 0 < y) : (a / b).toInt = x / y := by
  have hx := a_hi a
  rw [Int32.toInt_div, ha, hb, Int.tdiv_eq_ediv_of_nonneg h0, a_bm32]
  · have := Int.ediv_nonneg h0 (Int.le_of_lt hy); omega
  · have := Int.ediv_le_self y h0; omega
theorem a_div64 {a b : Int64} {x y : Int} (ha : a.toInt = x) (hb : b.toInt = y) (h0 : 0 ≤ x) (hy : 0 < y) : (a / b).toInt = x / y := by
  have hx := a_hi64 a
  rw [Int64.toInt_div, ha, hb, Int.tdiv_eq_ediv_of_nonneg h0, a_bm64]
  · have := Int.ediv_nonneg h0 (Int.le_of_lt hy); omega
  · have := Int.ediv_le_self y h0; omega
theorem a_edb {x y L : Int} (hy : 0 < y) (h1 : -L ≤ x) (h2 : x ≤ L) : -L ≤ x / y ∧ x / y ≤ L := by
  constructor
  · rcases a_0le x with h | h
    · have := Int.ediv_nonneg h (Int.le_of_lt hy); omega
    · have := Int.le_ediv_of_mul_le (a := -L) (b := x) (c := y) hy (by
        have : -L * y ≤ -L * 1 := Int.mul_le_mul_of_nonpos_left (by omega) (by omega)
        omega)
      exact this
  · rcases a_0le x with h | h
    · have := Int.ediv_le_self y h; omega
    · have := Int.ediv_neg_of_neg_of_pos h hy; omega
theorem a_tdiv {x y : Int} (hy : 0 < y) : x.tdiv y = x / y + if 0 ≤ x ∨ y ∣ x then 0 else 1 := by
  rw [Int.tdiv_eq_ediv, Int.sign_eq_one_of_pos hy]
/-- what the machine's quotient, mended downwards, is -/
theorem a_fl {x y q : Int} (hy : 0 < y) (hq : q = x.tdiv y) : (if 0 ≤ x ∨ q * y = x then q else q - 1) = x / y := by
  rw [a_tdiv hy] at hq
  have key := Int.mul_ediv_add_emod x y
  by_cases h : 0 ≤ x ∨ y ∣ x
  · rw [if_pos h, Int.add_zero] at hq
    by_cases h2 : 0 ≤ x ∨ q * y = x
    · rw [if_pos h2, hq]
    · exfalso
      apply h2
      rcases h with h | h
      · exact Or.inl h
      · right; rw [hq, Int.ediv_mul_cancel h]
  · rw [if_neg h] at hq
    rw [if_neg]
    · omega
    · intro h2
      rcases h2 with h2 | h2
      · exact h (Or.inl h2)
      · exact h (Or.inr ⟨q, by rw [← h2, Int.mul_comm]⟩)
theorem a_xor32 (a b : Int32) (hb : 0 < b.toInt) : 0 ≤ (a ^^^ b) ↔ 0 ≤ a.toInt := by
  have e (c : Int32) : 0 ≤ c.toInt ↔ c.toBitVec.msb = false := by
    have : c.toInt = c.toBitVec.toInt := rfl
    rw [this, BitVec.msb_eq_toInt]
    simp
  rw [Int32.le_iff_toInt_le, show (0 : Int32).toInt = 0 from rfl, e, e, Int32.toBitVec_xor, BitVec.msb_xor]
  have hb2 := (e b).mp (by omega)
  rw [hb2]; simp
theorem a_xor64 (a b : Int64) (hb : 0 < b.toInt) : 0 ≤ (a ^^^ b) ↔ 0 ≤ a.toInt := by
  have e (c : Int64) : 0 ≤ c.toInt ↔ c.toBitVec.msb = false := by
    have : c.toInt = c.toBitVec.toInt := rfl
    rw [this, BitVec.msb_eq_toInt]
    simp
  rw [Int64.le_iff_toInt_le, show (0 : Int64).toInt = 0 from rfl, e, e, Int64.toBitVec_xor, BitVec.msb_xor]
  have hb2 := (e b).mp (by omega)
  rw [hb2]; simp
theorem a_fdiv32 (F : Nat) (M : GM) {a b : Int32} {x y : Int} (ha : a.toInt = x) (hb : b.toInt = y) (hy : 0 < y) : ∃ q : Int32, f_J9_floorDiv_7cf53 F a b M = some q ∧ q.toInt = x / y := by
  have hb0 : ¬ b = 0 := fun h => by rw [h] at hb; have : (0 : Int32).toInt = 0 := rfl; omega
  have hbd := a_edb hy (L := 2147483648) (x := x) (by have := a_lo a; omega) (by have := a_hi a; omega)
  unfold f_J9_floorDiv_7cf53
  rw [show decide (¬ b = 0) = true by simp [hb0]]
  show ∃ q, (if 0 ≤ (a ^^^ b) then some (a / b) else if (a / b) * b = a then some (a / b) else some (a / b - 1)) = some q ∧ _
  have hq : (a / b).toInt = x.tdiv y := by
    rw [Int32.toInt_div, ha, hb]
    rcases Int.lt_or_le y 2 with h | h
    · have : y = 1 := by omega
      subst this
      rw [Int.tdiv_one, ← ha, a_bm32 (a_lo a) (a_hi a)]
    · refine a_bm32 ?_ ?_
      · rw [a_tdiv hy]; split <;> omega
      · have hd : x / y * y ≤ x := Int.ediv_mul_le x (by omega)
        have hxx := a_hi a
        rw [a_tdiv hy]
        have : x / y ≤ 2147483647 := by
          rcases a_0le x with h0 | h0
          · have := Int.ediv_le_self y h0; omega
          · have := Int.ediv_neg_of_neg_of_pos h0 hy; omega
        split
        · omega
        · rename_i hn
          have h0 : x < 0 := by rcases Int.lt_or_le x 0 with h0 | h0; exact h0; exact absurd (Or.inl h0) hn
          have := Int.ediv_neg_of_neg_of_pos h0 hy
          omega
  have hm : (a / b) * b = a ↔ x.tdiv y * y = x := by
    constructor
    · intro h
      have h3 := congrArg Int32.toInt h
      rw [Int32.toInt_mul, hq, hb, ha] at h3
      have ht := a_tdiv (x := x) hy
      have hx1 := a_lo a
      have hx2 := a_hi a
      have hr := Int.emod_add_mul_ediv x y
      have hr1 := Int.emod_nonneg x (show y ≠ 0 by omega)
      have hr2 := Int.emod_lt_of_pos x hy
      have hyb := a_hi b
      have hc : y * (x / y) = (x / y) * y := Int.mul_comm _ _
      have hb1 : -2147483648 ≤ x.tdiv y * y ∧ x.tdiv y * y ≤ 2147483647 := by
        rw [ht]
        split
        · rename_i hh
          rw [Int.add_zero]
          rcases hh with hh | hh
          · have : 0 ≤ x / y * y := Int.mul_nonneg (Int.ediv_nonneg hh (by omega)) (by omega)
            omega
          · rw [Int.ediv_mul_cancel hh]; omega
        · rename_i hn
          have h0 : x < 0 := by rcases Int.lt_or_le x 0 with h0 | h0; exact h0; exact absurd (Or.inl h0) hn
          have h1 := Int.ediv_neg_of_neg_of_pos h0 hy
          have : (x / y + 1) * y ≤ 0 := Int.mul_nonpos_of_nonpos_of_nonneg (by omega) (by omega)
          rw [Int.add_mul, Int.one_mul] at this ⊢
          omega
      rw [a_bm32 hb1.1 hb1.2] at h3
      exact h3
    · intro h
      apply a_ext
      rw [Int32.toInt_mul, hq, hb, h, a_bm32 (by have := a_lo a; omega) (by have := a_hi a; omega), ha]
  have hf := a_fl hy (x := x) rfl
  by_cases h1 : 0 ≤ (a ^^^ b)
  · rw [if_pos h1]
    have h0 := (a_xor32 a b (by omega)).mp h1
    rw [if_pos (Or.inl (by omega))] at hf
    exact ⟨_, rfl, by rw [hq, hf]⟩
  · rw [if_neg h1]
    have h0 : ¬ 0 ≤ x := fun h => h1 ((a_xor32 a b (by omega)).mpr (by omega))
    by_cases h2 : (a / b) * b = a
    · rw [if_pos h2]
      rw [if_pos (Or.inr (hm.mp h2))] at hf
      exact ⟨_, rfl, by rw [hq, hf]⟩
    · rw [if_neg h2]
      rw [if_neg (by intro h; rcases h with h | h; exact h0 h; exact h2 (hm.mpr h))] at hf
      have e1 := hbd.1
      have e2 := hbd.2
      have e3 := Int.ediv_neg_of_neg_of_pos (show x < 0 by omega) hy
      rw [← hf] at e1 e2 e3
      exact ⟨_, rfl, by rw [a_sub hq (show (1 : Int32).toInt = 1 from rfl) e1 (by omega), hf]⟩
theorem a_quot64 {a b : Int64} {x y : Int} (ha : a.toInt = x) (hb : b.toInt = y) (hy : 0 < y) (h1 : -2305843009213693952 ≤ x) (h2 : x ≤ 2305843009213693952) : (a / b).toInt = x.tdiv y ∧ -2305843009213693952 ≤ x.tdiv y * y ∧ x.tdiv y * y ≤ 2305843009213693952 ∧ -2305843009213693952 ≤ x.tdiv y ∧ x.tdiv y ≤ 2305843009213693952 := by
  have hbd := a_edb hy (L := 2305843009213693952) (x := x) h1 h2
  have ht := a_tdiv (x := x) hy
  have hr := Int.emod_add_mul_ediv x y
  have hr1 := Int.emod_nonneg x (show y ≠ 0 by omega)
  have hc : y * (x / y) = (x / y) * y := Int.mul_comm _ _
  have k : -2305843009213693952 ≤ x.tdiv y * y ∧ x.tdiv y * y ≤ 2305843009213693952 ∧ -2305843009213693952 ≤ x.tdiv y ∧ x.tdiv y ≤ 2305843009213693952 := by
    rw [ht]
    split
    · rename_i hh
      rw [Int.add_zero]
      rcases hh with hh | hh
      · have : 0 ≤ x / y * y := Int.mul_nonneg (Int.ediv_nonneg hh (by omega)) (by omega)
        omega
      · rw [Int.ediv_mul_cancel hh]; omega
    · rename_i hn
      have h0 : x < 0 := by rcases Int.lt_or_le x 0 with h0 | h0; exact h0; exact absurd (Or.inl h0) hn
      have h9 := Int.ediv_neg_of_neg_of_pos h0 hy
      have hr2 := Int.emod_lt_of_pos x hy
      have : (x / y + 1) * y ≤ 0 := Int.mul_nonpos_of_nonpos_of_nonneg (by omega) (by omega)
      rw [Int.add_mul, Int.one_mul] at this ⊢
      omega
  exact ⟨by rw [Int64.toInt_div, ha, hb, a_bm64 (by omega) (by omega)], k⟩
theorem a_fdiv64 (F : Nat) (M : GM) {a b : Int64} {x y : Int} (ha : a.toInt = x) (hb : b.toInt = y) (hy : 0 < y) (h1 : -2305843009213693952 ≤ x) (h2 : x ≤ 2305843009213693952) : ∃ q : Int64, f_J9_floorDiv_f86c9 F a b M = some q ∧ q.toInt = x / y := by
  have hb0 : ¬ b = 0 := fun h => by rw [h] at hb; have : (0 : Int64).toInt = 0 := rfl; omega
  obtain ⟨hq, k1, k2, k3, k4⟩ := a_quot64 ha hb hy h1 h2
  unfold f_J9_floorDiv_f86c9
  rw [show decide (¬ b = 0) = true by simp [hb0]]
  show ∃ q, (if 0 ≤ lg_cmp (a ^^^ b) 0 then some (a / b) else if lg_cmp ((a / b) * b) a = 0 then some (a / b) else some (a / b - 1)) = some q ∧ _
  have hm : (a / b) * b = a ↔ x.tdiv y * y = x := by
    rw [a_eq64 (a_mul64 hq hb (by omega) (by omega)) ha]
  have hf := a_fl hy (x := x) rfl
  by_cases h3 : 0 ≤ (a ^^^ b)
  · rw [if_pos ((lg_cmp_ge _ _).mpr h3)]
    have h0 := (a_xor64 a b (by omega)).mp h3
    rw [if_pos (Or.inl (by omega))] at hf
    exact ⟨_, rfl, by rw [hq, hf]⟩
  · rw [if_neg (fun h => h3 ((lg_cmp_ge _ _).mp h))]
    have h0 : ¬ 0 ≤ x := fun h => h3 ((a_xor64 a b (by omega)).mpr (by omega))
    by_cases h4 : (a / b) * b = a
    · rw [if_pos ((lg_cmp_eq _ _).mpr h4)]
      rw [if_pos (Or.inr (hm.mp h4))] at hf
      exact ⟨_, rfl, by rw [hq, hf]⟩
    · rw [if_neg (fun h => h4 ((lg_cmp_eq _ _).mp h))]
      rw [if_neg (by intro h; rcases h with h | h; exact h0 h; exact h4 (hm.mpr h))] at hf
      exact ⟨_, rfl, by rw [a_sub64 hq (show (1 : Int64).toInt = 1 from rfl) (by omega) (by omega), hf]⟩
theorem a_cutDown (F : Nat) (M : GM) {a b : Int64} {x y : Int} (ha : a.toInt = x) (hb : b.toInt = y) (hy : 0 < y) (h1 : -2305843009213693952 ≤ x) (h2 : x ≤ 2305843009213693952) : ∃ q : Int64, f_X10_cutDown F a b M = some q ∧ q.toInt = x / y := by
  obtain ⟨q, hq, hv⟩ := a_fdiv64 F M ha hb hy h1 h2
  refine ⟨q, ?_, hv⟩
  unfold f_X10_cutDown
  rw [if_neg (by rw [lg_cmp_eq]; intro h; rw [h] at hb; have : (0 : Int64).toInt = 0 := rfl; omega), hq]
  rfl
/-- bits -/
theorem a_shr (c : Int32) (n : Nat) {k : Int32} (hk : (c >>> (k &&& 31)).toBitVec = c.toBitVec.sshiftRight n) : (c >>> (k &&& 31)).toInt = c.toInt / 2 ^ n := by
  show (c >>> (k &&& 31)).toBitVec.toInt = _
  rw [hk, BitVec.toInt_sshiftRight, Int.shiftRight_eq_div_pow]
  rfl
theorem a_shr16 (c : Int32) : (c >>> ((16 : Int32) &&& 31)).toInt = c.toInt / 65536 := a_shr c 16 rfl
theorem a_shr8 (c : Int32) : (c >>> ((8 : Int32) &&& 31)).toInt = c.toInt / 256 := a_shr c 8 rfl
theorem a_shr10 (c : Int32) : (c >>> ((10 : Int32) &&& 31)).toInt = c.toInt / 1024 := a_shr c 10 rfl
theorem a_and255 (c : Int32) : (c &&& (255 : Int32)).toInt = c.toInt % 256 := by
  have h1 : (c &&& (255 : Int32)).toBitVec.toNat = c.toBitVec.toNat % 256 := by
    show (c.toBitVec &&& (255 : Int32).toBitVec).toNat = _
    rw [BitVec.toNat_and]
    show c.toBitVec.toNat &&& (2 ^ 8 - 1) = _
    rw [Nat.and_two_pow_sub_one_eq_mod]
  have h2 : (c &&& (255 : Int32)).toInt = ((c.toBitVec.toNat % 256 : Nat) : Int) := by
    show (c &&& (255 : Int32)).toBitVec.toInt = _
    rw [BitVec.toInt_eq_toNat_cond, h1, if_pos (by omega)]
  have h3 : c.toInt = c.toBitVec.toInt := rfl
  rw [h2, h3, BitVec.toInt_eq_toNat_cond]
  split <;> omega
theorem a_redC (c : Int32) (h0 : 0 ≤ c.toInt) (h1 : c.toInt ≤ 16777215) : (f_X10_redOf c).toInt = c.toInt / 65536 := by
  unfold f_X10_redOf; rw [a_and255, a_shr16]; omega
theorem a_greenC (c : Int32) : (f_X10_greenOf c).toInt = c.toInt / 256 % 256 := by unfold f_X10_greenOf; rw [a_and255, a_shr8]
theorem a_blueC (c : Int32) : (f_X10_blueOf c).toInt = c.toInt % 256 := by unfold f_X10_blueOf; rw [a_and255]
theorem a_mixC {r g b : Int32} {x y z : Int} (hr : r.toInt = x) (hg : g.toInt = y) (hb : b.toInt = z) (x0 : 0 ≤ x) (x1 : x ≤ 255) (y0 : 0 ≤ y) (y1 : y ≤ 255) (z0 : 0 ≤ z) (z1 : z ≤ 255) : (f_X10_mixed r g b).toInt = x * 65536 + y * 256 + z := by
  unfold f_X10_mixed
  exact a_add (a_add (a_mul hr (show (65536 : Int32).toInt = 65536 from rfl) (by omega) (by omega)) (a_mul hg (show (256 : Int32).toInt = 256 from rfl) (by omega) (by omega)) (by omega) (by omega)) hb (by omega) (by omega)
theorem a_nat (c : Int32) (h : 0 ≤ c.toInt) : (c.toBitVec.toNat : Int) = c.toInt := by
  have h3 : c.toInt = c.toBitVec.toInt := rfl
  rw [h3, BitVec.toInt_eq_toNat_cond] at h ⊢
  have := c.toBitVec.isLt
  split
  · rfl
  · rename_i hh; rw [if_neg hh] at h; omega
theorem a_ushr7 {c : Int32} (h0 : 0 ≤ c.toInt) : ((c.toUInt32 >>> ((7 : Int32).toUInt32 &&& Int32.toUInt32 31)).toInt32).toInt = c.toInt / 128 := by
  have nc := a_nat c h0
  have hb := a_hi c
  have e : ((c.toUInt32 >>> ((7 : Int32).toUInt32 &&& Int32.toUInt32 31)).toInt32).toBitVec = c.toBitVec >>> 7 := rfl
  have h3 : ((c.toUInt32 >>> ((7 : Int32).toUInt32 &&& Int32.toUInt32 31)).toInt32).toInt = (c.toBitVec >>> 7).toInt := by rw [← e]; rfl
  rw [h3, BitVec.toInt_eq_toNat_cond, BitVec.toNat_ushiftRight, Nat.shiftRight_eq_div_pow, if_pos (by omega)]
  omega
theorem a_mod {c k : Int32} {x y : Int} (hc : c.toInt = x) (hk : k.toInt = y) (h0 : 0 ≤ x) (hy : 0 < y) : (c - c / k * k).toInt = x % y := by
  have hq := a_div hc hk h0 hy
  have h1 := Int.emod_add_mul_ediv x y
  have h2 := Int.emod_nonneg x (show y ≠ 0 by omega)
  have h3 : y * (x / y) = (x / y) * y := Int.mul_comm _ _
  have h4 : 0 ≤ x / y * y := Int.mul_nonneg (Int.ediv_nonneg h0 (by omega)) (by omega)
  have h5 := a_hi c
  rw [a_sub hc (a_mul hq hk (by omega) (by omega)) (by omega) (by omega)]
  omega
/-- a product of bounded factors -/
theorem a_mb {a b A B : Int} (h1 : -A ≤ a) (h2 : a ≤ A) (h3 : -B ≤ b) (h4 : b ≤ B) : -(A * B) ≤ a * b ∧ a * b ≤ A * B := by
  have k1 : a.natAbs ≤ A.toNat := by omega
  have k2 : b.natAbs ≤ B.toNat := by omega
  have k3 := Nat.mul_le_mul k1 k2
  rw [← Int.natAbs_mul] at k3
  have k4 : ((A.toNat * B.toNat : Nat) : Int) = A * B := by
    rw [Int.natCast_mul, Int.toNat_of_nonneg (by omega), Int.toNat_of_nonneg (by omega)]
  omega
theorem a_mn {a b A B : Int} (h1 : 0 ≤ a) (h2 : a ≤ A) (h3 : 0 ≤ b) (h4 : b ≤ B) : 0 ≤ a * b ∧ a * b ≤ A * B := ⟨Int.mul_nonneg h1 h3, Int.mul_le_mul h2 h4 h3 (Int.le_trans h1 h2)⟩
theorem a_gIn {i : Int32} {x : Int} {n : Nat} (h : i.toInt = x) (h0 : 0 ≤ x) (h1 : x < n) : gIn i n = true := by
  unfold gIn
  have e : i.toNatClampNeg = x.toNat := by rw [← h]; rfl
  have h2 : ¬ i < 0 := by rw [a_lt h (show (0 : Int32).toInt = 0 from rfl)]; omega
  rw [e]
  simp [h2]
  omega
theorem a_nat32 {i : Int32} {x : Int} (h : i.toInt = x) : i.toNatClampNeg = x.toNat := by rw [← h]; rfl
