/-! PURE PART: cells set in step by both; what holds of each cell; how a call ends -/
theorem u2_at {α : Type} (P : Nat → Nat → α) (g k g9 k9 : Nat) (v : α) : u2 P g k v g9 k9 = if g9 = g ∧ k9 = k then v else P g9 k9 := rfl
def okC (g k : Nat) (v : Int32) : Prop :=
  (g = 122 ∧ k = 1 → ∃ c : Nat, v = nI c ∧ c ≤ 40) ∧ (g = 122 ∧ k = 2 → ∃ c : Nat, v = nI c ∧ c ≤ 30) ∧ (g = 122 ∧ k = 3 → 1 ≤ v.toInt ∧ v.toInt ≤ 1000) ∧ (g = 122 ∧ k = 4 → 1 ≤ v.toInt ∧ v.toInt ≤ 500) ∧ (g = 122 ∧ k = 5 → 0 ≤ v.toInt ∧ v.toInt ≤ 16777215) ∧
  (124 ≤ g ∧ g ≤ 126 → -2000 ≤ v.toInt ∧ v.toInt ≤ 2000) ∧ (g = 127 → 0 ≤ v.toInt ∧ v.toInt ≤ 16777215) ∧ (g = 128 → 0 ≤ v.toInt ∧ v.toInt ≤ 2047) ∧ (g = 129 → 0 ≤ v.toInt ∧ v.toInt ≤ 2047) ∧ (g = 130 → 0 ≤ v.toInt ∧ v.toInt < 40) ∧ (g = 131 → -1 ≤ v.toInt ∧ v.toInt ≤ 3) ∧
  (132 ≤ g ∧ g ≤ 134 → v = 0 ∨ v = 1) ∧ (g = 136 → v = 0 ∨ v = 1) ∧ (g = 135 → 0 ≤ v.toInt ∧ v.toInt ≤ 16777215) ∧ (g = 137 → -5000 ≤ v.toInt ∧ v.toInt ≤ 5000) ∧ (g = 138 → 0 ≤ v.toInt ∧ v.toInt ≤ 16777215)
theorem OK_iff (P : PM) : OK P ↔ ∀ g k, okC g k (P g k) := by
  constructor
  · rintro ⟨⟨c, n, a1, a2, a3, a4⟩, b1, b2, b3, b4, b5, b6, b7, b8, b9, b10, b11, b12, b13, b14⟩ g k
    refine ⟨?_, ?_, ?_, ?_, ?_, fun h => ?_, ?_, ?_, ?_, ?_, ?_, fun h => b10 g k h.1 h.2, ?_, ?_, ?_, ?_⟩
    · rintro ⟨rfl, rfl⟩; exact ⟨c, a1, a2⟩
    · rintro ⟨rfl, rfl⟩; exact ⟨n, a3, a4⟩
    · rintro ⟨rfl, rfl⟩; exact b1
    · rintro ⟨rfl, rfl⟩; exact b2
    · rintro ⟨rfl, rfl⟩; exact b3
    · have := b4 (g - 124) k (by omega)
      rw [show 124 + (g - 124) = g by omega] at this; exact this
    · rintro rfl; exact b5 k
    · rintro rfl; exact b6 k
    · rintro rfl; exact b7 k
    · rintro rfl; exact b8 k
    · rintro rfl; exact b9 k
    · rintro rfl; exact b11 k
    · rintro rfl; exact b12 k
    · rintro rfl; exact b13 k
    · rintro rfl; exact b14 k
  · intro h
    obtain ⟨c, c1, c2⟩ := (h 122 1).1 ⟨rfl, rfl⟩
    obtain ⟨n, n1, n2⟩ := (h 122 2).2.1 ⟨rfl, rfl⟩
    refine ⟨⟨c, n, c1, c2, n1, n2⟩, (h 122 3).2.2.1 ⟨rfl, rfl⟩, (h 122 4).2.2.2.1 ⟨rfl, rfl⟩, (h 122 5).2.2.2.2.1 ⟨rfl, rfl⟩, fun a c ha => (h (124 + a) c).2.2.2.2.2.1 (by omega), fun k => (h 127 k).2.2.2.2.2.2.1 rfl, fun k => (h 128 k).2.2.2.2.2.2.2.1 rfl, fun k => (h 129 k).2.2.2.2.2.2.2.2.1 rfl, fun k => (h 130 k).2.2.2.2.2.2.2.2.2.1 rfl, fun k => (h 131 k).2.2.2.2.2.2.2.2.2.2.1 rfl, fun g k h1 h2 => (h g k).2.2.2.2.2.2.2.2.2.2.2.1 ⟨h1, h2⟩, fun k => (h 136 k).2.2.2.2.2.2.2.2.2.2.2.2.1 rfl, fun k => (h 135 k).2.2.2.2.2.2.2.2.2.2.2.2.2.1 rfl, fun k => (h 137 k).2.2.2.2.2.2.2.2.2.2.2.2.2.2.1 rfl, fun k => (h 138 k).2.2.2.2.2.2.2.2.2.2.2.2.2.2.2 rfl⟩
theorem OK_set {P : PM} (h : OK P) {g k : Nat} {v : Int32} (hv : okC g k v) : OK (u2 P g k v) := by
  rw [OK_iff] at h ⊢
  intro g9 k9
  rw [u2_at]
  by_cases q : g9 = g ∧ k9 = k
  · rw [if_pos q, q.1, q.2]; exact hv
  · rw [if_neg q]; exact h g9 k9
/-- the class's cell of a cell of P -/
def cm (g k a b : Nat) : Prop :=
  (g = 122 ∧ ((k = 1 ∧ a = 0 ∧ b = 12) ∨ (k = 2 ∧ a = 0 ∧ b = 13) ∨ (k = 5 ∧ a = 0 ∧ b = 14) ∨ (k = 3 ∧ a = 4 ∧ b = 1) ∨ (k = 4 ∧ a = 4 ∧ b = 2))) ∨ (g = 137 ∧ k < 12 ∧ a = 5 ∧ b = k) ∨ (124 ≤ g ∧ g ≤ 129 ∧ k < 40 ∧ a = 44 + k ∧ b + 124 = g) ∨
  (g = 130 ∧ k < 90 ∧ a = 84 + k / 3 ∧ b = k % 3) ∨ (131 ≤ g ∧ g ≤ 134 ∧ k < 30 ∧ a = 84 + k ∧ b + 128 = g) ∨ (g = 136 ∧ k < 4 ∧ a = 114 + 2 * k ∧ b = 1) ∨ (g = 135 ∧ k < 256 ∧ a = 115 + 2 * (k / 64) ∧ b = k % 64) ∨ (138 ≤ g ∧ g ≤ 140 ∧ k < 960 ∧ a + 110 = g ∧ b = k)
theorem cm_c1 : cm 122 1 0 12 := Or.inl ⟨rfl, Or.inl ⟨rfl, rfl, rfl⟩⟩
theorem cm_c2 : cm 122 2 0 13 := Or.inl ⟨rfl, Or.inr (Or.inl ⟨rfl, rfl, rfl⟩)⟩
theorem cm_bg : cm 122 5 0 14 := Or.inl ⟨rfl, Or.inr (Or.inr (Or.inl ⟨rfl, rfl, rfl⟩))⟩
theorem cm_nr : cm 122 3 4 1 := Or.inl ⟨rfl, Or.inr (Or.inr (Or.inr (Or.inl ⟨rfl, rfl, rfl⟩)))⟩
theorem cm_fc : cm 122 4 4 2 := Or.inl ⟨rfl, Or.inr (Or.inr (Or.inr (Or.inr ⟨rfl, rfl, rfl⟩)))⟩
theorem cm_cam {k : Nat} (h : k < 12) : cm 137 k 5 k := Or.inr (Or.inl ⟨rfl, h, rfl, rfl⟩)
theorem cm_cor {g k b : Nat} (h1 : 124 ≤ g) (h2 : g ≤ 129) (hk : k < 40) (hb : b + 124 = g) : cm g k (44 + k) b := Or.inr (Or.inr (Or.inl ⟨h1, h2, hk, rfl, hb⟩))
theorem cm_of {k a b : Nat} (hk : k < 90) (ha : a = 84 + k / 3) (hb : b = k % 3) : cm 130 k a b := Or.inr (Or.inr (Or.inr (Or.inl ⟨rfl, hk, ha, hb⟩)))
theorem cm_pn {g k b : Nat} (h1 : 131 ≤ g) (h2 : g ≤ 134) (hk : k < 30) (hb : b + 128 = g) : cm g k (84 + k) b := Or.inr (Or.inr (Or.inr (Or.inr (Or.inl ⟨h1, h2, hk, rfl, hb⟩))))
theorem cm_rep {k : Nat} (hk : k < 4) : cm 136 k (114 + 2 * k) 1 := Or.inr (Or.inr (Or.inr (Or.inr (Or.inr (Or.inl ⟨rfl, hk, rfl, rfl⟩)))))
theorem cm_tin {k a b : Nat} (hk : k < 256) (ha : a = 115 + 2 * (k / 64)) (hb : b = k % 64) : cm 135 k a b := Or.inr (Or.inr (Or.inr (Or.inr (Or.inr (Or.inr (Or.inl ⟨rfl, hk, ha, hb⟩))))))
theorem cm_pic {g k a : Nat} (h1 : 138 ≤ g) (h2 : g ≤ 140) (hk : k < 960) (ha : a + 110 = g) : cm g k a k := Or.inr (Or.inr (Or.inr (Or.inr (Or.inr (Or.inr (Or.inr ⟨h1, h2, hk, ha, rfl⟩))))))
theorem cm_inj {g k g2 k2 a b : Nat} (h : cm g k a b) (h2 : cm g2 k2 a b) : g = g2 ∧ k = k2 := by
  unfold cm at h h2
  rcases h with h | h | h | h | h | h | h | h <;> rcases h2 with h2 | h2 | h2 | h2 | h2 | h2 | h2 | h2 <;> omega
theorem cm_fun {g k a b a2 b2 : Nat} (h : cm g k a b) (h2 : cm g k a2 b2) : a = a2 ∧ b = b2 := by
  unfold cm at h h2
  rcases h with h | h | h | h | h | h | h | h <;> rcases h2 with h2 | h2 | h2 | h2 | h2 | h2 | h2 | h2 <;> omega
theorem CV_iff (P : PM) (M : GM) : CV P M ↔ ∀ g k a b, cm g k a b → gI M a b = P g k := by
  constructor
  · rintro ⟨⟨a1, a2, a3, a4, a5⟩, b, c, d, e, p⟩ g k x y h
    unfold cm at h
    rcases h with ⟨rfl, h⟩ | ⟨rfl, h, rfl, rfl⟩ | ⟨h1, h2, h3, rfl, h4⟩ | ⟨rfl, h1, rfl, rfl⟩ | ⟨h1, h2, h3, rfl, h4⟩ | ⟨rfl, h1, rfl, rfl⟩ | ⟨rfl, h1, rfl, rfl⟩ | ⟨h1, h2, h3, h4, rfl⟩
    · rcases h with ⟨rfl, rfl, rfl⟩ | ⟨rfl, rfl, rfl⟩ | ⟨rfl, rfl, rfl⟩ | ⟨rfl, rfl, rfl⟩ | ⟨rfl, rfl, rfl⟩
      · exact a1
      · exact a2
      · exact a3
      · exact a4
      · exact a5
    · exact b _ h
    · obtain ⟨c0, c1, c2, c3, c4, c5⟩ := c k h3
      rcases (show y = 0 ∨ y = 1 ∨ y = 2 ∨ y = 3 ∨ y = 4 ∨ y = 5 by omega) with rfl | rfl | rfl | rfl | rfl | rfl <;> subst h4
      · exact c0
      · exact c1
      · exact c2
      · exact c3
      · exact c4
      · exact c5
    · obtain ⟨c0, c1, c2, -⟩ := d (k / 3) (by omega)
      have hk : k = 3 * (k / 3) + k % 3 := by omega
      rcases (show k % 3 = 0 ∨ k % 3 = 1 ∨ k % 3 = 2 by omega) with q | q | q
      · rw [q]; rw [q] at hk; rw [c0, ← hk]
      · rw [q]; rw [q] at hk; rw [c1, ← hk]
      · rw [q]; rw [q] at hk; rw [c2, ← hk]
    · obtain ⟨-, -, -, c3, c4, c5, c6⟩ := d k h3
      rcases (show y = 3 ∨ y = 4 ∨ y = 5 ∨ y = 6 by omega) with rfl | rfl | rfl | rfl <;> subst h4
      · exact c3
      · exact c4
      · exact c5
      · exact c6
    · exact (e k h1).1
    · rw [(e (k / 64) (by omega)).2 (k % 64) (by omega), show 64 * (k / 64) + k % 64 = k by omega]
    · obtain ⟨c0, c1, c2⟩ := p y h3
      rcases (show x = 28 ∨ x = 29 ∨ x = 30 by omega) with rfl | rfl | rfl <;> subst h4
      · exact c0
      · exact c1
      · exact c2
  · intro h
    refine ⟨⟨h _ _ _ _ cm_c1, h _ _ _ _ cm_c2, h _ _ _ _ cm_bg, h _ _ _ _ cm_nr, h _ _ _ _ cm_fc⟩, fun k hk => h _ _ _ _ (cm_cam hk), fun c hc => ⟨h 124 c _ 0 (cm_cor (by omega) (by omega) hc rfl), h 125 c _ 1 (cm_cor (by omega) (by omega) hc rfl), h 126 c _ 2 (cm_cor (by omega) (by omega) hc rfl), h 127 c _ 3 (cm_cor (by omega) (by omega) hc rfl), h 128 c _ 4 (cm_cor (by omega) (by omega) hc rfl), h 129 c _ 5 (cm_cor (by omega) (by omega) hc rfl)⟩,
      fun i hi => ⟨h 130 (3 * i + 0) _ 0 (cm_of (by omega) (by omega) (by omega)), h 130 (3 * i + 1) _ 1 (cm_of (by omega) (by omega) (by omega)), h 130 (3 * i + 2) _ 2 (cm_of (by omega) (by omega) (by omega)), h 131 i _ 3 (cm_pn (by omega) (by omega) hi rfl), h 132 i _ 4 (cm_pn (by omega) (by omega) hi rfl), h 133 i _ 5 (cm_pn (by omega) (by omega) hi rfl), h 134 i _ 6 (cm_pn (by omega) (by omega) hi rfl)⟩, fun t ht => ⟨h _ _ _ _ (cm_rep ht), fun j hj => h 135 (64 * t + j) _ j (cm_tin (by omega) (by omega) (by omega))⟩, fun k hk => ⟨h 138 k 28 k (cm_pic (by omega) (by omega) hk rfl), h 139 k 29 k (cm_pic (by omega) (by omega) hk rfl), h 140 k 30 k (cm_pic (by omega) (by omega) hk rfl)⟩⟩
theorem CV_set {P : PM} {M : GM} (h : CV P M) {g k a b : Nat} {v : Int32} (hc : cm g k a b) : CV (u2 P g k v) (sI M a b v) := by
  rw [CV_iff] at h ⊢
  intro g2 k2 a2 b2 h2
  rw [gI_sI, u2_at]
  by_cases q : g2 = g ∧ k2 = k
  · obtain ⟨rfl, rfl⟩ := q
    rw [if_pos (cm_fun h2 hc), if_pos ⟨rfl, rfl⟩]
  · rw [if_neg (fun e => q (by obtain ⟨rfl, rfl⟩ := e; exact cm_inj h2 hc)), if_neg q]; exact h g2 k2 a2 b2 h2
theorem cm_lt {g k a b : Nat} (h : cm g k a b) : a ≤ 121 ∧ a ≠ 42 := by unfold cm at h; omega
theorem CS_set {P : PM} {M : GM} (h : CS P M) {g k a b : Nat} {v : Int32} (hc : cm g k a b) : CS (u2 P g k v) (sI M a b v) :=
  ⟨CV_set h.1 hc, h.2.to fun j => by rw [gI_sI, if_neg (by have := cm_lt hc; omega)]⟩
/-- the corners of a pane are three different ones -/
def DJ (P : PM) : Prop := ∀ i, i < sN P → P 130 (3 * i) ≠ P 130 (3 * i + 1) ∧ P 130 (3 * i + 1) ≠ P 130 (3 * i + 2) ∧ P 130 (3 * i + 2) ≠ P 130 (3 * i)
theorem DJ_same {P P' : PM} (h : DJ P) (h1 : P' 122 2 = P 122 2) (h2 : ∀ k, P' 130 k = P 130 k) : DJ P' := fun i hi => by
  rw [h2, h2, h2]; exact h i (by unfold sN at hi ⊢; rw [← h1]; exact hi)
theorem DJ_set {P : PM} (h : DJ P) {g k : Nat} {v : Int32} (h1 : g ≠ 130) (h2 : ¬ (g = 122 ∧ k = 2)) : DJ (u2 P g k v) := DJ_same h (by rw [u2_at, if_neg (by omega)]) (fun j => by rw [u2_at, if_neg (by omega)])
theorem CS_sL {P : PM} {M : GM} (h : CS P M) (g k : Nat) (v : Int64) : CS P (sL M g k v) := ⟨h.1.to fun _ _ _ => rfl, h.2.to fun _ => rfl⟩
abbrev WI (b : Int32) : Int64 := b.toInt64
/-- what a call may name -/
abbrev inR (a : Int32) (lo hi : Int) : Prop := lo ≤ a.toInt ∧ a.toInt ≤ hi
abbrev plR (a b c : Int32) : Prop := inR a (-2000) 2000 ∧ inR b (-2000) 2000 ∧ inR c (-2000) 2000
theorem w_in (a : Int32) {l u : Int32} {lo hi : Int} (h1 : l.toInt = lo) (h2 : u.toInt = hi) : f_X10_isWithin a l u = if inR a lo hi then 1 else 0 := c_within rfl h1 h2
theorem m2000 : (-2000 : Int32).toInt = -2000 := by decide
theorem i2000 : (2000 : Int32).toInt = 2000 := rfl
theorem c_reqPlace (F : Nat) (a b c : Int32) (M : GM) : f_X10_requirePlace F a b c M = if plR a b c then some (.inr ()) else some (.inl 1) := by
  unfold f_X10_requirePlace bk_X10_requirePlace_39
  rw [w_in a m2000 i2000, w_in b m2000 i2000, w_in c m2000 i2000]
  by_cases h1 : inR a (-2000) 2000
  · by_cases h2 : inR b (-2000) 2000
    · by_cases h3 : inR c (-2000) 2000
      · rw [if_pos h1, if_pos h2, if_pos h3, if_neg (by decide), if_neg (by decide), if_neg (by decide), if_pos ⟨h1, h2, h3⟩]
      · rw [if_pos h1, if_pos h2, if_neg h3, if_neg (by decide), if_neg (by decide), if_pos rfl, if_neg (fun h => h3 h.2.2)]
    · rw [if_pos h1, if_neg h2, if_neg (by decide), if_pos rfl, if_neg (fun h => h2 h.2.1)]
  · rw [if_neg h1, if_pos rfl, if_neg (fun h => h1 h.1)]
theorem one_if {c : Prop} [Decidable c] {α : Type} (x y : α) : (if (if c then (1 : Int32) else 0) = 0 then x else y) = if c then y else x := by
  by_cases h : c
  · rw [if_pos h, if_pos h, if_neg (by decide)]
  · rw [if_neg h, if_neg h, if_pos rfl]
theorem c_reqColour (F : Nat) (a : Int32) (M : GM) : f_X10_requireColour F a M = if inR a 0 16777215 then some (.inr ()) else some (.inl 1) := by
  unfold f_X10_requireColour
  rw [w_in a (show (0 : Int32).toInt = 0 from rfl) (show (16777215 : Int32).toInt = 16777215 from rfl), one_if]
theorem cnt_m1 {c : Int32} {n : Nat} (h : c = nI n) (hn : n ≤ 40) : (c - 1).toInt = (n : Int) - 1 := by rw [h]; exact a_sub (n_int (by omega)) rfl (by omega) (by omega)
theorem c_reqCorner {P : PM} {M : GM} (hO : OK P) (hC : CV P M) (F : Nat) (a : Int32) : f_X10_requireCorner F a M = if inR a 0 ((sC1 P : Int) - 1) then some (.inr ()) else some (.inl 3) := by
  obtain ⟨-, -, h1, h2⟩ := sN_of hO
  unfold f_X10_requireCorner
  rw [w_in a (show (0 : Int32).toInt = 0 from rfl) (cnt_m1 (hC.1.1.trans h1) h2), one_if]
theorem c_reqPane {P : PM} {M : GM} (hO : OK P) (hC : CV P M) (F : Nat) (a : Int32) : f_X10_requirePane F a M = if inR a 0 ((sN P : Int) - 1) then some (.inr ()) else some (.inl 3) := by
  obtain ⟨h1, h2, -, -⟩ := sN_of hO
  unfold f_X10_requirePane
  rw [w_in a (show (0 : Int32).toInt = 0 from rfl) (cnt_m1 (hC.1.2.1.trans h1) (by omega)), one_if]
abbrev ptR (a b : Int32) : Prop := inR a 0 39 ∧ inR b 0 23
theorem c_reqPoint (F : Nat) (a b : Int32) (M : GM) : f_X10_requirePoint F a b M = if ptR a b then some (.inr ()) else some (.inl 3) := by
  unfold f_X10_requirePoint
  rw [w_in a (show (0 : Int32).toInt = 0 from rfl) (show (39 : Int32).toInt = 39 from rfl), w_in b (show (0 : Int32).toInt = 0 from rfl) (show (23 : Int32).toInt = 23 from rfl), one_if, one_if]
  by_cases h1 : inR a 0 39
  · by_cases h2 : inR b 0 23
    · rw [if_pos h1, if_pos h2, if_pos ⟨h1, h2⟩]
    · rw [if_pos h1, if_neg h2, if_neg (fun h => h2 h.2)]
  · rw [if_neg h1, if_neg (fun h => h1 h.1)]
/-- a number that a call names, as a count -/
theorem in_nat {a : Int32} {n : Nat} (h : inR a 0 ((n : Int) - 1)) : ∃ p, a = nI p ∧ p < n := ⟨a.toInt.toNat, n_of (by omega), by omega⟩
theorem in_nat' {a : Int32} {u : Int} (h : inR a 0 u) (hu : u < 2147483647) : ∃ p, a = nI p ∧ (p : Int) ≤ u := ⟨a.toInt.toNat, n_of (by omega), by omega⟩
