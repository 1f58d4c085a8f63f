/-! PURE PART: the memory read and written, loops, frames, what the picture is -/
theorem gI_sI (M : GM) (g k g9 k9 : Nat) (v : Int32) : gI (sI M g k v) g9 k9 = if g9 = g ∧ k9 = k then v else gI M g9 k9 := rfl
theorem gL_sI (M : GM) (g k g9 k9 : Nat) (v : Int32) : gL (sI M g k v) g9 k9 = gL M g9 k9 := rfl
theorem gP_sI (M : GM) (g k g9 k9 : Nat) (v : Int32) : gP (sI M g k v) g9 k9 = gP M g9 k9 := rfl
theorem gI_sL (M : GM) (g k g9 k9 : Nat) (v : Int64) : gI (sL M g k v) g9 k9 = gI M g9 k9 := rfl
theorem gL_sL (M : GM) (g k g9 k9 : Nat) (v : Int64) : gL (sL M g k v) g9 k9 = if g9 = g ∧ k9 = k then v else gL M g9 k9 := rfl
theorem gP_sL (M : GM) (g k g9 k9 : Nat) (v : Int64) : gP (sL M g k v) g9 k9 = gP M g9 k9 := rfl
theorem gI_sP (M : GM) (g k g9 k9 v : Nat) : gI (sP M g k v) g9 k9 = gI M g9 k9 := rfl
theorem gL_sP (M : GM) (g k g9 k9 v : Nat) : gL (sP M g k v) g9 k9 = gL M g9 k9 := rfl
theorem gP_sP (M : GM) (g k g9 k9 v : Nat) : gP (sP M g k v) g9 k9 = if g9 = g ∧ k9 = k then v else gP M g9 k9 := rfl
theorem gI_sC (M : GM) (g k n g9 k9 : Nat) (f : Nat → Int32) : gI (sC M g k n f) g9 k9 = if g9 = g ∧ k ≤ k9 ∧ k9 < k + n then f (k9 - k) else gI M g9 k9 := rfl
theorem gL_sC (M : GM) (g k n g9 k9 : Nat) (f : Nat → Int32) : gL (sC M g k n f) g9 k9 = gL M g9 k9 := rfl
theorem gP_sC (M : GM) (g k n g9 k9 : Nat) (f : Nat → Int32) : gP (sC M g k n f) g9 k9 = gP M g9 k9 := rfl
theorem n_int {n : Nat} (h : n < 2147483648) : (nI n).toInt = n := by
  show (Int32.ofNat n).toInt = n
  rw [← Int32.ofInt_eq_ofNat]
  exact a_ofI (by omega) (by omega)
theorem n_of {v : Int32} {n : Nat} (h : v.toInt = n) : v = nI n := by
  have := a_hi v
  exact a_ext (by rw [h, n_int (by omega)])
theorem n_eq {a b : Nat} (ha : a < 2147483648) (hb : b < 2147483648) : nI a = nI b ↔ a = b := by
  rw [a_eq (n_int ha) (n_int hb)]; omega
theorem n_le {a b : Nat} (ha : a < 2147483648) (hb : b < 2147483648) : nI a ≤ nI b ↔ a ≤ b := by
  rw [a_le (n_int ha) (n_int hb)]; omega
theorem n_lt {a b : Nat} (ha : a < 2147483648) (hb : b < 2147483648) : nI a < nI b ↔ a < b := by
  rw [a_lt (n_int ha) (n_int hb)]; omega
theorem n_in {i n : Nat} (h : i < n) (h2 : n < 2147483648) : gIn (nI i) n = true := a_gIn (n_int (by omega)) (by omega) (by omega)
theorem n_cl {i : Nat} (h : i < 2147483648) : (nI i).toNatClampNeg = i := by rw [a_nat32 (n_int h)]; omega
theorem i_0 : (0 : Int32) = nI 0 := rfl
theorem i_1 : (1 : Int32) = nI 1 := rfl
theorem n_a (i j : Nat) : nI i + nI j = nI (i + j) := by
  show Int32.ofNat i + Int32.ofNat j = Int32.ofNat (i + j)
  rw [Int32.ofNat_add]
theorem grd_t {β : Type} {b : Bool} {t : Option β} (h : b = true) : grd b t = t := by subst h; rfl
theorem bnd_d {α β : Type} (a : α) (k : α → β) : bnd a k = k a := rfl
theorem bndO_s {α β : Type} {a : Option α} {v : α} (k : α → Option β) (h : a = some v) : bndO a k = k v := by subst h; rfl
theorem bndT_r {ε α β : Type} {a : Option (ε ⊕ α)} {v : α} (x : ε → Option β) (k : α → Option β) (h : a = some (.inr v)) : bndT a x k = k v := by subst h; rfl
theorem bndT_l {ε α β : Type} {a : Option (ε ⊕ α)} {v : ε} (x : ε → Option β) (k : α → Option β) (h : a = some (.inl v)) : bndT a x k = x v := by subst h; rfl
theorem grdT {β : Type} {t : Option β} : grd true t = t := rfl
theorem bndOs {α β : Type} (v : α) (k : α → Option β) : bndO (some v) k = k v := rfl
theorem bndTr {ε α β : Type} (v : α) (x : ε → Option β) (k : α → Option β) : bndT (some (.inr v)) x k = k v := rfl
theorem bndTl {ε α β : Type} (v : ε) (x : ε → Option β) (k : α → Option β) : bndT (some (.inl v)) x k = x v := rfl
theorem gn_1 : gN 1 = 40 := by decide +kernel
theorem gn_2 : gN 2 = 30 := by decide +kernel
theorem gn_3 : gN 3 = 4 := by decide +kernel
theorem gn_5 : gN 5 = 12 := by decide +kernel
theorem gn_7 : gN 7 = 3 := by decide +kernel
theorem gn_11 : gN 11 = 4 := by decide +kernel
theorem gn_16 : gN 16 = 2 := by decide +kernel
theorem gn_28 : gN 28 = 960 := by decide +kernel
theorem gn_29 : gN 29 = 960 := by decide +kernel
theorem gn_30 : gN 30 = 960 := by decide +kernel
theorem gn_32 : gN 32 = 960 := by decide +kernel
theorem gn_33 : gN 33 = 960 := by decide +kernel
theorem gn_34 : gN 34 = 960 := by decide +kernel
theorem gn_36 : gN 36 = 960 := by decide +kernel
theorem gn_37 : gN 37 = 960 := by decide +kernel
theorem gn_38 : gN 38 = 960 := by decide +kernel
theorem gn_40 : gN 40 = 2048 := by decide +kernel
theorem gn_41 : gN 41 = 30 := by decide +kernel
theorem gn_115 : gN 115 = 64 := by decide +kernel
theorem gn_117 : gN 117 = 64 := by decide +kernel
theorem gn_119 : gN 119 = 64 := by decide +kernel
theorem gn_121 : gN 121 = 64 := by decide +kernel
theorem gn_123 : gN 123 = 40 := by decide +kernel
theorem gn_124 : gN 124 = 30 := by decide +kernel
theorem gn_125 : gN 125 = 30 := by decide +kernel
theorem gn_126 : gN 126 = 3 := by decide +kernel
theorem gn_127 : gN 127 = 4 := by decide +kernel
theorem gn_128 : gN 128 = 4 := by decide +kernel
theorem gn_129 : gN 129 = 64 := by decide +kernel
theorem gn_130 : gN 130 = 64 := by decide +kernel
theorem gn_131 : gN 131 = 64 := by decide +kernel
theorem gn_132 : gN 132 = 64 := by decide +kernel
theorem gn_133 : gN 133 = 6 := by decide +kernel
theorem gn_134 : gN 134 = 6 := by decide +kernel
theorem gn_135 : gN 135 = 6 := by decide +kernel
theorem gn_136 : gN 136 = 6 := by decide +kernel
theorem gn_137 : gN 137 = 6 := by decide +kernel
theorem gn_138 : gN 138 = 6 := by decide +kernel
theorem gn_139 : gN 139 = 6 := by decide +kernel
theorem gn_140 : gN 140 = 6 := by decide +kernel
theorem gn_141 : gN 141 = 6 := by decide +kernel
theorem gn_142 : gN 142 = 6 := by decide +kernel
theorem gn_143 : gN 143 = 6 := by decide +kernel
theorem gn_144 : gN 144 = 6 := by decide +kernel
theorem gn_145 : gN 145 = 6 := by decide +kernel
theorem gn_146 : gN 146 = 6 := by decide +kernel
theorem gn_147 : gN 147 = 6 := by decide +kernel
theorem gn_148 : gN 148 = 6 := by decide +kernel
theorem gn_149 : gN 149 = 6 := by decide +kernel
theorem gn_150 : gN 150 = 6 := by decide +kernel
theorem gn_151 : gN 151 = 6 := by decide +kernel
theorem gn_152 : gN 152 = 6 := by decide +kernel
theorem gn_153 : gN 153 = 6 := by decide +kernel
theorem gn_154 : gN 154 = 6 := by decide +kernel
theorem gn_155 : gN 155 = 6 := by decide +kernel
theorem gn_156 : gN 156 = 6 := by decide +kernel
theorem gn_157 : gN 157 = 6 := by decide +kernel
theorem gn_158 : gN 158 = 6 := by decide +kernel
theorem gn_159 : gN 159 = 6 := by decide +kernel
theorem gn_160 : gN 160 = 6 := by decide +kernel
theorem gn_161 : gN 161 = 6 := by decide +kernel
theorem i_2 : (2 : Int32) = nI 2 := rfl
theorem i_3 : (3 : Int32) = nI 3 := rfl
theorem i_4 : (4 : Int32) = nI 4 := rfl
theorem i_5 : (5 : Int32) = nI 5 := rfl
theorem i_6 : (6 : Int32) = nI 6 := rfl
theorem i_7 : (7 : Int32) = nI 7 := rfl
theorem i_8 : (8 : Int32) = nI 8 := rfl
theorem i_15 : (15 : Int32) = nI 15 := rfl
theorem i_23 : (23 : Int32) = nI 23 := rfl
theorem i_24 : (24 : Int32) = nI 24 := rfl
theorem i_29 : (29 : Int32) = nI 29 := rfl
theorem i_30 : (30 : Int32) = nI 30 := rfl
theorem i_39 : (39 : Int32) = nI 39 := rfl
theorem i_40 : (40 : Int32) = nI 40 := rfl
theorem i_128 : (128 : Int32) = nI 128 := rfl
theorem i_255 : (255 : Int32) = nI 255 := rfl
theorem i_960 : (960 : Int32) = nI 960 := rfl
theorem i_2048 : (2048 : Int32) = nI 2048 := rfl
theorem n_m (i j : Nat) : nI i * nI j = nI (i * j) := by
  show Int32.ofNat i * Int32.ofNat j = Int32.ofNat (i * j)
  rw [Int32.ofNat_mul]
theorem gIn_c {v : Int32} {n : Nat} (h1 : 0 ≤ v.toInt) (h2 : v.toInt < n) : gIn v n = true := a_gIn rfl h1 h2
theorem gr_1 (j : Nat) : gR 1 j = 44 + j := rfl
theorem gr_2 (j : Nat) : gR 2 j = 84 + j := rfl
theorem gr_3 (j : Nat) : gR 3 j = 114 + 2 * j := rfl
theorem gr_7 (j : Nat) : gR 7 j = 8 + j := rfl
theorem gr_11 (j : Nat) : gR 11 j = 12 + j := rfl
theorem gr_16 (j : Nat) : gR 16 j = 17 + 5 * j := rfl
theorem gr_123 (j : Nat) : gR 123 j = 133 + j := rfl
theorem gr_144 (j : Nat) : gR 144 j = 0 := rfl
theorem gr_149 (j : Nat) : gR 149 j = 0 := rfl
/-- a loop that counts up to N, or ends before -/
theorem run_loop {σ ρ : Type} (lp : Nat → σ → Option ρ) (I : Nat → σ → Prop) (Q : ρ → Prop) (N : Nat)
    (hs : ∀ i s, i < N → I i s → (∃ s', I (i + 1) s' ∧ ∀ n, lp (n + 1) s = lp n s') ∨ (∃ r, Q r ∧ ∀ n, lp (n + 1) s = some r))
    (he : ∀ s, I N s → ∃ r, Q r ∧ ∀ n, lp (n + 1) s = some r) :
    ∀ k i s n, i + k = N → I i s → k < n → ∃ r, lp n s = some r ∧ Q r := by
  intro k
  induction k with
  | zero =>
    intro i s n hi hI hn
    have : i = N := by omega
    subst this
    obtain ⟨m, rfl⟩ : ∃ m, n = m + 1 := ⟨n - 1, by omega⟩
    obtain ⟨r, hq, hr⟩ := he s hI
    exact ⟨r, hr m, hq⟩
  | succ k ih =>
    intro i s n hi hI hn
    obtain ⟨m, rfl⟩ : ∃ m, n = m + 1 := ⟨n - 1, by omega⟩
    rcases hs i s (by omega) hI with ⟨s', hI', h⟩ | ⟨r, hq, hr⟩
    · obtain ⟨r, h1, h2⟩ := ih (i + 1) s' m (by omega) hI' (by omega)
      exact ⟨r, by rw [h m, h1], h2⟩
    · exact ⟨r, hr m, hq⟩
/-- a loop from a on that ends at N alone -/
theorem run_up {σ ρ : Type} (lp : Nat → σ → Option ρ) (I : Nat → σ → Prop) (Q : ρ → Prop) (a N F : Nat) (ha : a ≤ N) (hF : N - a < F) {s : σ} (h0 : I a s)
    (hs : ∀ i s, a ≤ i → i < N → I i s → ∃ s', I (i + 1) s' ∧ ∀ n, lp (n + 1) s = lp n s')
    (he : ∀ s, I N s → ∃ r, Q r ∧ ∀ n, lp (n + 1) s = some r) : ∃ r, lp F s = some r ∧ Q r :=
  run_loop lp (fun i s => a ≤ i ∧ I i s) Q N (fun i s h1 h2 => by
    obtain ⟨s', h3, h4⟩ := hs i s h2.1 h1 h2.2
    exact Or.inl ⟨s', ⟨by omega, h3⟩, h4⟩) (fun s h => he s h.2) (N - a) a s F (by omega) ⟨Nat.le_refl _, h0⟩ hF
/-- what the pictures are made of: the cells that the reference keeps -/
abbrev PM := Nat → Nat → Int32
abbrev V := Nat → Int
def sSeen (P : PM) (c r : Nat) : Int := ((P 137 (4 * r)).toInt * (P 124 c).toInt + (P 137 (4 * r + 1)).toInt * (P 125 c).toInt + (P 137 (4 * r + 2)).toInt * (P 126 c).toInt) / 1024 + (P 137 (4 * r + 3)).toInt
def sVtx (P : PM) (c : Nat) : V := fun k => if k < 3 then sSeen P c k else if k = 3 then (P 128 c).toInt else if k = 4 then (P 129 c).toInt else if k = 5 then (P 127 c).toInt / 65536 else if k = 6 then (P 127 c).toInt / 256 % 256 else (P 127 c).toInt % 256
def sCut (near : Int) (p q : V) : V := fun k => if k = 2 then near else p k + ((q k - p k) * (p 2 - near)) / (p 2 - q 2)
def sEdge (near : Int) (p q : V) : List V := if near ≤ p 2 then (if near ≤ q 2 then [p] else [p, sCut near p q]) else (if near ≤ q 2 then [sCut near q p] else [])
def sPoly (near : Int) (a b c : V) : List V := sEdge near a b ++ (sEdge near b c ++ sEdge near c a)
def sNear (P : PM) : Int := (P 122 3).toInt
def sFoc (P : PM) : Int := (P 122 4).toInt
def sOf (P : PM) (i k : Nat) : Nat := (P 130 (3 * i + k)).toNatClampNeg
def sPane (P : PM) (i : Nat) : List V := sPoly (sNear P) (sVtx P (sOf P i 0)) (sVtx P (sOf P i 1)) (sVtx P (sOf P i 2))
def sX (f : Int) (v : V) : Int := 320 + (16 * f * v 0) / v 2
def sY (f : Int) (v : V) : Int := 192 + (16 * f * v 1) / v 2
def sDp (n : Int) (v : V) : Int := 65535 - 65535 * n / v 2
def sWt (v : V) : Int := 65536 / v 2 + 1
def sTurn (x0 y0 x1 y1 x y : Int) : Int := (x1 - x0) * (y - y0) - (y1 - y0) * (x - x0)
def sTu (f : Int) (a b : V) (x y : Int) : Int := sTurn (sX f a) (sY f a) (sX f b) (sY f b) x y
abbrev sFar (f : Int) (v : V) : Prop := sX f v < -30000 ∨ 30000 < sX f v ∨ sY f v < -30000 ∨ 30000 < sY f v
def sPiece (f : Int) (two : Int32) (a b c : V) : Option (V × V × V) :=
  if sFar f a ∨ sFar f b ∨ sFar f c then none
  else if sTu f a b (sX f c) (sY f c) = 0 then none
  else if 0 < sTu f a b (sX f c) (sY f c) then some (a, b, c)
  else if two = 0 then none else some (a, c, b)
def sPcs (P : PM) (i q : Nat) : Option (V × V × V) := match (sPane P i)[0]?, (sPane P i)[q + 1]?, (sPane P i)[q + 2]? with
  | some a, some b, some c => sPiece (sFoc P) (P 133 i) a b c
  | _, _, _ => none
def sArea (f : Int) (t : V × V × V) : Int := sTu f t.1 t.2.1 (sX f t.2.2) (sY f t.2.2)
abbrev sCnt (f : Int) (p q : V) : Prop := sY f q < sY f p ∨ (sY f q = sY f p ∧ sX f p < sX f q)
def sWa (f : Int) (t : V × V × V) (x y : Int) : Int := sTu f t.2.1 t.2.2 (16 * x + 8) (16 * y + 8)
def sWb (f : Int) (t : V × V × V) (x y : Int) : Int := sTu f t.2.2 t.1 (16 * x + 8) (16 * y + 8)
def sWc (f : Int) (t : V × V × V) (x y : Int) : Int := sTu f t.1 t.2.1 (16 * x + 8) (16 * y + 8)
abbrev sSide (f : Int) (w : Int) (p q : V) : Prop := 0 < w ∨ (w = 0 ∧ sCnt f p q)
abbrev sIn (f : Int) (t : V × V × V) (x y : Int) : Prop := sSide f (sWa f t x y) t.2.1 t.2.2 ∧ sSide f (sWb f t x y) t.2.2 t.1 ∧ sSide f (sWc f t x y) t.1 t.2.1
def sMean (f : Int) (t : V × V × V) (x y A B C : Int) : Int := (sWa f t x y * A + sWb f t x y * B + sWc f t x y * C) / sArea f t
def sWm (f : Int) (t : V × V × V) (x y : Int) (k : Nat) : Int := (sWa f t x y * sWt t.1 * t.1 k + sWb f t x y * sWt t.2.1 * t.2.1 k + sWc f t x y * sWt t.2.2 * t.2.2 k) / (sWa f t x y * sWt t.1 + sWb f t x y * sWt t.2.1 + sWc f t x y * sWt t.2.2)
def sDep (P : PM) (t : V × V × V) (x y : Int) : Int := sMean (sFoc P) t x y (sDp (sNear P) t.1) (sDp (sNear P) t.2.1) (sDp (sNear P) t.2.2)
def sNum (P : PM) (t : V × V × V) (x y : Int) (k : Nat) : Int := sMean (sFoc P) t x y (t.1 k) (t.2.1 k) (t.2.2 k)
/-- the place in a pattern's row or column -/
def sStep (P : PM) (its : Nat) (a : Int) : Int := if a / 128 ≤ 7 then a / 128 else if P 136 its = 0 then 7 else a / 128 % 8
def sTint (P : PM) (its : Nat) (u v : Int) : Int := (P 135 (64 * its + 8 * (sStep P its v).toNat + (sStep P its u).toNat)).toInt
def sMix (r g b : Int) : Int := r * 65536 + g * 256 + b
def sCol (P : PM) (i : Nat) (t : V × V × V) (x y : Int) : Int :=
  let r := sNum P t x y 5
  let g := sNum P t x y 6
  let b := sNum P t x y 7
  if P 131 i = -1 then sMix r g b else
  let c := sTint P (P 131 i).toNatClampNeg (sWm (sFoc P) t x y 3) (sWm (sFoc P) t x y 4)
  sMix (c / 65536 * r / 255) (c / 256 % 256 * g / 255) (c % 256 * b / 255)
def sHalf (c d : Int) : Int := sMix ((c / 65536 + d / 65536) / 2) ((c / 256 % 256 + d / 256 % 256) / 2) ((c % 256 + d % 256) / 2)
/-- colour, depth, pane of a point -/
abbrev Px := Int32 × Int32 × Int32
/-- whether a piece paints a point -/
abbrev sHit (P : PM) (t : V × V × V) (k : Nat) (p : Px) : Prop := sIn (sFoc P) t (k % 40 : Nat) (k / 40 : Nat) ∧ sDep P t (k % 40 : Nat) (k / 40 : Nat) < p.2.1.toInt
def sPt (P : PM) (i : Nat) (t : V × V × V) (k : Nat) (p : Px) : Px :=
  if sHit P t k p then
    (if P 132 i = 0 then (Int32.ofInt (sCol P i t (k % 40 : Nat) (k / 40 : Nat)), Int32.ofInt (sDep P t (k % 40 : Nat) (k / 40 : Nat)), nI i)
     else (Int32.ofInt (sHalf p.1.toInt (sCol P i t (k % 40 : Nat) (k / 40 : Nat))), p.2)) else p
def sPq (P : PM) (i q k : Nat) (p : Px) : Px := match sPcs P i q with
  | some t => sPt P i t k p
  | none => p
def sHq (P : PM) (i q k : Nat) (p : Px) : Bool := match sPcs P i q with
  | some t => decide (sHit P t k p)
  | none => false
def sP2 (P : PM) (i k : Nat) (p : Px) : Px := sPq P i 1 k (sPq P i 0 k p)
def sH2 (P : PM) (i k : Nat) (p : Px) : Bool := sHq P i 0 k p || sHq P i 1 k (sPq P i 0 k p)
def sBg (P : PM) : Px := (P 122 5, 65535, -1)
/-- a point when the panes before i have been drawn, without wo -/
def sPix (P : PM) (wo : Int32) : Nat → Nat → Px
  | 0, _ => sBg P
  | i + 1, k => if P 134 i = 0 ∨ nI i = wo then sPix P wo i k else sP2 P i k (sPix P wo i k)
def sGls (P : PM) : Nat → Nat → Nat
  | 0, _ => 0
  | i + 1, k => sGls P i k + if ¬ P 134 i = 0 ∧ ¬ P 132 i = 0 ∧ sH2 P i k (sPix P (-1) i k) = true then 1 else 0
/-- what holds of the cells always -/
def OK (P : PM) : Prop :=
  (∃ c n : Nat, P 122 1 = nI c ∧ c ≤ 40 ∧ P 122 2 = nI n ∧ n ≤ 30) ∧
  (1 ≤ (P 122 3).toInt ∧ (P 122 3).toInt ≤ 1000) ∧ (1 ≤ (P 122 4).toInt ∧ (P 122 4).toInt ≤ 500) ∧ (0 ≤ (P 122 5).toInt ∧ (P 122 5).toInt ≤ 16777215) ∧
  (∀ a c, a < 3 → -2000 ≤ (P (124 + a) c).toInt ∧ (P (124 + a) c).toInt ≤ 2000) ∧
  (∀ c, 0 ≤ (P 127 c).toInt ∧ (P 127 c).toInt ≤ 16777215) ∧ (∀ c, 0 ≤ (P 128 c).toInt ∧ (P 128 c).toInt ≤ 2047) ∧ (∀ c, 0 ≤ (P 129 c).toInt ∧ (P 129 c).toInt ≤ 2047) ∧
  (∀ j, 0 ≤ (P 130 j).toInt ∧ (P 130 j).toInt < 40) ∧ (∀ j, -1 ≤ (P 131 j).toInt ∧ (P 131 j).toInt ≤ 3) ∧
  (∀ g j, 132 ≤ g → g ≤ 134 → P g j = 0 ∨ P g j = 1) ∧ (∀ j, P 136 j = 0 ∨ P 136 j = 1) ∧
  (∀ j, 0 ≤ (P 135 j).toInt ∧ (P 135 j).toInt ≤ 16777215) ∧ (∀ j, -5000 ≤ (P 137 j).toInt ∧ (P 137 j).toInt ≤ 5000) ∧
  (∀ j, 0 ≤ (P 138 j).toInt ∧ (P 138 j).toInt ≤ 16777215)
def gv0 (v : V) : Prop := (∀ k, k < 3 → -36000 ≤ v k ∧ v k ≤ 36000) ∧ (∀ k, 3 ≤ k → k < 5 → 0 ≤ v k ∧ v k ≤ 2047) ∧ (∀ k, 5 ≤ k → k < 8 → 0 ≤ v k ∧ v k ≤ 255)
def gv (near : Int) (v : V) : Prop := gv0 v ∧ near ≤ v 2
theorem sSeen_rg {P : PM} (h : OK P) (c r : Nat) : -36000 ≤ sSeen P c r ∧ sSeen P c r ≤ 36000 := by
  obtain ⟨-, -, -, -, hp, -, -, -, -, -, -, -, -, hc, -⟩ := h
  unfold sSeen
  have m0 := a_mb (hc (4 * r)).1 (hc (4 * r)).2 (hp 0 c (by omega)).1 (hp 0 c (by omega)).2
  have m1 := a_mb (hc (4 * r + 1)).1 (hc (4 * r + 1)).2 (hp 1 c (by omega)).1 (hp 1 c (by omega)).2
  have m2 := a_mb (hc (4 * r + 2)).1 (hc (4 * r + 2)).2 (hp 2 c (by omega)).1 (hp 2 c (by omega)).2
  have m3 := hc (4 * r + 3)
  simp only [Nat.reduceAdd, Nat.add_zero] at m0 m1 m2
  omega
