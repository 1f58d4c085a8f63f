/-! PURE PART: what holds of the pictures -/
def lo (P : PM) : PM := fun g k => if g < 138 then P g k else 0
def PE (P Q : PM) : Prop := ∀ g k, g < 138 → P g k = Q g k
theorem PE.el {P Q : PM} (h : PE P Q) : lo P = lo Q := by
  funext g k
  show (if g < 138 then P g k else 0) = (if g < 138 then Q g k else 0)
  by_cases q : g < 138
  · rw [if_pos q, if_pos q]; exact h g k q
  · rw [if_neg q, if_neg q]
theorem lo_pane (P : PM) (i : Nat) : sPane (lo P) i = sPane P i := rfl
theorem lo_pcs (P : PM) (i q : Nat) : sPcs (lo P) i q = sPcs P i q := rfl
theorem lo_dep (P : PM) (t : V × V × V) (x y : Int) : sDep (lo P) t x y = sDep P t x y := rfl
theorem lo_col (P : PM) (i : Nat) (t : V × V × V) (x y : Int) : sCol (lo P) i t x y = sCol P i t x y := rfl
theorem lo_pt (P : PM) (i : Nat) (t : V × V × V) (k : Nat) (p : Px) : sPt (lo P) i t k p = sPt P i t k p := rfl
theorem lo_pq (P : PM) (i q k : Nat) (p : Px) : sPq (lo P) i q k p = sPq P i q k p := by
  unfold sPq
  rw [lo_pcs]
  cases sPcs P i q <;> rfl
theorem sPix_lo (P : PM) (wo : Int32) (k : Nat) : ∀ i, sPix (lo P) wo i k = sPix P wo i k := by
  intro i
  induction i with
  | zero => rfl
  | succ i ih =>
    show (if lo P 134 i = 0 ∨ nI i = wo then sPix (lo P) wo i k else sPq (lo P) i 1 k (sPq (lo P) i 0 k (sPix (lo P) wo i k))) = (if P 134 i = 0 ∨ nI i = wo then sPix P wo i k else sPq P i 1 k (sPq P i 0 k (sPix P wo i k)))
    rw [ih, lo_pq, lo_pq]
    rfl
theorem PE.pix {P Q : PM} (h : PE P Q) (wo : Int32) (i k : Nat) : sPix P wo i k = sPix Q wo i k := by rw [← sPix_lo P, h.el, sPix_lo]
theorem PE.eN {P Q : PM} (h : PE P Q) : sN P = sN Q := by show (P 122 2).toNatClampNeg = (Q 122 2).toNatClampNeg; rw [h 122 2 (by omega)]
theorem PE.eC {P Q : PM} (h : PE P Q) : sC1 P = sC1 Q := by show (P 122 1).toNatClampNeg = (Q 122 1).toNatClampNeg; rw [h 122 1 (by omega)]
theorem PE.n {P Q : PM} (h : PE P Q) (k : Nat) : nPx P k = nPx Q k := by
  show sPix P (-1) (sN P) k = sPix Q (-1) (sN Q) k
  rw [h.eN, h.pix]
theorem PE_pic (P : PM) (f : Nat → Px) : PE P (picP P f) := fun g k hg => (picP_o P f (by omega)).symm
/-- the picture is what would be painted -/
def pd (Q : PM) : Prop := ∀ k, k < 960 → pPx Q k = nPx Q k
theorem pd_pic (P : PM) : pd (picP P (nPx P)) := fun k hk => by
  obtain ⟨a, b, c⟩ := picP_8 P (nPx P) hk
  rw [← (PE_pic P (nPx P)).n k]
  unfold pPx
  rw [a, b, c]
theorem pd_same {Q : PM} (h : pd Q) : picP Q (nPx Q) = Q := by
  funext g k
  by_cases q : 138 ≤ g ∧ g ≤ 140 ∧ k < 960
  · obtain ⟨a, b, c⟩ := picP_8 Q (nPx Q) q.2.2
    have e := h k q.2.2
    rcases (show g = 138 ∨ g = 139 ∨ g = 140 by omega) with rfl | rfl | rfl
    · rw [a, ← e]; rfl
    · rw [b, ← e]; rfl
    · rw [c, ← e]; rfl
  · exact picP_o _ _ q
theorem pd_stale {Q : PM} (h : pd Q) : sStale Q = 0 := by
  unfold sStale
  rw [cntB_congr (g := fun _ => false) fun t _ => ?_, cntB_ff]
  rw [Bool.eq_false_iff]
  intro q
  obtain ⟨k, h1, h2, h3⟩ := dTile_iff.mp q
  exact h3 (h k h1).symm
theorem sFst_q {P : PM} {p x y : Nat} {t : V × V × V} (h : sFst P p x y = some t) : ∃ q, q < 2 ∧ sPcs P p q = some t ∧ sIn (sFoc P) t x y := by
  unfold sFst at h
  by_cases h0 : sLq P p 0 x y = true
  · rw [if_pos h0] at h
    exact ⟨0, by omega, h, (sLq_some h).mp h0⟩
  · rw [if_neg h0] at h
    by_cases h1 : sLq P p 1 x y = true
    · rw [if_pos h1] at h
      exact ⟨1, by omega, h, (sLq_some h).mp h1⟩
    · rw [if_neg h1] at h
      cases h
theorem sFst_n {P : PM} {p x y : Nat} : sFst P p x y = none ↔ (sLq P p 0 x y = false ∧ sLq P p 1 x y = false) := by
  constructor
  · intro h
    unfold sFst at h
    by_cases h0 : sLq P p 0 x y = true
    · rw [if_pos h0] at h
      rw [sLq_none h] at h0
      cases h0
    · rw [if_neg h0] at h
      by_cases h1 : sLq P p 1 x y = true
      · rw [if_pos h1] at h
        rw [sLq_none h] at h1
        cases h1
      · exact ⟨by rw [Bool.eq_false_iff]; exact h0, by rw [Bool.eq_false_iff]; exact h1⟩
  · rintro ⟨h0, h1⟩
    exact sFst_no h0 h1
theorem sLies_n {P : PM} {p k : Nat} : sLies P p k = false ↔ sFst P p (k % 40) (k / 40) = none := by
  rw [sFst_n]
  unfold sLies
  rw [Bool.or_eq_false_iff]
/-- a point of a drawn picture -/
def pxq (P : PM) (n k : Nat) (p : Px) : Prop := (p.2.1 = 65535 ∧ p.2.2 = -1) ∨ ∃ i, i < n ∧ p.2.2 = nI i ∧ P 134 i ≠ 0 ∧ P 132 i = 0 ∧ sFst P i (k % 40) (k / 40) ≠ none
theorem sPq_q {P : PM} {n i q k : Nat} {p : Px} (h : pxq P n k p) (hi : i < n) (hs : P 134 i ≠ 0) (hq : q < 2) : pxq P n k (sPq P i q k p) := by
  unfold sPq
  rcases e : sPcs P i q with _ | t
  · exact h
  · show pxq P n k (sPt P i t k p)
    unfold sPt
    by_cases hit : sHit P t k p
    · rw [if_pos hit]
      by_cases h2 : P 132 i = 0
      · rw [if_pos h2]
        refine Or.inr ⟨i, hi, rfl, hs, h2, fun hn => ?_⟩
        have hl := (sLq_some e).mpr hit.1
        obtain ⟨a, b⟩ := sFst_n.mp hn
        rcases (show q = 0 ∨ q = 1 by omega) with rfl | rfl
        · rw [a] at hl; cases hl
        · rw [b] at hl; cases hl
      · rw [if_neg h2]; exact h
    · rw [if_neg hit]; exact h
theorem sPix_q (P : PM) (k n : Nat) : ∀ i, i ≤ n → pxq P n k (sPix P (-1) i k) := by
  intro i
  induction i with
  | zero => intro _; exact Or.inl ⟨rfl, rfl⟩
  | succ i ih =>
    intro hi
    have ih := ih (by omega)
    show pxq P n k (if P 134 i = 0 ∨ nI i = -1 then sPix P (-1) i k else sPq P i 1 k (sPq P i 0 k (sPix P (-1) i k)))
    by_cases c : P 134 i = 0 ∨ nI i = -1
    · rw [if_pos c]; exact ih
    · rw [if_neg c]
      have hs : P 134 i ≠ 0 := fun e => c (Or.inl e)
      exact sPq_q (sPq_q ih (by omega) hs (by omega)) (by omega) hs (by omega)
theorem pd_q {Q : PM} (h : pd Q) {k : Nat} (hk : k < 960) : (Q 139 k = 65535 ∧ Q 140 k = -1) ∨ ∃ i, i < sN Q ∧ Q 140 k = nI i ∧ Q 134 i ≠ 0 ∧ Q 132 i = 0 ∧ sFst Q i (k % 40) (k / 40) ≠ none := by
  have q : pxq Q (sN Q) k (pPx Q k) := by rw [h k hk]; exact sPix_q Q k (sN Q) (sN Q) (Nat.le_refl _)
  exact q
theorem sDp_in' {near : Int} {v : V} (hn : 1 ≤ near) (h : gv near v) : 0 ≤ sDp near v ∧ sDp near v ≤ 65534 := by
  have h1 := sDp_in hn h
  have h2 := h.2
  have h3 := (h.1.1 2 (by omega)).2
  have h4 : 1 ≤ 65535 * near / v 2 := Int.le_ediv_of_mul_le (by omega) (by omega)
  unfold sDp at h1 ⊢
  omega
theorem sDep_hi {P : PM} {t : V × V × V} {x y : Int} (hO : OK P) (ht : tOK P t) (hi : sIn (sFoc P) t x y) : 0 ≤ sDep P t x y ∧ sDep P t x y ≤ 65534 :=
  sMean_rg ht hi (sDp_in' hO.2.1.1 ht.1) (sDp_in' hO.2.1.1 ht.2.1) (sDp_in' hO.2.1.1 ht.2.2.1)
theorem sDepO_rg {P : PM} {p x y : Nat} (hO : OK P) : (sFst P p x y = none ∧ sDepO P p x y = -1 ∧ sColO P p x y = -1) ∨ (sFst P p x y ≠ none ∧ (0 ≤ sDepO P p x y ∧ sDepO P p x y ≤ 65534) ∧ 0 ≤ sColO P p x y ∧ sColO P p x y ≤ 16777215) := by
  unfold sDepO sColO
  rcases e : sFst P p x y with _ | t
  · exact Or.inl ⟨rfl, rfl, rfl⟩
  · obtain ⟨q, hq, h1, h2⟩ := sFst_q e
    have ht := sPcs_ok hO h1
    exact Or.inr ⟨(fun h => by cases h), sDep_hi hO ht h2, sCol_rg hO ht h2 p⟩
theorem sPane_l3 (P : PM) (p : Nat) : (sPane P p).length = 0 ∨ (sPane P p).length = 3 ∨ (sPane P p).length = 4 := by
  unfold sPane sPoly
  rw [List.length_append, List.length_append, sEdge_len, sEdge_len, sEdge_len]
  generalize sVtx P (sOf P p 0) 2 = a
  generalize sVtx P (sOf P p 1) 2 = b
  generalize sVtx P (sOf P p 2) 2 = c
  by_cases h1 : sNear P ≤ a <;> by_cases h2 : sNear P ≤ b <;> by_cases h3 : sNear P ≤ c <;> simp [h1, h2, h3]
theorem sPcs_len {P : PM} {i q : Nat} {t : V × V × V} (h : sPcs P i q = some t) : q + 2 < (sPane P i).length := by
  refine Nat.lt_of_not_le fun hn => ?_
  have e : (sPane P i)[q + 2]? = none := List.getElem?_eq_none hn
  unfold sPcs at h
  rw [e] at h
  split at h
  · rename_i h3; cases h3
  · cases h
theorem sDrawn_le (P : PM) (p q : Nat) : sDrawn P p q ≤ 1 ∧ (sDrawn P p q = 0 ↔ sPcs P p q = none) := by
  unfold sDrawn
  cases sPcs P p q with
  | none => exact ⟨Nat.zero_le 1, by simp⟩
  | some t => exact ⟨Nat.le_refl 1, by simp⟩
theorem sPieces_le (P : PM) (p : Nat) : sPieces P p ≤ (sPane P p).length - 2 := by
  unfold sPieces
  have h0 := sDrawn_le P p 0
  have h1 := sDrawn_le P p 1
  have k0 : sDrawn P p 0 ≠ 0 → 2 < (sPane P p).length := fun h => by
    rcases e : sPcs P p 0 with _ | t
    · exact absurd (h0.2.mpr e) h
    · exact sPcs_len e
  have k1 : sDrawn P p 1 ≠ 0 → 3 < (sPane P p).length := fun h => by
    rcases e : sPcs P p 1 with _ | t
    · exact absurd (h1.2.mpr e) h
    · exact sPcs_len e
  omega
theorem sPieces_0 {P : PM} {p : Nat} (h : sPieces P p = 0) : sPoints P p = 0 := by
  unfold sPieces at h
  have e0 := (sDrawn_le P p 0).2.mp (by omega)
  have e1 := (sDrawn_le P p 1).2.mp (by omega)
  unfold sPoints
  rw [cntB_congr (g := fun _ => false) fun k _ => ?_, cntB_ff]
  unfold sLies
  rw [sLq_none e0, sLq_none e1]
  rfl
theorem m1_ne {i : Nat} (h : i < 1000) : (-1 : Int32) ≠ nI i := fun q => by
  have := congrArg Int32.toInt q
  rw [n_int (by omega), tv_m1] at this
  omega
theorem sWith_0 {Q : PM} {p : Nat} (hO : OK Q) (h : pd Q) (hp : p < sN Q) (hh : Q 134 p = 0) : sWith Q p = 0 := by
  obtain ⟨-, n2, -, -⟩ := sN_of hO
  unfold sWith
  rw [cntB_congr (g := fun _ => false) fun k hk => ?_, cntB_ff]
  rw [decide_eq_false_iff_not]
  rcases pd_q h hk with ⟨-, e⟩ | ⟨i, hi, e, hs, -⟩
  · rw [e]; exact m1_ne (by omega)
  · rw [e, n_eq (by omega) (by omega)]
    intro q
    rw [q] at hs
    exact hs hh
/-- how many of all f's hold before n -/
def sumB (f : Nat → Nat → Bool) (n : Nat) : Nat → Nat
  | 0 => 0
  | N + 1 => sumB f n N + cntB (f N) n
theorem sumB_0 (f : Nat → Nat → Bool) : ∀ N, sumB f 0 N = 0 := by
  intro N
  induction N with
  | zero => rfl
  | succ N ih => show sumB f 0 N + 0 = 0; rw [ih]
theorem sumB_s (f : Nat → Nat → Bool) (n : Nat) : ∀ N, sumB f (n + 1) N = sumB f n N + cntB (fun p => f p n) N := by
  intro N
  induction N with
  | zero => rfl
  | succ N ih =>
    show sumB f (n + 1) N + (cntB (f N) n + if f N n = true then 1 else 0) = (sumB f n N + cntB (f N) n) + (cntB (fun p => f p n) N + if f N n = true then 1 else 0)
    rw [ih]; omega
theorem cnt_one {i : Nat} (hi : i < 1000) : ∀ N, N ≤ 100 → cntB (fun p => decide (nI i = nI p)) N = if i < N then 1 else 0 := by
  intro N
  induction N with
  | zero => intro _; rw [if_neg (by omega)]; rfl
  | succ N ih =>
    intro hN
    show cntB (fun p => decide (nI i = nI p)) N + (if decide (nI i = nI N) = true then 1 else 0) = _
    rw [ih (by omega)]
    by_cases e : i = N
    · rw [if_neg (by omega), if_pos (by rw [e]; exact decide_eq_true rfl), if_pos (by omega)]
    · rw [if_neg (c := decide (nI i = nI N) = true) (by rw [decide_eq_true_eq, n_eq (by omega) (by omega)]; exact e)]
      by_cases q : i < N
      · rw [if_pos q, if_pos (by omega)]
      · rw [if_neg q, if_neg (by omega)]
def sNone (Q : PM) : Nat := cntB (fun k => decide (Q 140 k = -1)) 960
def sAll (Q : PM) : Nat → Nat := sumB (fun p k => decide (Q 140 k = nI p)) 960
theorem sum_all {Q : PM} (hO : OK Q) (h : pd Q) : sNone Q + sAll Q (sN Q) = 960 := by
  obtain ⟨-, n2, -, -⟩ := sN_of hO
  have key : ∀ n, n ≤ 960 → cntB (fun k => decide (Q 140 k = -1)) n + sumB (fun p k => decide (Q 140 k = nI p)) n (sN Q) = n := by
    intro n
    induction n with
    | zero => intro _; rw [sumB_0]; rfl
    | succ n ih =>
      intro hn
      have ih := ih (by omega)
      rw [sumB_s]
      show (cntB (fun k => decide (Q 140 k = -1)) n + if decide (Q 140 n = -1) = true then 1 else 0) + _ = _
      rcases pd_q h (show n < 960 by omega) with ⟨-, e⟩ | ⟨i, hi, e, -⟩
      · rw [if_pos (decide_eq_true e), cntB_congr (f := fun p => decide (Q 140 n = nI p)) (g := fun _ => false) fun p hp => ?_, cntB_ff]
        · omega
        · rw [decide_eq_false_iff_not, e]; exact m1_ne (by omega)
      · rw [if_neg (by rw [decide_eq_true_eq, e]; exact (m1_ne (by omega)).symm), e, cnt_one (by omega) _ (by omega), if_pos hi]
        omega
  exact key 960 (Nat.le_refl _)
theorem cntB_0 {f : Nat → Bool} {n : Nat} (h : cntB f n = 0) {k : Nat} (hk : k < n) : f k = false := by
  induction n with
  | zero => omega
  | succ n ih =>
    have h : cntB f n + (if f n = true then 1 else 0) = 0 := h
    by_cases q : k = n
    · subst q
      rw [Bool.eq_false_iff]
      intro e
      rw [if_pos e] at h
      omega
    · exact ih (by omega) (by omega)
theorem cntB_full {f : Nat → Bool} {n : Nat} (h : cntB f n = n) {k : Nat} (hk : k < n) : f k = true := by
  induction n with
  | zero => omega
  | succ n ih =>
    have h : cntB f n + (if f n = true then 1 else 0) = n + 1 := h
    have l := cntB_le f n
    by_cases e : f n = true
    · rw [if_pos e] at h
      by_cases q : k = n
      · subst q; exact e
      · exact ih (by omega) (by omega)
    · rw [if_neg e] at h; omega
theorem cntB_ex {f : Nat → Bool} {n : Nat} (h : 0 < cntB f n) : ∃ k, k < n ∧ f k = true := by
  induction n with
  | zero => exact absurd h (by show ¬ 0 < 0; omega)
  | succ n ih =>
    have h : 0 < cntB f n + (if f n = true then 1 else 0) := h
    by_cases e : f n = true
    · exact ⟨n, by omega, e⟩
    · rw [if_neg e] at h
      obtain ⟨k, h1, h2⟩ := ih (by omega)
      exact ⟨k, by omega, h2⟩
theorem sGr_q (P : PM) : ∀ n, ((sGr P n).1 = -1 ∧ (sGr P n).2 = 0 ∧ ∀ i, i < n → sCnt9 P i = 0) ∨ (∃ j, j < n ∧ (sGr P n).1 = nI j ∧ 0 < sCnt9 P j) := by
  intro n
  induction n with
  | zero => exact Or.inl ⟨rfl, rfl, fun i hi => by omega⟩
  | succ n ih =>
    have eg : sGr P (n + 1) = if (sGr P n).2 < sCnt9 P n then (nI n, sCnt9 P n) else sGr P n := rfl
    rw [eg]
    by_cases c : (sGr P n).2 < sCnt9 P n
    · rw [if_pos c]
      exact Or.inr ⟨n, by omega, rfl, by omega⟩
    · rw [if_neg c]
      rcases ih with ⟨h1, h2, h3⟩ | ⟨j, h1, h2, h3⟩
      · refine Or.inl ⟨h1, h2, fun i hi => ?_⟩
        by_cases q : i = n
        · subst q; omega
        · exact h3 i (by omega)
      · exact Or.inr ⟨j, by omega, h2, h3⟩
theorem gr_none {Q : PM} (hO : OK Q) (h : pd Q) : (sNone Q = 960 ∧ (sGr Q (sN Q)).1 = -1) ∨ (sNone Q ≠ 960 ∧ ∃ j, j < 30 ∧ (sGr Q (sN Q)).1 = nI j) := by
  obtain ⟨-, n2, -, -⟩ := sN_of hO
  rcases sGr_q Q (sN Q) with ⟨h1, -, h3⟩ | ⟨j, h1, h2, h3⟩
  · refine Or.inl ⟨?_, h1⟩
    unfold sNone
    refine cntB_all fun k hk => ?_
    rw [decide_eq_true_eq]
    rcases pd_q h hk with ⟨-, e⟩ | ⟨i, hi, e, -⟩
    · exact e
    · exfalso
      have q := cntB_0 (h3 i hi) hk
      unfold sOwn at q
      rw [decide_eq_false_iff_not, ← h k hk] at q
      exact q e
  · refine Or.inr ⟨fun hf => ?_, j, by omega, h2⟩
    obtain ⟨k, hk, q⟩ := cntB_ex h3
    unfold sOwn at q
    rw [decide_eq_true_eq, ← h k hk] at q
    have e := of_decide_eq_true (cntB_full hf hk)
    exact m1_ne (show j < 1000 by omega) (e.symm.trans q)
/-- panes before i hidden -/
def hid (Q : PM) (i : Nat) : PM := fun g k => if g = 134 ∧ k < i then 0 else Q g k
theorem hid_o {Q : PM} {i g k : Nat} (h : g ≠ 134) : hid Q i g k = Q g k := if_neg fun q => h q.1
theorem hid_0 (Q : PM) : hid Q 0 = Q := by funext g k; exact if_neg (by omega)
theorem hid_s (Q : PM) (i : Nat) : u2 (hid Q i) 134 i 0 = hid Q (i + 1) := by
  funext g k
  rw [u2_at]
  unfold hid
  by_cases c : g = 134 ∧ k = i
  · rw [if_pos c, if_pos ⟨c.1, by omega⟩]
  · rw [if_neg c]
    by_cases d : g = 134 ∧ k < i
    · rw [if_pos d, if_pos ⟨d.1, by omega⟩]
    · rw [if_neg d, if_neg (by omega)]
/-- nothing shown -/
theorem hid_pix {H : PM} {n : Nat} (h : ∀ j, j < n → H 134 j = 0) (k : Nat) : ∀ i, i ≤ n → sPix H (-1) i k = sBg H := by
  intro i
  induction i with
  | zero => intro _; rfl
  | succ i ih =>
    intro hi
    show (if H 134 i = 0 ∨ nI i = -1 then sPix H (-1) i k else sP2 H i k (sPix H (-1) i k)) = _
    rw [if_pos (Or.inl (h i (by omega)))]
    exact ih (by omega)
theorem bg_dist {D : PM} {c : Int32} (h : ∀ k, k < 960 → D 138 k = c) : sDist D = 1 := by
  have key : ∀ n, n < 960 → cntB (sNew D) (n + 1) = 1 := by
    intro n
    induction n with
    | zero =>
      intro _
      show 0 + (if sNew D 0 = true then 1 else 0) = 1
      rw [if_pos (sNew_iff.mpr fun j hj => by omega)]
    | succ n ih =>
      intro hn
      show cntB (sNew D) (n + 1) + (if sNew D (n + 1) = true then 1 else 0) = 1
      rw [ih (by omega), if_neg fun q => sNew_iff.mp q 0 (by omega) (by rw [h 0 (by omega), h (n + 1) hn])]
  exact key 959 (by omega)
theorem bg_gr {D : PM} (hO : OK D) (h : ∀ k, nPx D k = sBg D) : (sGr D (sN D)).1 = -1 := by
  obtain ⟨-, n2, -, -⟩ := sN_of hO
  rcases sGr_q D (sN D) with ⟨h1, -, -⟩ | ⟨j, h1, h2, h3⟩
  · exact h1
  · exfalso
    obtain ⟨k, hk, q⟩ := cntB_ex h3
    unfold sOwn at q
    rw [decide_eq_true_eq, h k] at q
    exact m1_ne (show j < 1000 by omega) q
/-- panes before i shown again as in Q -/
def rst (Q D : PM) (i : Nat) : PM := fun g k => if g = 134 ∧ k < i then Q g k else D g k
theorem rst_o {Q D : PM} {i g k : Nat} (h : g ≠ 134) : rst Q D i g k = D g k := if_neg fun q => h q.1
theorem rst_0 (Q D : PM) : rst Q D 0 = D := by funext g k; exact if_neg (by omega)
theorem rst_s (Q D : PM) (i : Nat) : u2 (rst Q D i) 134 i (Q 134 i) = rst Q D (i + 1) := by
  funext g k
  rw [u2_at]
  unfold rst
  by_cases c : g = 134 ∧ k = i
  · rw [if_pos c, if_pos ⟨c.1, by omega⟩, c.1, c.2]
  · rw [if_neg c]
    by_cases d : g = 134 ∧ k < i
    · rw [if_pos d, if_pos ⟨d.1, by omega⟩]
    · rw [if_neg d, if_neg (by omega)]
theorem rst_end {Q : PM} {f : Nat → Px} (h : pd Q) (n : Nat) : picP (rst Q (picP (hid Q n) f) n) (nPx (rst Q (picP (hid Q n) f) n)) = Q := by
  have base : ∀ g k, ¬ (138 ≤ g ∧ g ≤ 140 ∧ k < 960) → rst Q (picP (hid Q n) f) n g k = Q g k := fun g k hq => by
    unfold rst
    by_cases c : g = 134 ∧ k < n
    · rw [if_pos c]
    · rw [if_neg c, picP_o _ _ hq]
      unfold hid
      rw [if_neg c]
  have pe : PE (rst Q (picP (hid Q n) f) n) Q := fun g k hg => base g k (by omega)
  funext g k
  by_cases q : 138 ≤ g ∧ g ≤ 140 ∧ k < 960
  · obtain ⟨a, b, c⟩ := picP_8 (rst Q (picP (hid Q n) f) n) (nPx (rst Q (picP (hid Q n) f) n)) q.2.2
    have e := h k q.2.2
    rw [pe.n k, ← e] at a b c
    rcases (show g = 138 ∨ g = 139 ∨ g = 140 by omega) with rfl | rfl | rfl
    · rw [a]; rfl
    · rw [b]; rfl
    · rw [c]; rfl
  · rw [picP_o _ _ q, base g k q]
theorem pM_back (Q : PM) (c : Nat) (a b d : Int32) : pM (pM Q c a b d) c (Q 124 c) (Q 125 c) (Q 126 c) = Q := by
  funext g k
  unfold pM
  simp only [u2_at]
  by_cases h : k = c
  · subst h
    by_cases h6 : g = 126
    · subst h6; simp
    · by_cases h5 : g = 125
      · subst h5; simp
      · by_cases h4 : g = 124
        · subst h4; simp
        · simp [h4, h5, h6]
  · simp [h]
