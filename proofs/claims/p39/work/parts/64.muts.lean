/-! PURE PART: calls that set something -/
theorem okC_pl {g k : Nat} {v : Int32} (h : 124 ≤ g ∧ g ≤ 126) (hv : inR v (-2000) 2000) : okC g k v := by
  refine ⟨fun q => ?_, fun q => ?_, fun q => ?_, fun q => ?_, fun q => ?_, fun q => ?_, fun q => ?_, fun q => ?_, fun q => ?_, fun q => ?_, fun q => ?_, fun q => ?_, fun q => ?_, fun q => ?_, fun q => ?_, fun q => ?_⟩ <;> first | (exfalso; omega) | exact hv
theorem okC_col {g k : Nat} {v : Int32} (h : g = 127 ∨ g = 135 ∨ g = 138 ∨ (g = 122 ∧ k = 5)) (hv : inR v 0 16777215) : okC g k v := by
  refine ⟨fun q => ?_, fun q => ?_, fun q => ?_, fun q => ?_, fun q => ?_, fun q => ?_, fun q => ?_, fun q => ?_, fun q => ?_, fun q => ?_, fun q => ?_, fun q => ?_, fun q => ?_, fun q => ?_, fun q => ?_, fun q => ?_⟩ <;> first | (exfalso; omega) | exact hv
theorem okC_uv {g k : Nat} {v : Int32} (h : g = 128 ∨ g = 129) (hv : inR v 0 2047) : okC g k v := by
  refine ⟨fun q => ?_, fun q => ?_, fun q => ?_, fun q => ?_, fun q => ?_, fun q => ?_, fun q => ?_, fun q => ?_, fun q => ?_, fun q => ?_, fun q => ?_, fun q => ?_, fun q => ?_, fun q => ?_, fun q => ?_, fun q => ?_⟩ <;> first | (exfalso; omega) | exact hv
theorem okC_c1 {n : Nat} {v : Int32} (e : v = nI n) (h : n ≤ 40) : okC 122 1 v := by
  refine ⟨fun q => ?_, fun q => ?_, fun q => ?_, fun q => ?_, fun q => ?_, fun q => ?_, fun q => ?_, fun q => ?_, fun q => ?_, fun q => ?_, fun q => ?_, fun q => ?_, fun q => ?_, fun q => ?_, fun q => ?_, fun q => ?_⟩ <;> first | (exfalso; omega) | exact ⟨n, e, h⟩
theorem okC_c2 {n : Nat} {v : Int32} (e : v = nI n) (h : n ≤ 30) : okC 122 2 v := by
  refine ⟨fun q => ?_, fun q => ?_, fun q => ?_, fun q => ?_, fun q => ?_, fun q => ?_, fun q => ?_, fun q => ?_, fun q => ?_, fun q => ?_, fun q => ?_, fun q => ?_, fun q => ?_, fun q => ?_, fun q => ?_, fun q => ?_⟩ <;> first | (exfalso; omega) | exact ⟨n, e, h⟩
theorem okC_near {v : Int32} (hv : inR v 1 1000) : okC 122 3 v := by
  refine ⟨fun q => ?_, fun q => ?_, fun q => ?_, fun q => ?_, fun q => ?_, fun q => ?_, fun q => ?_, fun q => ?_, fun q => ?_, fun q => ?_, fun q => ?_, fun q => ?_, fun q => ?_, fun q => ?_, fun q => ?_, fun q => ?_⟩ <;> first | (exfalso; omega) | exact hv
theorem okC_foc {v : Int32} (hv : inR v 1 500) : okC 122 4 v := by
  refine ⟨fun q => ?_, fun q => ?_, fun q => ?_, fun q => ?_, fun q => ?_, fun q => ?_, fun q => ?_, fun q => ?_, fun q => ?_, fun q => ?_, fun q => ?_, fun q => ?_, fun q => ?_, fun q => ?_, fun q => ?_, fun q => ?_⟩ <;> first | (exfalso; omega) | exact hv
theorem okC_of {k : Nat} {v : Int32} (hv : 0 ≤ v.toInt ∧ v.toInt < 40) : okC 130 k v := by
  refine ⟨fun q => ?_, fun q => ?_, fun q => ?_, fun q => ?_, fun q => ?_, fun q => ?_, fun q => ?_, fun q => ?_, fun q => ?_, fun q => ?_, fun q => ?_, fun q => ?_, fun q => ?_, fun q => ?_, fun q => ?_, fun q => ?_⟩ <;> first | (exfalso; omega) | exact hv
theorem okC_pat {k : Nat} {v : Int32} (hv : inR v (-1) 3) : okC 131 k v := by
  refine ⟨fun q => ?_, fun q => ?_, fun q => ?_, fun q => ?_, fun q => ?_, fun q => ?_, fun q => ?_, fun q => ?_, fun q => ?_, fun q => ?_, fun q => ?_, fun q => ?_, fun q => ?_, fun q => ?_, fun q => ?_, fun q => ?_⟩ <;> first | (exfalso; omega) | exact hv
theorem okC_tf {g k : Nat} {v : Int32} (h : (132 ≤ g ∧ g ≤ 134) ∨ g = 136) (hv : v = 0 ∨ v = 1) : okC g k v := by
  refine ⟨fun q => ?_, fun q => ?_, fun q => ?_, fun q => ?_, fun q => ?_, fun q => ?_, fun q => ?_, fun q => ?_, fun q => ?_, fun q => ?_, fun q => ?_, fun q => ?_, fun q => ?_, fun q => ?_, fun q => ?_, fun q => ?_⟩ <;> first | (exfalso; omega) | exact hv
theorem okC_cam {k : Nat} {v : Int32} (hv : -5000 ≤ v.toInt ∧ v.toInt ≤ 5000) : okC 137 k v := by
  refine ⟨fun q => ?_, fun q => ?_, fun q => ?_, fun q => ?_, fun q => ?_, fun q => ?_, fun q => ?_, fun q => ?_, fun q => ?_, fun q => ?_, fun q => ?_, fun q => ?_, fun q => ?_, fun q => ?_, fun q => ?_, fun q => ?_⟩ <;> first | (exfalso; omega) | exact hv
theorem okC_no {g k : Nat} {v : Int32} (h : g = 139 ∨ g = 140) : okC g k v := by
  refine ⟨fun q => ?_, fun q => ?_, fun q => ?_, fun q => ?_, fun q => ?_, fun q => ?_, fun q => ?_, fun q => ?_, fun q => ?_, fun q => ?_, fun q => ?_, fun q => ?_, fun q => ?_, fun q => ?_, fun q => ?_, fun q => ?_⟩ <;> (exfalso; omega)
theorem tv_0 : (0 : Int32).toInt = 0 := rfl
theorem tv_2047 : (2047 : Int32).toInt = 2047 := rfl
theorem tv_m1 : (-1 : Int32).toInt = -1 := by decide
theorem tv_3 : (3 : Int32).toInt = 3 := rfl
theorem tv_7 : (7 : Int32).toInt = 7 := rfl
theorem tv_2 : (2 : Int32).toInt = 2 := rfl
theorem tv_1 : (1 : Int32).toInt = 1 := rfl
theorem tv_5 : (5 : Int32).toInt = 5 := rfl
theorem tv_14 : (14 : Int32).toInt = 14 := rfl
theorem tv_1000 : (1000 : Int32).toInt = 1000 := rfl
theorem tv_500 : (500 : Int32).toInt = 500 := rfl
theorem tv_4096 : (4096 : Int32).toInt = 4096 := rfl
theorem tv_m4096 : (-4096 : Int32).toInt = -4096 := by decide
theorem tv_5000 : (5000 : Int32).toInt = 5000 := rfl
theorem tv_m5000 : (-5000 : Int32).toInt = -5000 := by decide
theorem nrf {P : PM} {M : GM} (hC : CS P M) : CS P M ∧ ∀ g k, 122 ≤ g → gI M g k = gI M g k := ⟨hC, fun _ _ _ => rfl⟩
theorem tf_ok {v : Int32} (h : v = 0 ∨ v = 1) : gTf v = true := by rcases h with rfl | rfl <;> decide
