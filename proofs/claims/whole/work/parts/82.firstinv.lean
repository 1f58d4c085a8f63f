/-! THE FIRST MEMORY keeps the invariant; the cells made are its world; the walk from the entry -/
theorem st_arr {c : ClassId} {n : Nat} {f f2 : Nat → Value} (h : ∀ j, j < n → f j = f2 j) : arrV c n f = arrV c n f2 := by
  unfold arrV
  exact congrArg (fun q : Fin n → Value => ({ cls := c, slots := Array.ofFn q, vm := .none } : Cell)) (funext fun j => h j.val j.isLt)
theorem ce_at {z : GZ} {a : Nat} {e e2 : va_E} {H : Heap} (h : CE e e2) (hat : va_at (gD z) vwCl (a, e) H) : va_at (gD z) vwCl (a, e2) H := by
  rcases h with rfl | ⟨c, n, f, f2, rfl, rfl, hf⟩ | ⟨c, n, f, f2, rfl, rfl, hf⟩
  · exact hat
  · have hat : H[a]? = some (vp_cell c (n, .inl f)) := hat
    show H[a]? = some (vp_cell c (n, .inl f2))
    rw [hat, vp_cell_i, vp_cell_i, st_arr (fun j hj => by rw [hf j hj])]
  · have hat : H[a]? = some (vp_cell c (n, .inr (.inr (.inr (.inr f))))) := hat
    show H[a]? = some (vp_cell c (n, .inr (.inr (.inr (.inr f2)))))
    rw [hat, vp_cell_q, vp_cell_q, st_arr (fun j hj => by rw [hf j hj])]
theorem st_P {z : GZ} {M : GM} {es : List va_E} {H : Heap} (ha : ∀ g, gad z g = gB z + g) (hl : es.length = gn) (hc : cz z M 0 es) (hP : va_P (gD z) vwCl (dW (gB z) es) H) : va_P (gD z) vwCl (gW z M) H := by
  intro k q hk
  have hk2 : k < gn := by
    have := (List.getElem?_eq_some_iff.mp hk).1
    simpa [gW] using this
  rw [gW_get z M hk2] at hk
  cases hk
  have he : es[k]? = some (es[k]'(by rw [hl]; exact hk2)) := List.getElem?_eq_getElem _
  have h1 := cz_get es 0 k _ hc he
  rw [Nat.zero_add] at h1
  rw [ha]
  exact ce_at h1 (hP k _ (dW_at he))
/-- all cells, as they are made -/
def es10 (z : GZ) : List va_E := (own10 z 0 40 30 4) ++ ((List.replicate 40 (.inr (3, [.int 0, .int 0, .int 0, .int 0, .int 0, .int 0]))) ++ ((List.replicate 30 (.inr (4, [.int 0, .int 0, .int 0, .int 0, .int 0, .int 0, .int 0]))) ++ ((List.range 4).flatMap (fun m => ([.inr (5, [.ref (gad z (0 + 114 + 2 * m + 1)), .int 1]), .inl (gcy z 20, 64, .inl (fun _ => 0))] : List va_E)))))
def es11 (z : GZ) : List va_E := es10 z ++ own11 z 122 (fun j => if j < 960 then 0 else 0) (fun j => if j < 960 then 65535 else 0) (fun j => if j < 960 then (-1) else 0)
def es12 (z : GZ) : List va_E := es11 z ++ [.inl (gcy z 21, 1, .inr (.inl (fun _ => 0)))]
theorem es10_len (z : GZ) : (es10 z).length = 122 := by
  unfold es10
  rw [List.length_append, own10_len, List.length_append, List.length_replicate, List.length_append, List.length_replicate, pats_len]
theorem es11_len (z : GZ) : (es11 z).length = 162 := by
  unfold es11
  rw [List.length_append, es10_len, own11_len]
theorem es12_len (z : GZ) : (es12 z).length = gn := by
  unfold es12
  rw [List.length_append, es11_len]
  rfl
theorem es12_cz (z : GZ) : cz z M0 0 (es12 z) := by
  unfold es12 es11 es10
  refine cz_app _ _ 0 (cz_app _ _ 0 (cz_app _ _ 0 cz_10 ?_) ?_) ?_
  · rw [own10_len]
    refine cz_app _ _ (0 + 44) cz_c ?_
    rw [List.length_replicate]
    refine cz_app _ _ (0 + 44 + 40) cz_p ?_
    rw [List.length_replicate]
    exact cz_t
  · have h := es10_len z
    unfold es10 at h
    rw [h]
    exact cz_11
  · have h := es11_len z
    unfold es11 es10 at h
    rw [h]
    exact cz_cons (g2 := 163) rfl (ce_l (g := 162) (by decide +kernel) (by decide +kernel)) cz_nil
theorem m0_inv : Inv m0I M0 := by
  have z0 : ∀ g, (g = 0 ∨ (124 ≤ g ∧ g ≤ 135) ∨ (44 ≤ g ∧ g ≤ 113)) → ∀ k, m0I g k = 0 := fun g h k => congrFun (m0_z (g := g) (by omega)) k
  have zp : ∀ t, t < 4 → ∀ k, m0I (115 + 2 * t) k = 0 := fun t ht k => congrFun (m0_z (g := 115 + 2 * t) (by omega)) k
  have z28 : ∀ k, m0I 28 k = 0 := fun k => congrFun (m0_z (g := 28) (by decide)) k
  have z138 : ∀ k, m0I 138 k = 0 := fun k => congrFun (m0_z (g := 138) (by decide)) k
  have hr : ∀ j, m0rows j = 0 ∨ m0rows j = 1024 ∨ m0rows j = 500 := fun j => by
    unfold m0rows upd
    repeat' split
    all_goals simp
  have hf : ∀ j, m0flags j = 0 ∨ m0flags j = 1 := fun j => by
    unfold m0flags upd
    repeat' split
    all_goals simp
  have zi : (0 : Int32).toInt = 0 := by decide +kernel
  refine ⟨⟨⟨⟨0, 0, by rw [m0_122]; rfl, by omega, by rw [m0_122]; rfl, by omega⟩, by rw [m0_122]; decide +kernel, by rw [m0_122]; decide +kernel, by rw [m0_122]; decide +kernel, ?_, ?_, ?_, ?_, ?_, ?_, ?_, ?_, ?_, ?_, ?_⟩, ?_⟩, ⟨?_, ?_⟩, ⟨fun _ _ _ => rfl, fun _ _ _ _ => rfl⟩⟩
  · intro a c h; rw [z0 _ (by omega), zi]; omega
  · intro c; rw [z0 127 (by omega), zi]; omega
  · intro c; rw [z0 128 (by omega), zi]; omega
  · intro c; rw [z0 129 (by omega), zi]; omega
  · intro c; rw [z0 130 (by omega), zi]; omega
  · intro c; rw [z0 131 (by omega), zi]; omega
  · intro g j h1 h2; rw [z0 g (by omega)]; exact Or.inl rfl
  · intro j; rw [m0_136]; exact hf j
  · intro c; rw [z0 135 (by omega), zi]; omega
  · intro j; rw [m0_137]; rcases hr j with h | h | h <;> rw [h] <;> decide +kernel
  · intro j; rw [z138, zi]; omega
  · intro i h
    exfalso
    have : sN m0I = 0 := by unfold sN; rw [m0_122]; decide +kernel
    omega
  · refine ⟨⟨?_, ?_, ?_, ?_, ?_⟩, ?_, ?_, ?_, ?_, ?_⟩
    · show m0I 0 12 = m0I 122 1; rw [z0 0 (by omega), m0_122]; rfl
    · show m0I 0 13 = m0I 122 2; rw [z0 0 (by omega), m0_122]; rfl
    · show m0I 0 14 = m0I 122 5; rw [z0 0 (by omega), m0_122]; rfl
    · show m0I 4 1 = m0I 122 3; rw [m0_4, m0_122]; rfl
    · show m0I 4 2 = m0I 122 4; rw [m0_4, m0_122]; rfl
    · intro k _; show m0I 5 k = m0I 137 k; rw [m0_5, m0_137]
    · intro c hc
      have h : ∀ k, gI M0 (44 + c) k = 0 := fun k => z0 (44 + c) (by omega) k
      simp only [h, z0 124 (by omega), z0 125 (by omega), z0 126 (by omega), z0 127 (by omega), z0 128 (by omega), z0 129 (by omega), and_self]
    · intro c hc
      have h : ∀ k, gI M0 (84 + c) k = 0 := fun k => z0 (84 + c) (by omega) k
      simp only [h, z0 130 (by omega), z0 131 (by omega), z0 132 (by omega), z0 133 (by omega), z0 134 (by omega), and_self]
    · intro t ht
      refine ⟨?_, fun j _ => ?_⟩
      · show m0I (114 + 2 * t) 1 = m0I 136 t
        rcases (show t = 0 ∨ t = 1 ∨ t = 2 ∨ t = 3 by omega) with rfl | rfl | rfl | rfl
        · show m0I 114 1 = m0I 136 0; rw [m0_114, m0_136]; rfl
        · show m0I 116 1 = m0I 136 1; rw [m0_116, m0_136]; rfl
        · show m0I 118 1 = m0I 136 2; rw [m0_118, m0_136]; rfl
        · show m0I 120 1 = m0I 136 3; rw [m0_120, m0_136]; rfl
      · show m0I (115 + 2 * t) j = m0I 135 (64 * t + j)
        rw [zp t ht, z0 135 (by omega)]
    · intro k _
      refine ⟨?_, ?_, ?_⟩
      · show m0I 28 k = m0I 138 k; rw [z28, z138]
      · show m0I 29 k = m0I 139 k; rw [m0_29, m0_139]
      · show m0I 30 k = m0I 140 k; rw [m0_30, m0_140]
  · unfold cBx
    have e : ∀ k, gI M0 42 k = m0I 42 k := fun _ => rfl
    simp only [e, m0_42]
    decide +kernel
