/-! THE START: what holds of the tables -/
section ST
variable {s : State} {args : Array Value}
theorem st_w {w : Cond} (hts : ∀ w ∈ lw_tbl, w.before args s = true) (i : Nat) (h : lw_tbl[i]? = some w) : w.before args s = true := hts w (List.mem_of_getElem? h)
theorem st_gw (hts : ∀ w ∈ lw_tbl, w.before args s = true) : ∀ w ∈ GW, w.before args s = true := fun w h => hts w (List.mem_filter.mp h).1
theorem st_kn (hts : ∀ w ∈ lw_tbl, w.before args s = true) : ∀ c : Nat, ∃ (D : ClassId × (Nat → Nat)), ∀ q : vw_C, vwCl[c]? = some q → u_Kn s q.1 q.2.1 q.2.2 D.1 D.2 := by
  intro c
  match c with
  | 0 => obtain ⟨cC, iS, h⟩ := u_known (C := RX0) (T := TX0) (N := 4) (st_gw hts) inX0 (st_w hts 191 (w := .instantiable RX0 4) (by decide +kernel)); exact ⟨(cC, iS), fun q hq => by cases hq; exact h⟩
  | 1 => obtain ⟨cC, iS, h⟩ := u_known (C := RX1) (T := TX1) (N := 3) (st_gw hts) inX1 (st_w hts 88 (w := .instantiable RX1 3) (by decide +kernel)); exact ⟨(cC, iS), fun q hq => by cases hq; exact h⟩
  | 2 => obtain ⟨cC, iS, h⟩ := u_known (C := RX2) (T := TX2) (N := 2) (st_gw hts) inX2 (st_w hts 292 (w := .instantiable RX2 2) (by decide +kernel)); exact ⟨(cC, iS), fun q hq => by cases hq; exact h⟩
  | 3 => obtain ⟨cC, iS, h⟩ := u_known (C := RX3) (T := TX3) (N := 6) (st_gw hts) inX3 (st_w hts 307 (w := .instantiable RX3 6) (by decide +kernel)); exact ⟨(cC, iS), fun q hq => by cases hq; exact h⟩
  | 4 => obtain ⟨cC, iS, h⟩ := u_known (C := RX4) (T := TX4) (N := 7) (st_gw hts) inX4 (st_w hts 337 (w := .instantiable RX4 7) (by decide +kernel)); exact ⟨(cC, iS), fun q hq => by cases hq; exact h⟩
  | 5 => obtain ⟨cC, iS, h⟩ := u_known (C := RX5) (T := TX5) (N := 2) (st_gw hts) inX5 (st_w hts 367 (w := .instantiable RX5 2) (by decide +kernel)); exact ⟨(cC, iS), fun q hq => by cases hq; exact h⟩
  | 6 => obtain ⟨cC, iS, h⟩ := u_known (C := RX6) (T := TX6) (N := 9) (st_gw hts) inX6 (st_w hts 185 (w := .instantiable RX6 9) (by decide +kernel)); exact ⟨(cC, iS), fun q hq => by cases hq; exact h⟩
  | 7 => obtain ⟨cC, iS, h⟩ := u_known (C := RX7) (T := TX7) (N := 3) (st_gw hts) inX7 (st_w hts 272 (w := .instantiable RX7 3) (by decide +kernel)); exact ⟨(cC, iS), fun q hq => by cases hq; exact h⟩
  | 8 => obtain ⟨cC, iS, h⟩ := u_known (C := RX8) (T := TX8) (N := 4) (st_gw hts) inX8 (st_w hts 107 (w := .instantiable RX8 4) (by decide +kernel)); exact ⟨(cC, iS), fun q hq => by cases hq; exact h⟩
  | 9 => obtain ⟨cC, iS, h⟩ := u_known (C := RX9) (T := TX9) (N := 12) (st_gw hts) inX9 (st_w hts 114 (w := .instantiable RX9 12) (by decide +kernel)); exact ⟨(cC, iS), fun q hq => by cases hq; exact h⟩
  | 10 => obtain ⟨cC, iS, h⟩ := u_known (C := RX10) (T := TX10) (N := 15) (st_gw hts) inX10 (st_w hts 74 (w := .instantiable RX10 15) (by decide +kernel)); exact ⟨(cC, iS), fun q hq => by cases hq; exact h⟩
  | 11 => obtain ⟨cC, iS, h⟩ := u_known (C := RX11) (T := TX11) (N := 43) (st_gw hts) inX11 (st_w hts 1047 (w := .instantiable RX11 43) (by decide +kernel)); exact ⟨(cC, iS), fun q hq => by cases hq; exact h⟩
  | n + 12 => exact ⟨(0, fun _ => 0), fun q hq => by have h := (List.getElem?_eq_some_iff.mp hq).1; simp [vwCl] at h; omega⟩
theorem st_ap {ty : FieldType} (h : (Cond.arrayClass ty).before args s = true) (hp : ∀ (U : State) (cA : ClassId), U.vm.findClass ("[" ++ ty.toString) = some cA → va_RA U cA ty) : ∃ cA : ClassId, ArrOfT s cA ty ∧ va_RA s cA ty := by
  obtain ⟨c, k, comp, h1, h2, h3⟩ := Cond.arrayClass_spec h
  exact ⟨c, fun n z => ⟨fun k h => (by cases h), k, h2, comp, h3⟩, hp s c h1⟩
theorem st_ao {C : String} (h : (Cond.arrayOver (.object C)).before args s = true) : ∃ cA : ClassId, ArrOfT s cA (.object C) ∧ va_RA s cA (.object C) := by
  obtain ⟨comp, c, k, h1, h2, h3, h4, h5⟩ := Cond.arrayOver_spec h
  exact ⟨c, fun n z => ⟨fun k h => (by cases h), k, h3, comp, h4⟩, k, comp, h3, h4, h1, h5⟩
theorem st_a2 (h : (Cond.arrayOver (.array .int)).before args s = true) : ∃ cA : ClassId, ArrOfT s cA (.array .int) ∧ va_RA s cA (.array .int) := by
  unfold Cond.before Cond.holds at h
  simp only [Cond.value] at h
  cases h1 : s.vm.findClass (FieldType.array .int).toString with
  | none => rw [h1] at h; simp at h
  | some comp =>
    rw [h1] at h
    simp only [Option.bind_some] at h
    generalize hX : Array.findIdx? _ s.vm.classes = X at h
    cases X with
    | none => simp at h
    | some c =>
      simp only [Option.bind_some] at h
      cases h3 : s.vm.classes[c]? with
      | none => rw [h3] at h; simp at h
      | some k =>
        rw [h3] at h
        simp only [Option.map_some] at h
        obtain ⟨hlt, hp, -⟩ := Array.findIdx?_eq_some_iff_getElem.mp hX
        have hkk : s.vm.classes[c] = k := (Array.getElem?_eq_some_iff.mp h3).2
        rw [hkk] at hp
        cases hkind : k.kind with
        | array component ty =>
          rw [hkind] at h hp
          simp at h hp
          exact ⟨c, fun n z => ⟨fun k h => (by cases h), k, h3, comp, by rw [hkind, hp, h.1]⟩, h.2⟩
        | _ => rw [hkind] at h; simp at h
def stTy : List FieldType := [.int, .long, .boolean, .object RX3, .object RX4, .object RX5, .object RX9, .object RX6, .array .int]
theorem st_ga (hts : ∀ w ∈ lw_tbl, w.before args s = true) : ∀ k : Nat, ∃ cA : ClassId, ∀ ty : FieldType, stTy[k]? = some ty → ArrOfT s cA ty ∧ va_RA s cA ty := by
  intro k
  match k with
  | 0 => obtain ⟨cA, h⟩ := st_ap (ty := .int) (st_w hts 105 (by decide +kernel)) (fun U cA h => h); exact ⟨cA, fun ty ht => by cases ht; exact h⟩
  | 1 => obtain ⟨cA, h⟩ := st_ap (ty := .long) (st_w hts 1190 (by decide +kernel)) (fun U cA h => h); exact ⟨cA, fun ty ht => by cases ht; exact h⟩
  | 2 => obtain ⟨cA, h⟩ := st_ap (ty := .boolean) (st_w hts 1189 (by decide +kernel)) (fun U cA h => h); exact ⟨cA, fun ty ht => by cases ht; exact h⟩
  | 3 => obtain ⟨cA, h⟩ := st_ao (C := RX3) (st_w hts 82 (by decide +kernel)); exact ⟨cA, fun ty ht => by cases ht; exact h⟩
  | 4 => obtain ⟨cA, h⟩ := st_ao (C := RX4) (st_w hts 84 (by decide +kernel)); exact ⟨cA, fun ty ht => by cases ht; exact h⟩
  | 5 => obtain ⟨cA, h⟩ := st_ao (C := RX5) (st_w hts 86 (by decide +kernel)); exact ⟨cA, fun ty ht => by cases ht; exact h⟩
  | 6 => obtain ⟨cA, h⟩ := st_ao (C := RX9) (st_w hts 113 (by decide +kernel)); exact ⟨cA, fun ty ht => by cases ht; exact h⟩
  | 7 => obtain ⟨cA, h⟩ := st_ao (C := RX6) (st_w hts 184 (by decide +kernel)); exact ⟨cA, fun ty ht => by cases ht; exact h⟩
  | 8 => obtain ⟨cA, h⟩ := st_a2 (st_w hts 1053 (by decide +kernel)); exact ⟨cA, fun ty ht => by cases ht; exact h⟩
  | n + 9 => exact ⟨0, fun ty ht => by have h := (List.getElem?_eq_some_iff.mp ht).1; simp [stTy] at h; omega⟩
/-- the ids' addresses and classes -/
theorem st_z (hts : ∀ w ∈ lw_tbl, w.before args s = true) : ∃ z : GZ, gB z = s.heap.size ∧ (∀ g, gad z g = gB z + g) ∧ va_K (gD z) vwCl (gTys z) s := by
  have h1 := st_kn hts
  have h2 := st_ga hts
  refine ⟨((fun c => (h1 c).choose.1, fun c => (h1 c).choose.2), fun t => (h2 (t - 20)).choose, fun g => s.heap.size + g, s.heap.size), rfl, fun g => rfl, fun c q hq => (h1 c).choose_spec q hq, fun k q hk => ?_⟩
  match k with
  | 0 => cases hk; exact (h2 0).choose_spec _ rfl
  | 1 => cases hk; exact (h2 1).choose_spec _ rfl
  | 2 => cases hk; exact (h2 2).choose_spec _ rfl
  | 3 => cases hk; exact (h2 3).choose_spec _ rfl
  | 4 => cases hk; exact (h2 4).choose_spec _ rfl
  | 5 => cases hk; exact (h2 5).choose_spec _ rfl
  | 6 => cases hk; exact (h2 6).choose_spec _ rfl
  | 7 => cases hk; exact (h2 7).choose_spec _ rfl
  | 8 => cases hk; exact (h2 8).choose_spec _ rfl
  | n + 9 => have h := (List.getElem?_eq_some_iff.mp hk).1; simp [gTys] at h; omega
theorem st_at {z : GZ} {M : GM} {i : Nat} {p : Nat × va_E} (h : (gW z M)[i]? = some p) : p.1 = gad z i := by
  rcases Nat.lt_or_ge i gn with q | q
  · rw [gW_get z M q] at h
    cases h
    rfl
  · rw [List.getElem?_eq_none (by simpa [gW] using q)] at h
    cases h
theorem st_D {z : GZ} (hz : ∀ g, gad z g = gB z + g) (M : GM) : va_D (fun q => gB z ≤ q) (gW z M) := by
  refine ⟨fun i j p q hi hj e => ?_, fun k q hk => ?_⟩
  · rw [st_at hi, st_at hj, hz, hz] at e
    omega
  · show gB z ≤ q.1
    rw [st_at hk, hz]
    omega
theorem st_str (hts : ∀ w ∈ lw_tbl, w.before args s = true) {cur : ClassId} (hown : s.vm.findClass RX10 = some cur) : gStr s := by
  have key : ∀ (k : Nat) (tx : String) (i : Nat), lw_tbl[i]? = some (.stringRef RX10 k tx) → ∃ sa, vk_R RX10 k tx sa s := fun k tx i hi => by
    obtain ⟨-, -, -, a, -, -, -, -, -, hev⟩ := Cond.stringRef_spec hown (st_w hts i hi)
    exact ⟨a, vk_R.of (st_w hts i hi) hev⟩
  show ∀ q ∈ gStrL, ∃ sa, vk_R RX10 q.1 q.2 sa s
  exact List.forall_mem_cons.mpr ⟨key 391 "no such corner" 708 (by decide +kernel), List.forall_mem_cons.mpr ⟨key 399 "row is not 0 to 2" 738 (by decide +kernel), List.forall_mem_cons.mpr ⟨key 393 "no such pane" 752 (by decide +kernel), List.forall_mem_cons.mpr ⟨key 395 "no such corner of the polygon" 783 (by decide +kernel), List.forall_mem_cons.mpr ⟨key 240 "what is not 0 to 3" 784 (by decide +kernel), List.forall_mem_cons.mpr ⟨key 401 "x is not 0 to 39" 796 (by decide +kernel), List.forall_mem_cons.mpr ⟨key 403 "y is not 0 to 23" 797 (by decide +kernel), List.forall_mem_cons.mpr ⟨key 405 "x, y or z is not -2000 to 2000" 827 (by decide +kernel), List.forall_mem_cons.mpr ⟨key 408 "colour is not 0 to 16777215" 838 (by decide +kernel), List.forall_mem_cons.mpr ⟨key 92 "u or v is not 0 to 2047" 839 (by decide +kernel), List.forall_mem_cons.mpr ⟨key 103 "there are 40 corners" 849 (by decide +kernel), List.forall_mem_cons.mpr ⟨key 128 "two corners are the same" 886 (by decide +kernel), List.forall_mem_cons.mpr ⟨key 130 "pattern is not -1 to 3" 887 (by decide +kernel), List.forall_mem_cons.mpr ⟨key 132 "there are 30 panes" 888 (by decide +kernel), List.forall_mem_cons.mpr ⟨key 397 "pattern is not 0 to 3" 910 (by decide +kernel), List.forall_mem_cons.mpr ⟨key 158 "column or row is not 0 to 7" 911 (by decide +kernel), List.forall_mem_cons.mpr ⟨key 170 "a, b or c is not -4096 to 4096" 926 (by decide +kernel), List.forall_mem_cons.mpr ⟨key 172 "t is not -5000 to 5000" 927 (by decide +kernel), List.forall_mem_cons.mpr ⟨key 182 "near is not 1 to 1000" 943 (by decide +kernel), List.forall_mem_cons.mpr ⟨key 184 "focus is not 1 to 500" 944 (by decide +kernel), List.forall_mem_cons.mpr ⟨key 208 "what is not 0 to 5" 967 (by decide +kernel), List.forall_mem_cons.mpr ⟨key 297 "tile is not 0 to 14" 1008 (by decide +kernel), fun _ h => absurd h List.not_mem_nil⟩⟩⟩⟩⟩⟩⟩⟩⟩⟩⟩⟩⟩⟩⟩⟩⟩⟩⟩⟩⟩⟩
theorem st_n1 (hts : ∀ w ∈ lw_tbl, w.before args s = true) : gNest s := ⟨va_Nw.of rfl (st_w hts 463 (by decide +kernel)), va_Nw.of rfl (st_w hts 466 (by decide +kernel)), va_Nw.of rfl (st_w hts 469 (by decide +kernel)), va_Nw.of rfl (st_w hts 495 (by decide +kernel)), va_Nw.of rfl (st_w hts 514 (by decide +kernel)), va_Nw.of rfl (st_w hts 769 (by decide +kernel))⟩
theorem st_n2 (hts : ∀ w ∈ lw_tbl, w.before args s = true) : dNest s := ⟨va_Nw.of rfl (st_w hts 89 (by decide +kernel)), va_Nw.of rfl (st_w hts 108 (by decide +kernel)), va_Nw.of rfl (st_w hts 115 (by decide +kernel)), va_Nw.of rfl (st_w hts 186 (by decide +kernel)), va_Nw.of rfl (st_w hts 192 (by decide +kernel)), va_Nw.of rfl (st_w hts 218 (by decide +kernel)), va_Nw.of rfl (st_w hts 293 (by decide +kernel)), va_Nw.of rfl (st_w hts 306 (by decide +kernel)), va_Nw.of rfl (st_w hts 308 (by decide +kernel)), va_Nw.of rfl (st_w hts 338 (by decide +kernel)), va_Nw.of rfl (st_w hts 368 (by decide +kernel))⟩
theorem st_face (hts : ∀ w ∈ lw_tbl, w.before args s = true) : ∀ w ∈ gFaceL, va_Nw w s := List.forall_mem_cons.mpr ⟨(by have h := st_w hts 820 (w := .castable "java/lang/IllegalArgumentException" "java/lang/IllegalArgumentException") (by decide +kernel); first | exact va_Nw.of rfl h | exact h), List.forall_mem_cons.mpr ⟨(by have h := st_w hts 842 (w := .castable "java/lang/IllegalStateException" "java/lang/IllegalStateException") (by decide +kernel); first | exact va_Nw.of rfl h | exact h), List.forall_mem_cons.mpr ⟨(by have h := st_w hts 669 (w := .castable "java/lang/IndexOutOfBoundsException" "java/lang/IndexOutOfBoundsException") (by decide +kernel); first | exact va_Nw.of rfl h | exact h), List.forall_mem_cons.mpr ⟨(by have h := st_w hts 670 (w := .declares ⟨"java/lang/RuntimeException", "<init>", "()V"⟩) (by decide +kernel); first | exact va_Nw.of rfl h | exact h), List.forall_mem_cons.mpr ⟨(by have h := st_w hts 671 (w := .declares ⟨"java/lang/RuntimeException", "<init>", "(Ljava/lang/String;)V"⟩) (by decide +kernel); first | exact va_Nw.of rfl h | exact h), List.forall_mem_cons.mpr ⟨(by have h := st_w hts 672 (w := .declares ⟨"java/lang/Exception", "<init>", "()V"⟩) (by decide +kernel); first | exact va_Nw.of rfl h | exact h), List.forall_mem_cons.mpr ⟨(by have h := st_w hts 673 (w := .declares ⟨"java/lang/Exception", "<init>", "(Ljava/lang/String;)V"⟩) (by decide +kernel); first | exact va_Nw.of rfl h | exact h), List.forall_mem_cons.mpr ⟨(by have h := st_w hts 674 (w := .declares ⟨"java/lang/Throwable", "<init>", "()V"⟩) (by decide +kernel); first | exact va_Nw.of rfl h | exact h), List.forall_mem_cons.mpr ⟨(by have h := st_w hts 675 (w := .declares ⟨"java/lang/Throwable", "<init>", "(Ljava/lang/String;)V"⟩) (by decide +kernel); first | exact va_Nw.of rfl h | exact h), fun _ h => absurd h List.not_mem_nil⟩⟩⟩⟩⟩⟩⟩⟩⟩
theorem st_ao6 (hts : ∀ w ∈ lw_tbl, w.before args s = true) : dAO s := ⟨va_AO.of (st_w hts 82 (by decide +kernel)), va_AO.of (st_w hts 84 (by decide +kernel)), va_AO.of (st_w hts 86 (by decide +kernel)), va_AO.of (st_w hts 113 (by decide +kernel)), va_AO.of (st_w hts 184 (by decide +kernel)), (by have h := st_w hts 1053 (w := .arrayOver (.array .int)) (by decide +kernel); exact h)⟩
end ST
theorem st_dKK {s : State} {b : Addr} (hts : ∀ w ∈ lw_tbl, w.before #[Value.ref b] s = true) (hgv : (Jvm.Cond.and given_1 narrow_1).before #[Value.ref b] s = true) {z : GZ} (hz : gB z = s.heap.size) (ha : ∀ g, gad z g = gB z + g) (hK : va_K (gD z) vwCl (gTys z) s) : dKK z s := by
  have hs := flat_of_before _ hgv
  have hA : ∀ a : Nat, a < s.heap.size → ¬ gB z ≤ a := fun a h => by rw [hz]; omega
  have hown : s.vm.findClass RX10 = some ((gD z).1 10) := (hK.1 10 _ rfl).2.1
  refine ⟨⟨hK, st_n1 hts, st_str hts hown, ?_, ?_, fun M => st_D ha M, st_face hts⟩, st_n2 hts, st_ao6 hts, ha⟩
  · exact vx_Zqof (st_w hts 694 (by decide +kernel)) (st_w hts 64 (by decide +kernel)) (hs (Cond.isRef (.static Bundle.tN "UNASSIGNED_STACK" Bundle.steD)) (by decide +kernel)) hA
  · exact vx_Zqof (st_w hts 696 (by decide +kernel)) (st_w hts 64 (by decide +kernel)) (hs (Cond.isRef (.static Bundle.tN "SUPPRESSED_SENTINEL" Bundle.listD)) (by decide +kernel)) hA
theorem st_ncs {s : State} {b : Addr} (hgv : (Jvm.Cond.and given_1 narrow_1).before #[Value.ref b] s = true) : gNcs s := by
  have hs := flat_of_before _ hgv
  intro a c h1 h2 h3 h4 h5
  rcases (show (a = 1 ∧ c = 2) ∨ (a = 1 ∧ c = 3) ∨ (a = 2 ∧ c = 1) ∨ (a = 2 ∧ c = 3) ∨ (a = 3 ∧ c = 1) ∨ (a = 3 ∧ c = 2) by omega) with ⟨rfl, rfl⟩ | ⟨rfl, rfl⟩ | ⟨rfl, rfl⟩ | ⟨rfl, rfl⟩ | ⟨rfl, rfl⟩ | ⟨rfl, rfl⟩
  · exact va_Nc.of (hs (Cond.not (.castable (gEx 1) (gEx 2))) (by decide +kernel))
  · exact va_Nc.of (hs (Cond.not (.castable (gEx 1) (gEx 3))) (by decide +kernel))
  · exact va_Nc.of (hs (Cond.not (.castable (gEx 2) (gEx 1))) (by decide +kernel))
  · exact va_Nc.of (hs (Cond.not (.castable (gEx 2) (gEx 3))) (by decide +kernel))
  · exact va_Nc.of (hs (Cond.not (.castable (gEx 3) (gEx 1))) (by decide +kernel))
  · exact va_Nc.of (hs (Cond.not (.castable (gEx 3) (gEx 2))) (by decide +kernel))
