/-! THE START: what holds of the tables -/
section ST
variable {s : State} {args : Array Value}
theorem st_w {w : Cond} (hts : ∀ w ∈ lw_tbl, w.before args s = true) (i : Nat) (h : lw_tbl[i]? = some w) : w.before args s = true := hts w (List.mem_of_getElem? h)
theorem st_gw (hts : ∀ w ∈ lw_tbl, w.before args s = true) : ∀ w ∈ GW, w.before args s = true := fun w h => hts w (List.mem_filter.mp h).1
theorem st_kn (hts : ∀ w ∈ lw_tbl, w.before args s = true) : ∀ c : Nat, ∃ (D : ClassId × (Nat → Nat)), ∀ q : vw_C, vwCl[c]? = some q → u_Kn s q.1 q.2.1 q.2.2 D.1 D.2 := by
  intro c
  match c with
  | 0 => obtain ⟨cC, iS, h⟩ := u_known (C := RX0) (T := TX0) (N := 4) (st_gw hts) inX0 (st_w hts 586 (w := .instantiable RX0 4) (by decide +kernel)); exact ⟨(cC, iS), fun q hq => by cases hq; exact h⟩
  | 1 => obtain ⟨cC, iS, h⟩ := u_known (C := RX1) (T := TX1) (N := 3) (st_gw hts) inX1 (st_w hts 486 (w := .instantiable RX1 3) (by decide +kernel)); exact ⟨(cC, iS), fun q hq => by cases hq; exact h⟩
  | 2 => obtain ⟨cC, iS, h⟩ := u_known (C := RX2) (T := TX2) (N := 2) (st_gw hts) inX2 (st_w hts 686 (w := .instantiable RX2 2) (by decide +kernel)); exact ⟨(cC, iS), fun q hq => by cases hq; exact h⟩
  | 3 => obtain ⟨cC, iS, h⟩ := u_known (C := RX3) (T := TX3) (N := 6) (st_gw hts) inX3 (st_w hts 701 (w := .instantiable RX3 6) (by decide +kernel)); exact ⟨(cC, iS), fun q hq => by cases hq; exact h⟩
  | 4 => obtain ⟨cC, iS, h⟩ := u_known (C := RX4) (T := TX4) (N := 7) (st_gw hts) inX4 (st_w hts 731 (w := .instantiable RX4 7) (by decide +kernel)); exact ⟨(cC, iS), fun q hq => by cases hq; exact h⟩
  | 5 => obtain ⟨cC, iS, h⟩ := u_known (C := RX5) (T := TX5) (N := 2) (st_gw hts) inX5 (st_w hts 319 (w := .instantiable RX5 2) (by decide +kernel)); exact ⟨(cC, iS), fun q hq => by cases hq; exact h⟩
  | 6 => obtain ⟨cC, iS, h⟩ := u_known (C := RX6) (T := TX6) (N := 9) (st_gw hts) inX6 (st_w hts 580 (w := .instantiable RX6 9) (by decide +kernel)); exact ⟨(cC, iS), fun q hq => by cases hq; exact h⟩
  | 7 => obtain ⟨cC, iS, h⟩ := u_known (C := RX7) (T := TX7) (N := 3) (st_gw hts) inX7 (st_w hts 667 (w := .instantiable RX7 3) (by decide +kernel)); exact ⟨(cC, iS), fun q hq => by cases hq; exact h⟩
  | 8 => obtain ⟨cC, iS, h⟩ := u_known (C := RX8) (T := TX8) (N := 4) (st_gw hts) inX8 (st_w hts 505 (w := .instantiable RX8 4) (by decide +kernel)); exact ⟨(cC, iS), fun q hq => by cases hq; exact h⟩
  | 9 => obtain ⟨cC, iS, h⟩ := u_known (C := RX9) (T := TX9) (N := 12) (st_gw hts) inX9 (st_w hts 512 (w := .instantiable RX9 12) (by decide +kernel)); exact ⟨(cC, iS), fun q hq => by cases hq; exact h⟩
  | 10 => obtain ⟨cC, iS, h⟩ := u_known (C := RX10) (T := TX10) (N := 15) (st_gw hts) inX10 (st_w hts 44 (w := .instantiable RX10 15) (by decide +kernel)); exact ⟨(cC, iS), fun q hq => by cases hq; exact h⟩
  | 11 => obtain ⟨cC, iS, h⟩ := u_known (C := RX11) (T := TX11) (N := 14) (st_gw hts) inX11 (st_w hts 469 (w := .instantiable RX11 14) (by decide +kernel)); exact ⟨(cC, iS), fun q hq => by cases hq; exact h⟩
  | n + 12 => exact ⟨(0, fun _ => 0), fun q hq => by have h := (List.getElem?_eq_some_iff.mp hq).1; simp [vwCl] at h; omega⟩
/-- an array of arrays is over the class of that name -/
def stRR (s : State) (cA : ClassId) (ty : FieldType) : Prop := ∀ t, ty = .array t → ∃ (k : Class) (comp : ClassId), s.vm.classes[cA]? = some k ∧ k.kind = .array comp (.array t) ∧ s.vm.findClass (FieldType.array t).toString = some comp
theorem st_ap {ty : FieldType} (h : (Cond.arrayClass ty).before args s = true) (hp : ∀ (U : State) (cA : ClassId), U.vm.findClass ("[" ++ ty.toString) = some cA → va_RA U cA ty) : ∃ cA : ClassId, ArrOfT s cA ty ∧ va_RA s cA ty := by
  obtain ⟨c, k, comp, h1, h2, h3⟩ := Cond.arrayClass_spec h
  exact ⟨c, fun n z => ⟨fun k h => (by cases h), k, h2, comp, h3⟩, hp s c h1⟩
theorem st_ao {C : String} (h : (Cond.arrayOver (.object C)).before args s = true) : ∃ cA : ClassId, ArrOfT s cA (.object C) ∧ va_RA s cA (.object C) := by
  obtain ⟨comp, c, k, h1, h2, h3, h4, h5⟩ := Cond.arrayOver_spec h
  exact ⟨c, fun n z => ⟨fun k h => (by cases h), k, h3, comp, h4⟩, k, comp, h3, h4, h1, h5⟩
theorem st_a2 {t : FieldType} (h : (Cond.arrayOver (.array t)).before args s = true) : ∃ cA : ClassId, ArrOfT s cA (.array t) ∧ va_RA s cA (.array t) ∧ stRR s cA (.array t) := by
  unfold Cond.before Cond.holds at h
  simp only [Cond.value] at h
  cases h1 : s.vm.findClass (FieldType.array t).toString with
  | none => rw [h1] at h; simp at h
  | some comp =>
    rw [h1] at h
    simp only [Option.bind_some] at h
    generalize hX : Array.findIdx? _ s.vm.classes = X at h
    cases X with
    | none => simp at h
    | some c =>
      simp only [Option.bind_some] at h
      cases h3 : s.vm.classes[c]? with
      | none => rw [h3] at h; simp at h
      | some k =>
        rw [h3] at h
        simp only [Option.map_some] at h
        obtain ⟨hlt, hp, -⟩ := Array.findIdx?_eq_some_iff_getElem.mp hX
        have hkk : s.vm.classes[c] = k := (Array.getElem?_eq_some_iff.mp h3).2
        rw [hkk] at hp
        cases hkind : k.kind with
        | array component ty =>
          rw [hkind] at h hp
          simp at h hp
          exact ⟨c, fun n z => ⟨fun k h => (by cases h), k, h3, comp, by rw [hkind, hp, h.1]⟩, h.2, fun t2 ht => by cases ht; exact ⟨k, comp, h3, by rw [hkind, hp, h.1], h1⟩⟩
        | _ => rw [hkind] at h; simp at h
def stTy : List FieldType := [.int, .int, .boolean, .object RX3, .object RX4, .object RX5, .object RX9, .object RX6, .array .int, .array .boolean]
theorem st_ga (hts : ∀ w ∈ lw_tbl, w.before args s = true) : ∀ k : Nat, ∃ cA : ClassId, ∀ ty : FieldType, stTy[k]? = some ty → ArrOfT s cA ty ∧ va_RA s cA ty ∧ stRR s cA ty := by
  intro k
  match k with
  | 0 => obtain ⟨cA, h⟩ := st_ap (ty := .int) (st_w hts 503 (by decide +kernel)) (fun U cA h => h); exact ⟨cA, fun ty ht => by cases ht; exact ⟨h.1, h.2, fun t e => by cases e⟩⟩
  | 1 => obtain ⟨cA, h⟩ := st_ap (ty := .int) (st_w hts 503 (by decide +kernel)) (fun U cA h => h); exact ⟨cA, fun ty ht => by cases ht; exact ⟨h.1, h.2, fun t e => by cases e⟩⟩
  | 2 => obtain ⟨cA, h⟩ := st_ap (ty := .boolean) (st_w hts 874 (by decide +kernel)) (fun U cA h => h); exact ⟨cA, fun ty ht => by cases ht; exact ⟨h.1, h.2, fun t e => by cases e⟩⟩
  | 3 => obtain ⟨cA, h⟩ := st_ao (C := RX3) (st_w hts 480 (by decide +kernel)); exact ⟨cA, fun ty ht => by cases ht; exact ⟨h.1, h.2, fun t e => by cases e⟩⟩
  | 4 => obtain ⟨cA, h⟩ := st_ao (C := RX4) (st_w hts 482 (by decide +kernel)); exact ⟨cA, fun ty ht => by cases ht; exact ⟨h.1, h.2, fun t e => by cases e⟩⟩
  | 5 => obtain ⟨cA, h⟩ := st_ao (C := RX5) (st_w hts 484 (by decide +kernel)); exact ⟨cA, fun ty ht => by cases ht; exact ⟨h.1, h.2, fun t e => by cases e⟩⟩
  | 6 => obtain ⟨cA, h⟩ := st_ao (C := RX9) (st_w hts 511 (by decide +kernel)); exact ⟨cA, fun ty ht => by cases ht; exact ⟨h.1, h.2, fun t e => by cases e⟩⟩
  | 7 => obtain ⟨cA, h⟩ := st_ao (C := RX6) (st_w hts 579 (by decide +kernel)); exact ⟨cA, fun ty ht => by cases ht; exact ⟨h.1, h.2, fun t e => by cases e⟩⟩
  | 8 => obtain ⟨cA, h⟩ := st_a2 (t := .int) (st_w hts 821 (by decide +kernel)); exact ⟨cA, fun ty ht => by cases ht; exact h⟩
  | 9 => obtain ⟨cA, h⟩ := st_a2 (t := .boolean) (st_w hts 823 (by decide +kernel)); exact ⟨cA, fun ty ht => by cases ht; exact h⟩
  | n + 10 => exact ⟨0, fun ty ht => by have h := (List.getElem?_eq_some_iff.mp ht).1; simp [stTy] at h; omega⟩
/-- the classes and array classes -/
theorem st_z (hts : ∀ w ∈ lw_tbl, w.before args s = true) : ∃ (D : va_G) (cy : Nat → ClassId), ∀ (ad : Nat → Nat) (B : Nat) (tz : List Nat) (sa sl : Nat) (sx : Nat → Int32), va_K D vwCl (gTys (D, cy, ad, B, tz, sa, sl, sx)) s ∧ gRR (D, cy, ad, B, tz, sa, sl, sx) s := by
  have h1 := st_kn hts
  have h2 := st_ga hts
  refine ⟨(fun c => (h1 c).choose.1, fun c => (h1 c).choose.2), fun t => (h2 (t - 20)).choose, fun ad B tz sa sl sx => ⟨⟨fun c q hq => (h1 c).choose_spec q hq, fun k q hk => ?_⟩, ?_, ?_⟩⟩
  · match k with
    | 0 => cases hk; exact ⟨((h2 0).choose_spec _ rfl).1, ((h2 0).choose_spec _ rfl).2.1⟩
    | 1 => cases hk; exact ⟨((h2 0).choose_spec _ rfl).1, ((h2 0).choose_spec _ rfl).2.1⟩
    | 2 => cases hk; exact ⟨((h2 2).choose_spec _ rfl).1, ((h2 2).choose_spec _ rfl).2.1⟩
    | 3 => cases hk; exact ⟨((h2 3).choose_spec _ rfl).1, ((h2 3).choose_spec _ rfl).2.1⟩
    | 4 => cases hk; exact ⟨((h2 4).choose_spec _ rfl).1, ((h2 4).choose_spec _ rfl).2.1⟩
    | 5 => cases hk; exact ⟨((h2 5).choose_spec _ rfl).1, ((h2 5).choose_spec _ rfl).2.1⟩
    | 6 => cases hk; exact ⟨((h2 6).choose_spec _ rfl).1, ((h2 6).choose_spec _ rfl).2.1⟩
    | 7 => cases hk; exact ⟨((h2 7).choose_spec _ rfl).1, ((h2 7).choose_spec _ rfl).2.1⟩
    | 8 => cases hk; exact ⟨((h2 8).choose_spec _ rfl).1, ((h2 8).choose_spec _ rfl).2.1⟩
    | 9 => cases hk; exact ⟨((h2 9).choose_spec _ rfl).1, ((h2 9).choose_spec _ rfl).2.1⟩
    | n + 10 => have h := (List.getElem?_eq_some_iff.mp hk).1; simp [gTys] at h; omega
  · obtain ⟨k, comp, k1, k2, k3⟩ := ((h2 8).choose_spec _ rfl).2.2 _ rfl
    have hb : s.vm.findClass _ = some (h2 0).choose := ((h2 0).choose_spec _ rfl).2.1
    have e : (h2 0).choose = comp := Option.some.inj (hb.symm.trans k3)
    exact ⟨k, k1, by rw [k2, ← e]⟩
  · obtain ⟨k, comp, k1, k2, k3⟩ := ((h2 9).choose_spec _ rfl).2.2 _ rfl
    have hb : s.vm.findClass _ = some (h2 2).choose := ((h2 2).choose_spec _ rfl).2.1
    have e : (h2 2).choose = comp := Option.some.inj (hb.symm.trans k3)
    exact ⟨k, k1, by rw [k2, ← e]⟩
theorem st_str (hts : ∀ w ∈ lw_tbl, w.before args s = true) {cur : ClassId} (hown : s.vm.findClass RX10 = some cur) : gStr s := by
  have key : ∀ (k : Nat) (tx : String) (i : Nat), lw_tbl[i]? = some (.stringRef RX10 k tx) → ∃ sa, vk_R RX10 k tx sa s := fun k tx i hi => by
    obtain ⟨-, -, -, a, -, -, -, -, -, hev⟩ := Cond.stringRef_spec hown (st_w hts i hi)
    exact ⟨a, vk_R.of (st_w hts i hi) hev⟩
  show ∀ q ∈ gStrL, ∃ sa, vk_R RX10 q.1 q.2 sa s
  exact List.forall_mem_cons.mpr ⟨key 391 "no such corner" 92 (by decide +kernel), List.forall_mem_cons.mpr ⟨key 405 "x, y or z is not -2000 to 2000" 131 (by decide +kernel), List.forall_mem_cons.mpr ⟨key 393 "no such pane" 154 (by decide +kernel), List.forall_mem_cons.mpr ⟨key 401 "x is not 0 to 39" 281 (by decide +kernel), List.forall_mem_cons.mpr ⟨key 403 "y is not 0 to 23" 282 (by decide +kernel), List.forall_mem_cons.mpr ⟨key 399 "row is not 0 to 2" 441 (by decide +kernel), List.forall_mem_cons.mpr ⟨key 395 "no such corner of the polygon" 459 (by decide +kernel), List.forall_mem_cons.mpr ⟨key 240 "what is not 0 to 3" 460 (by decide +kernel), List.forall_mem_cons.mpr ⟨key 408 "colour is not 0 to 16777215" 912 (by decide +kernel), List.forall_mem_cons.mpr ⟨key 92 "u or v is not 0 to 2047" 913 (by decide +kernel), List.forall_mem_cons.mpr ⟨key 103 "there are 40 corners" 923 (by decide +kernel), List.forall_mem_cons.mpr ⟨key 128 "two corners are the same" 938 (by decide +kernel), List.forall_mem_cons.mpr ⟨key 130 "pattern is not -1 to 3" 939 (by decide +kernel), List.forall_mem_cons.mpr ⟨key 132 "there are 30 panes" 940 (by decide +kernel), List.forall_mem_cons.mpr ⟨key 397 "pattern is not 0 to 3" 956 (by decide +kernel), List.forall_mem_cons.mpr ⟨key 158 "column or row is not 0 to 7" 957 (by decide +kernel), List.forall_mem_cons.mpr ⟨key 170 "a, b or c is not -4096 to 4096" 975 (by decide +kernel), List.forall_mem_cons.mpr ⟨key 172 "t is not -5000 to 5000" 976 (by decide +kernel), List.forall_mem_cons.mpr ⟨key 182 "near is not 1 to 1000" 1003 (by decide +kernel), List.forall_mem_cons.mpr ⟨key 184 "focus is not 1 to 500" 1004 (by decide +kernel), fun _ h => absurd h List.not_mem_nil⟩⟩⟩⟩⟩⟩⟩⟩⟩⟩⟩⟩⟩⟩⟩⟩⟩⟩⟩⟩
theorem st_n1 (hts : ∀ w ∈ lw_tbl, w.before args s = true) : gNest s := ⟨va_Nw.of rfl (st_w hts 171 (by decide +kernel)), va_Nw.of rfl (st_w hts 174 (by decide +kernel)), va_Nw.of rfl (st_w hts 177 (by decide +kernel)), va_Nw.of rfl (st_w hts 203 (by decide +kernel)), va_Nw.of rfl (st_w hts 222 (by decide +kernel)), va_Nw.of rfl (st_w hts 266 (by decide +kernel)), va_Nw.of rfl (st_w hts 879 (by decide +kernel)), va_Nw.of rfl (st_w hts 883 (by decide +kernel))⟩
theorem st_n2 (hts : ∀ w ∈ lw_tbl, w.before args s = true) : dNest s := ⟨va_Nw.of rfl (st_w hts 487 (by decide +kernel)), va_Nw.of rfl (st_w hts 506 (by decide +kernel)), va_Nw.of rfl (st_w hts 513 (by decide +kernel)), va_Nw.of rfl (st_w hts 581 (by decide +kernel)), va_Nw.of rfl (st_w hts 587 (by decide +kernel)), va_Nw.of rfl (st_w hts 613 (by decide +kernel)), va_Nw.of rfl (st_w hts 687 (by decide +kernel)), va_Nw.of rfl (st_w hts 700 (by decide +kernel)), va_Nw.of rfl (st_w hts 702 (by decide +kernel)), va_Nw.of rfl (st_w hts 732 (by decide +kernel)), va_Nw.of rfl (st_w hts 761 (by decide +kernel))⟩
theorem st_face (hts : ∀ w ∈ lw_tbl, w.before args s = true) : ∀ w ∈ gFaceL, va_Nw w s := List.forall_mem_cons.mpr ⟨(by have h := st_w hts 124 (w := .castable "java/lang/IllegalArgumentException" "java/lang/IllegalArgumentException") (by decide +kernel); first | exact va_Nw.of rfl h | exact h), List.forall_mem_cons.mpr ⟨(by have h := st_w hts 916 (w := .castable "java/lang/IllegalStateException" "java/lang/IllegalStateException") (by decide +kernel); first | exact va_Nw.of rfl h | exact h), List.forall_mem_cons.mpr ⟨(by have h := st_w hts 51 (w := .castable "java/lang/IndexOutOfBoundsException" "java/lang/IndexOutOfBoundsException") (by decide +kernel); first | exact va_Nw.of rfl h | exact h), List.forall_mem_cons.mpr ⟨(by have h := st_w hts 52 (w := .declares ⟨"java/lang/RuntimeException", "<init>", "()V"⟩) (by decide +kernel); first | exact va_Nw.of rfl h | exact h), List.forall_mem_cons.mpr ⟨(by have h := st_w hts 53 (w := .declares ⟨"java/lang/RuntimeException", "<init>", "(Ljava/lang/String;)V"⟩) (by decide +kernel); first | exact va_Nw.of rfl h | exact h), List.forall_mem_cons.mpr ⟨(by have h := st_w hts 54 (w := .declares ⟨"java/lang/Exception", "<init>", "()V"⟩) (by decide +kernel); first | exact va_Nw.of rfl h | exact h), List.forall_mem_cons.mpr ⟨(by have h := st_w hts 55 (w := .declares ⟨"java/lang/Exception", "<init>", "(Ljava/lang/String;)V"⟩) (by decide +kernel); first | exact va_Nw.of rfl h | exact h), List.forall_mem_cons.mpr ⟨(by have h := st_w hts 56 (w := .declares ⟨"java/lang/Throwable", "<init>", "()V"⟩) (by decide +kernel); first | exact va_Nw.of rfl h | exact h), List.forall_mem_cons.mpr ⟨(by have h := st_w hts 57 (w := .declares ⟨"java/lang/Throwable", "<init>", "(Ljava/lang/String;)V"⟩) (by decide +kernel); first | exact va_Nw.of rfl h | exact h), fun _ h => absurd h List.not_mem_nil⟩⟩⟩⟩⟩⟩⟩⟩⟩
theorem st_ao6 (hts : ∀ w ∈ lw_tbl, w.before args s = true) : dAO s := ⟨va_AO.of (st_w hts 480 (by decide +kernel)), va_AO.of (st_w hts 482 (by decide +kernel)), va_AO.of (st_w hts 484 (by decide +kernel)), va_AO.of (st_w hts 511 (by decide +kernel)), va_AO.of (st_w hts 579 (by decide +kernel)), (by have h := st_w hts 821 (w := .arrayOver (.array .int)) (by decide +kernel); exact h), (by have h := st_w hts 823 (w := .arrayOver (.array .boolean)) (by decide +kernel); exact h)⟩
end ST
theorem st_gKK {s : State} {b0 b L : Nat} {xs : Nat → Int32} (hts : ∀ w ∈ lw_tbl, w.before #[Value.ref b0] s = true) (hgv : (Jvm.Cond.and given_1 narrow_1).before #[Value.ref b0] s = true) {z : GZ} (hz : s.heap.size ≤ gB z) (hK : va_K (gD z) vwCl (gTys z) s) (hR : gRR z s) (hD : ∀ M, va_D (fun q => gB z ≤ q) (gW z M)) (hX : va_X b L xs s s.heap) (hb : b < s.heap.size) (e1 : gsa z = b) (e2 : gsl z = L) (e3 : gsx z = xs) : gKK z s := by
  have hs := flat_of_before _ hgv
  have hA : ∀ a : Nat, a < s.heap.size → ¬ gB z ≤ a := fun a h => by omega
  have hown : s.vm.findClass RX10 = some ((gD z).1 10) := (hK.1 10 _ rfl).2.1
  refine ⟨hK, st_n1 hts, st_str hts hown, ?_, ?_, ⟨hD, ⟨by rw [e1, e2, e3]; exact hX, by rw [e1]; exact hA b hb⟩, hR⟩, st_face hts⟩
  · exact vx_Zqof (st_w hts 78 (by decide +kernel)) (st_w hts 28 (by decide +kernel)) (hs (Cond.isRef (.static Bundle.tN "UNASSIGNED_STACK" Bundle.steD)) (by decide +kernel)) hA
  · exact vx_Zqof (st_w hts 80 (by decide +kernel)) (st_w hts 28 (by decide +kernel)) (hs (Cond.isRef (.static Bundle.tN "SUPPRESSED_SENTINEL" Bundle.listD)) (by decide +kernel)) hA
