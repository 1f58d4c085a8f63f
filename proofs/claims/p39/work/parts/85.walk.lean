/-! THE WALK: two scenes, made and lived through -/
theorem q_468 : (.classLink RL 9 RX11 : Cond) ∈ GW := gw_mem 468 (by decide +kernel) (by decide +kernel)
theorem q_469 : ((Jvm.Cond.instantiable "GlassRasterLaw$Scene" (14 : Nat)) : Cond) ∈ GW := gw_mem 469 (by decide +kernel) (by decide +kernel)
theorem q_470 : (.methodLink RL 11 yX11_init : Cond) ∈ GW := gw_mem 470 (by decide +kernel) (by decide +kernel)
theorem q_471 : (.instanceMethod yX11_init : Cond) ∈ GW := gw_mem 471 (by decide +kernel) (by decide +kernel)
theorem q_472 : (.code yX11_init cX11_init 3 none : Cond) ∈ GW := gw_mem 472 (by decide +kernel) (by decide +kernel)
theorem q_826 : (.fieldLink RL 14 RX11 "m" "LGlassRaster;" : Cond) ∈ GW := gw_mem 826 (by decide +kernel) (by decide +kernel)
section DX
variable {x : GX} {cc : ByteArray} {nL d pc c s mc ms : Nat} {own : String} {es : List va_E} {lv : List (Nat × Value)} {st : List Value}
theorem d_imul (X : DC x cc nL own d mc ms) {a b : Int32} (dec : decode cc pc = .ok (.imul, 1)) (go : WD x c s es lv (pc + 1) (.int (a * b) :: st)) : WD x c s es lv pc (.int b :: .int a :: st) := fun H locs ls hz hP hS hl => lv_imul X.1 X.2.1 dec (go H locs ls hz hP hS hl)
theorem d_iadd (X : DC x cc nL own d mc ms) {a b : Int32} (dec : decode cc pc = .ok (.iadd, 1)) (go : WD x c s es lv (pc + 1) (.int (a + b) :: st)) : WD x c s es lv pc (.int b :: .int a :: st) := fun H locs ls hz hP hS hl => lv_iadd X.1 X.2.1 dec (go H locs ls hz hP hS hl)
end DX
section WK
variable {p : Program} {l : Launch} {e : Env} {s : State} {m : MethodId} {below : List Frame} {meth : Method} {c : Code} {b L : Nat} {xs : Nat → Int32} {Q : State → Prop}
set_option maxHeartbeats 4000000 in
set_option maxRecDepth 100000 in
theorem st_scene (hx : p.tables.exec = Jvm.exec) (hb : c.code = cL_law) (hml : c.maxLocals = 16) (hown : s.vm.findClass RL = some m.cls) (hts : ∀ w ∈ lw_tbl, w.before #[Value.ref b] s = true) (hX : va_X b L xs s s.heap) (hbl : b < s.heap.size) (hlk : meth.locks = false) (hgv : (Jvm.Cond.and given_1 narrow_1).before #[Value.ref b] s = true) (htr : l.stackTraces = false) (hL : L ≤ 260)
    {i c0 s0 c1 s1 K : Nat} (hi : i < 2) (h1 : c0 + (540 + K) ≤ 600074) (h2 : s0 + (14417 + 6 * K) ≤ 7301550) (h3 : 600074 ≤ c1 + K) (h4 : 7301550 ≤ s1 + 6 * K)
    (next : ∀ (H : Heap) (ls : Array Slot), va_S (fun q => s.heap.size ≤ q) s.heap H [] → lv_has ls 16 [(1, .int (nI (i + 1))), (0, .ref b)] → W p l e room_1 s m #[Value.ref b] below meth c H [] c1 s1 Q (F0 m 2 ls []))
    {H : Heap} {ls : Array Slot} (hS : va_S (fun q => s.heap.size ≤ q) s.heap H []) (hl : lv_has ls 16 [(1, .int (nI i)), (0, .ref b)]) : W p l e room_1 s m #[Value.ref b] below meth c H [] c0 s0 Q (F0 m 2 ls []) := by
  obtain ⟨D, cy, hz⟩ := st_z hts
  obtain ⟨B, hB⟩ : ∃ B, B = H.size := ⟨_, rfl⟩
  have hBs : s.heap.size ≤ B := by rw [hB]; exact hS.1
  have kA : gKK (zA D cy B b L xs) s := st_gKK hts hgv hBs (hz _ _ _ _ _ _).1 (hz _ _ _ _ _ _).2 (zA_DI D cy B b L xs).D hX hbl rfl rfl rfl
  have kB : gKK (zB D cy B b L xs) s := st_gKK hts hgv hBs (hz _ _ _ _ _ _).1 (hz _ _ _ _ _ _).2 (zB_DI D cy B b L xs).D hX hbl rfl rfl rfl
  obtain ⟨v1, hv1⟩ : ∃ v : Int32, v = 29 * nI i + 7 := ⟨_, rfl⟩
  have ev1 : v1 = nI (29 * i + 7) := by rw [hv1, show (29 : Int32) = nI 29 from rfl, i_7, n_m, n_a]
  have X : DC (p, l, e, room_1, s, m, #[Value.ref b], below, meth, c, Q, c0, s0, zA D cy B b L xs) cL_law 16 RL 11 600074 7301550 :=
    ⟨hx, hb, hml, hown, st_gw hts, hlk, ⟨kA, st_n2 hts, st_ao6 hts, fun _ => rfl⟩, Nat.le_of_ble_eq_true rfl, Nat.le_of_ble_eq_true rfl, Nat.le_refl _, Nat.le_refl _, trivial⟩
  have main : WD (p, l, e, room_1, s, m, #[Value.ref b], below, meth, c, Q, c0, s0, zA D cy B b L xs) c0 s0 [] [(1, .int (nI i)), (0, .ref b)] 2 [] := by
    refine d_iload_n X (j := 0) dL_law_2 rfl rfl ?_
    refine d_iconst X (v := 2) dL_law_3 (by decide) ?_
    refine d_icmp_ge X (tgt := 816) dL_law_4 (by decide) (fun h => absurd h (by rw [i_2, n_le (by omega) (by omega)]; omega)) (fun _ => ?_)
    refine d_new X (t := 11) (fs := [.null, .null, .int 0, .int 0, .int 0, .null, .null, .null, .null, .null, .null, .int 0, .int 0, .int 0]) (es2 := [.inr (11, [.null, .null, .int 0, .int 0, .int 0, .null, .null, .null, .null, .null, .null, .int 0, .int 0, .int 0])]) (a := 0) rfl inX11 tyX11_ok q_468 q_469 q_16 fr_X11 (by omega) (by omega) rfl rfl dL_law_7 ?_
    refine d_dup X dL_law_10 rfl ?_
    refine d_aload_n X (j := 1) dL_law_11 rfl rfl ?_
    refine d_bipush X (v := 29) dL_law_12 (by decide) ?_
    refine d_iload_n X (j := 0) dL_law_14 rfl rfl ?_
    refine d_imul X dL_law_15 ?_
    refine d_bipush X (v := 7) dL_law_16 (by decide) ?_
    refine d_iadd X dL_law_18 ?_
    rw [← hv1]
    refine d_call X (st := [.ref (gad (zA D cy B b L xs) 0)]) (g := 0) (As := [.ref b, .int v1]) (n := 2) (host := "") (es1 := [.inr (11, [.null, .null, .int 0, .int 0, .int 0, .null, .null, .null, .null, .null, .null, .int 0, .int 0, .int 0])]) (es2 := esS (zA D cy B b L xs) v1) rfl (dm_X11_init l (zA D cy B b L xs) v1) (Or.inl q_470) rfl q_471 q_16 q_472 (by decide +kernel) rfl (by decide) (by decide) (by omega) (by omega) (Nat.le_of_ble_eq_true rfl) dL_law_19 ?_
    refine d_astore_n X (lv' := [(2, .ref (gad (zA D cy B b L xs) 0)), (1, .int (nI i)), (0, .ref b)]) dL_law_22 rfl (by decide) rfl ?_
    refine d_aload_n X (j := 0) dL_law_23 rfl rfl ?_
    refine d_get X (g := 0) (k := 0) (t := 11) (v := .ref (gad (zA D cy B b L xs) (1 + 0))) rfl rfl inX11 (by decide) q_826 rfl rfl dL_law_24 ?_
    refine d_astore_n X (lv' := [(3, .ref (gad (zA D cy B b L xs) (1 + 0))), (2, .ref (gad (zA D cy B b L xs) 0)), (1, .int (nI i)), (0, .ref b)]) dL_law_27 rfl (by decide) rfl ?_
    refine d_cs (c2 := c0 + 236) (s2 := s0 + 12593) (by omega) (by omega) ?_
    intro H1 locs1 ls1 hz1 hP1 hS1 hl1
    obtain ⟨M9, hM9⟩ := p_law (F := 3000) (L9 := L) (xs9 := xs) (a1 := nI i) (Nat.le_refl _) hL (st_ST ev1) p0_c.1 p0_c.2 (by omega)
    have Y : GC (p, l, e, room_1, s, m, #[Value.ref b], below, meth, c, Q, c0 + 236, s0 + 12593, zB D cy B b L xs) cL_law 16 RL 11 :=
      ⟨hx, hb, hml, hown, st_gw hts, hlk, kB, Nat.le_of_ble_eq_true rfl, Nat.le_of_ble_eq_true rfl, (show c0 + 236 ≤ 600074 by omega), (show s0 + 12593 ≤ 7301550 by omega), htr⟩
    have K9 := w_L_law (K := K) (XR.rf _) Y ⟨(show c0 + 236 + (304 + K) ≤ 600074 by omega), (show s0 + 12593 + 6 * (304 + K) ≤ 7301550 by omega)⟩ (TZ.nil rfl) ⟨rfl, rfl⟩ (fun x9 M8 hx9 X9 B9 tz9 e9 => by
      obtain ⟨c9, s9, z9, rfl, zr⟩ := hx9
      have hg : gsa z9 = b := zr.2.2.2.1
      have hgB : gB z9 = B := zr.2.2.1
      have b1 : c9 + K ≤ 600074 := B9.1
      have b2 : s9 + 6 * K ≤ 7301550 := B9.2
      refine g_iinc X9 (j := 0) (v := nI i) (w := nI (i + 1)) (lv' := [(0, .ref (gsa z9))]) dL_law_810 rfl (by rw [show Int32.ofInt 1 = nI 1 by decide]; exact n_a i 1) (by decide) (fun w9 => rfl) (fun w9 ew => ?_)
      subst ew
      refine g_goto X9 (tgt := 2) dL_law_813 (by decide) ?_
      intro H2 locs2 ls2 hP2 hO2 hS2 hl2
      have hl3 : lv_has ls2 c.maxLocals [(1, .int (nI (i + 1))), (0, .ref (gsa z9))] := hl2
      rw [hml, hg] at hl3
      have hS3 : va_S (fun q => B ≤ q) s.heap H2 locs2 := by
        have h : va_S (fun q => gB z9 ≤ q) s.heap H2 locs2 := hS2
        rw [hgB] at h
        exact h
      exact va_forget (fun q hq => Nat.le_trans hBs (hS3.2.2 q hq)) (W.widen (show c9 ≤ c1 by omega) (show s9 ≤ s1 by omega) (next H2 ls2 ⟨hS3.1, fun q g1 _ => hS3.2.1 q g1 (fun g2 => by have g2 : B ≤ q := g2; omega), fun _ h => by cases h⟩ hl3))) hM9
    exact K9 H1 locs1 ls1 (st_P hP1) m0_ok hS1 hl1
  exact main H [] ls (by rw [← hB]; rfl) (fun k q h => by cases h) ⟨hS.1, fun q g1 _ => hS.2.1 q g1 (Nat.not_le.mpr g1), fun _ h => by cases h⟩ (by rw [← hml] at hl; exact hl)
end WK
