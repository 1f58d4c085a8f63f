/-! THE WALK from the entry: the objects, the loop, the end -/
theorem q_73 : (.classLink RL 8 RX10 : Cond) ∈ GW := gw_mem 73 (by decide +kernel) (by decide +kernel)
theorem q_74 : ((Jvm.Cond.instantiable "GlassRaster" (15 : Nat)) : Cond) ∈ GW := gw_mem 74 (by decide +kernel) (by decide +kernel)
theorem q_75 : (.methodLink RL 106 yX10_init : Cond) ∈ GW := gw_mem 75 (by decide +kernel) (by decide +kernel)
theorem q_76 : (.instanceMethod yX10_init : Cond) ∈ GW := gw_mem 76 (by decide +kernel) (by decide +kernel)
theorem q_77 : (.code yX10_init cX10_init 2 none : Cond) ∈ GW := gw_mem 77 (by decide +kernel) (by decide +kernel)
theorem q_1046 : (.classLink RL 107 RX11 : Cond) ∈ GW := gw_mem 1046 (by decide +kernel) (by decide +kernel)
theorem q_1047 : ((Jvm.Cond.instantiable "GlassRasterModel" (43 : Nat)) : Cond) ∈ GW := gw_mem 1047 (by decide +kernel) (by decide +kernel)
theorem q_1048 : (.methodLink RL 109 yX11_init : Cond) ∈ GW := gw_mem 1048 (by decide +kernel) (by decide +kernel)
theorem q_1049 : (.instanceMethod yX11_init : Cond) ∈ GW := gw_mem 1049 (by decide +kernel) (by decide +kernel)
theorem q_1050 : (.code yX11_init cX11_init 1 none : Cond) ∈ GW := gw_mem 1050 (by decide +kernel) (by decide +kernel)
abbrev xAt (x : GX) (c s : Nat) : GX := (xp x, xl x, xe x, xR x, xs x, xm x, xargs x, xbelow x, xmeth x, xc x, xQ x, c, s, xz x)
theorem wd_wg {x : GX} {cc : ByteArray} {nL d mc ms c s pc : Nat} {own : String} {lv : List (Nat × Value)} {st : List Value} (X : DC x cc nL own d mc ms) (go : WG (xAt x c s) M0 lv pc st) : WD x c s (es12 (xz x)) lv pc st := fun H locs ls _ hP hS hl => go H locs ls (st_P X.ad (es12_len _) (es12_cz _) hP) m0_ok hS hl
theorem xupn_eq : ∀ (n : Nat) (x : GX), xupn n x = xAt x (xcells x + n) (xslots x + 6 * n) := by
  intro n
  induction n with
  | zero => intro x; rfl
  | succ n ih =>
    intro x
    show xupn n (xup x) = _
    rw [ih]
    show xAt x (xcells x + 1 + n) (xslots x + 6 + 6 * n) = _
    rw [show xcells x + 1 + n = xcells x + (n + 1) by omega, show xslots x + 6 + 6 * n = xslots x + 6 * (n + 1) by omega]
def f11 : List Value := [.int 0, .int 0, .int 0, .int 0, .int 0, .int 0, .null, .null, .null, .null, .null, .null, .null, .null, .null, .null, .null, .null, .null, .null, .null, .null, .null, .null, .int 0, .int 0, .null, .int 0, .null, .null, .null, .null, .null, .long 0, .long 0, .long 0, .long 0, .null, .null, .int 0, .null, .null, .null]
theorem dm_11 (l : Launch) (z : GZ) : dMet l z yX11_init cX11_init 1 2 [.ref (gad z 122)] (es10 z ++ [.inr (11, f11)]) (es11 z) 39 8511 := dm_X11_init l z (es10 z) 122 (es10_len z)
theorem fr_11 : ∀ j, j < 43 → defaultValue (tyX11 j) = vp_V f11 j := fr_X11
set_option maxHeartbeats 1000000 in
set_option maxRecDepth 100000 in
theorem st_make {x : GX} (X : DC x cL_law 9 RL 11 601024 7293034) {b : Nat} (go : WD x 163 20305 (es12 (xz x)) [(0, .ref b), (1, .ref (gad (xz x) 0)), (2, .ref (gad (xz x) 122)), (3, .ref (gad (xz x) 162)), (4, .int 0)] 23 []) : WD x 0 0 [] [(0, .ref b)] 0 [] := by
  refine d_new X (t := 10) (fs := [.null, .null, .null, .null, .null, .null, .null, .null, .null, .null, .null, .null, .int 0, .int 0, .int 0]) (es2 := [] ++ [.inr (10, [.null, .null, .null, .null, .null, .null, .null, .null, .null, .null, .null, .null, .int 0, .int 0, .int 0])]) (a := 0 + 0) rfl inX10 tyX10_ok q_73 q_74 q_52 fr_X10 (Nat.le_of_ble_eq_true rfl) (Nat.le_of_ble_eq_true rfl) rfl rfl dL_law_0 ?_
  refine d_dup X dL_law_3 rfl ?_
  refine d_call X (As := []) (n := 0) (host := "") (es1 := [] ++ [.inr (10, [.null, .null, .null, .null, .null, .null, .null, .null, .null, .null, .null, .null, .int 0, .int 0, .int 0])]) rfl (dm_X10_init (xl x) (xz x) [] 0 rfl) (Or.inl q_75) rfl q_76 q_52 q_77 (by decide +kernel) rfl (by decide) (by decide) (Nat.le_of_ble_eq_true rfl) (Nat.le_of_ble_eq_true rfl) (Nat.le_of_ble_eq_true rfl) dL_law_4 ?_
  refine d_es (es2 := es10 (xz x)) rfl ?_
  refine d_cs (c2 := 122) (s2 := 11750) rfl rfl ?_
  refine d_astore_n X (lv' := [(1, .ref (gad (xz x) 0)), (0, .ref b)]) dL_law_7 rfl (by decide) rfl ?_
  refine d_new X (t := 11) (fs := f11) (es2 := es10 (xz x) ++ [.inr (11, f11)]) (a := 122) rfl inX11 tyX11_ok q_1046 q_1047 q_63 fr_11 (Nat.le_of_ble_eq_true rfl) (Nat.le_of_ble_eq_true rfl) rfl (es10_len _) dL_law_8 ?_
  refine d_dup X dL_law_11 rfl ?_
  refine d_call X (As := []) (n := 0) (host := "") (es1 := es10 (xz x) ++ [.inr (11, f11)]) rfl (dm_11 (xl x) (xz x)) (Or.inl q_1048) rfl q_1049 q_63 q_1050 (by decide +kernel) rfl (by decide) (by decide) (Nat.le_of_ble_eq_true rfl) (Nat.le_of_ble_eq_true rfl) (Nat.le_of_ble_eq_true rfl) dL_law_12 ?_
  refine d_cs (c2 := 162) (s2 := 20304) rfl rfl ?_
  refine d_astore_n X (lv' := [(2, .ref (gad (xz x) 122)), (1, .ref (gad (xz x) 0)), (0, .ref b)]) dL_law_15 rfl (by decide) rfl ?_
  refine d_iconst X (v := 1) dL_law_16 (by decide) ?_
  refine d_newarr X (tag := 21) (atype := .long) (ty := .long) (a0 := (1, .inr (.inl (fun _ => 0)))) (N := 1) (es2 := es12 (xz x)) (a := 162) rfl rfl (fun h => h) q_ac21 (by rfl) (by decide) (by decide +kernel) (Nat.le_of_ble_eq_true rfl) (Nat.le_of_ble_eq_true rfl) (Nat.le_of_ble_eq_true rfl) rfl (es11_len _) dL_law_17 ?_
  refine d_astore_n X (lv' := [(3, .ref (gad (xz x) 162)), (2, .ref (gad (xz x) 122)), (1, .ref (gad (xz x) 0)), (0, .ref b)]) dL_law_19 rfl (by decide) rfl ?_
  refine d_iconst X (v := 0) dL_law_20 (by decide) ?_
  refine d_istore X (lv' := [(4, .int 0), (3, .ref (gad (xz x) 162)), (2, .ref (gad (xz x) 122)), (1, .ref (gad (xz x) 0)), (0, .ref b)]) dL_law_21 (by decide) rfl ?_
  refine d_cs (c2 := 163) (s2 := 20305) rfl rfl ?_
  exact d_lv [4, 3, 2, 1, 0] rfl go
set_option maxHeartbeats 4000000 in
theorem st_all {x : GX} (X : DC x cL_law 9 RL 11 601024 7293034) (htr : (xl x).stackTraces = false) {b L : Nat} {xs9 : Nat → Int32} (hL : L ≤ 3584) (hsc : gScr x b L xs9) (hnc : gNcs (xs x)) (hend : ∀ (H : Heap) (locs : List Loc) (ls : Array Slot), va_S (fun q => gB (xz x) ≤ q) (xs x).heap H locs → W (xp x) (xl x) (xe x) (xR x) (xs x) (xm x) (xargs x) (xbelow x) (xmeth x) (xc x) H locs 676 23383 (xQ x) (F0 (xm x) 2440 ls [])) : WD x 0 0 [] [(0, .ref b)] 0 [] := by
  refine st_make X (wd_wg X ?_)
  have hc9 : 601024 ≤ (xR x).cells := X.2.2.2.2.2.2.2.2.2.1
  have hs9 : 7293034 ≤ (xR x).slots := X.2.2.2.2.2.2.2.2.2.2.1
  obtain ⟨M1, h⟩ := law_pure (F := 3000) (xs9 := xs9) (Nat.le_refl _) hL 513 0 m0I M0 m0_inv (Nat.zero_le _) (by omega)
  have Y : GC (xAt x 163 20305) cL_law 9 RL 11 := ⟨X.1, X.2.1, X.2.2.1, X.2.2.2.1, X.2.2.2.2.1, X.2.2.2.2.2.1, X.2.2.2.2.2.2.1.1, X.2.2.2.2.2.2.2.1, X.2.2.2.2.2.2.2.2.1, (show 163 ≤ (xR x).cells by omega), (show 20305 ≤ (xR x).slots by omega), htr⟩
  refine law_walk (F := 3000) (L9 := L) (xs9 := xs9) 513 (xAt x 163 20305) 0 M0 M1 Y (show 163 + 513 ≤ (xR x).cells by omega) (show 20305 + 6 * 513 ≤ (xR x).slots by omega) hsc hnc (fun M9 => ?_) h
  rw [xupn_eq]
  exact fun H locs ls _ _ hS _ => hend H locs ls hS
