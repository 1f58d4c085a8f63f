/-! the law's loop -/
def bk_L_law_200_23 (F : Nat) (L9 : Nat) (xs9 : Nat → Int32) (rec : Int32 → GM → Option (GM ⊕ (Int32 × GM))) (a2 : Int32) (M : GM) : Option (GM ⊕ (Int32 × GM)) := grd (gIn (a2 + (1 : Int32)) L9) (grd (gIn (a2 + (2 : Int32)) L9) (grd (gIn (a2 + (3 : Int32)) L9) (grd (gIn (a2 + (4 : Int32)) L9) (grd (gIn (a2 + (5 : Int32)) L9) (grd (gIn (a2 + (6 : Int32)) L9) (bndO (f_L_addCorner F (xs9 (a2 + (1 : Int32)).toNatClampNeg) (xs9 (a2 + (2 : Int32)).toNatClampNeg) (xs9 (a2 + (3 : Int32)).toNatClampNeg) (xs9 (a2 + (4 : Int32)).toNatClampNeg) (xs9 (a2 + (5 : Int32)).toNatClampNeg) (xs9 (a2 + (6 : Int32)).toNatClampNeg) M) (fun (v10, M11) => bnd v10 (fun v12 => grd (gIn (a2 + (1 : Int32)) L9) (grd (gIn (a2 + (2 : Int32)) L9) (grd (gIn (a2 + (3 : Int32)) L9) (grd (gIn (a2 + (4 : Int32)) L9) (grd (gIn (a2 + (5 : Int32)) L9) (grd (gIn (a2 + (6 : Int32)) L9) (bndO (f_X11_addCorner F (xs9 (a2 + (1 : Int32)).toNatClampNeg) (xs9 (a2 + (2 : Int32)).toNatClampNeg) (xs9 (a2 + (3 : Int32)).toNatClampNeg) (xs9 (a2 + (4 : Int32)).toNatClampNeg) (xs9 (a2 + (5 : Int32)).toNatClampNeg) (xs9 (a2 + (6 : Int32)).toNatClampNeg) M11) (fun (v21, M22) => bnd v21 (fun v23 => if (f_X11_thrown M22) = v12 then (if v12 = 0 then (if (lg_cmp (gL M22 162 0) v23.toInt64) = 0 then (bnd (a2 + (7 : Int32)) (fun v27 => rec v27 M22)) else (some (Sum.inr ((0 : Int32), M22)))) else (bnd (a2 + (7 : Int32)) (fun v25 => rec v25 M22))) else (some (Sum.inr ((0 : Int32), M22)))))))))))))))))))
set_option maxHeartbeats 4000000 in
set_option maxRecDepth 100000 in
theorem bw_L_law_200_23 {x : GX} (X : GC x cL_law 9 RL 11) {a2 : Int32}   {F : Nat} {b9 L9 : Nat} {xs9 : Nat → Int32} {rec : Int32 → GM → Option (GM ⊕ (Int32 × GM))} {M : GM} {r9 : (GM ⊕ (Int32 × GM))} (XU : GC (xup x) cL_law 9 RL 11) (hroom : xcells x + 1 ≤ (xR x).cells ∧ xslots x + 6 ≤ (xR x).slots) (hsc : gScr x b9 L9 xs9) (hnc : gNcs (xs x)) (hno : ∀ (v8 : Int32) (M8 : GM), r9 ≠ Sum.inr (v8, M8)) (hE : ∀  (M9 : GM), r9 = Sum.inl M9 → WG x M9 [] 2440 []) (hrec : ∀ (a4_9 : Int32) (M9 : GM), rec a4_9 M9 = some r9 → WG (xup x) M9 [(0, .ref b9), (1, .ref (gad (xz x) 0)), (2, .ref (gad (xz x) 122)), (3, .ref (gad (xz x) 162)), (4, .int a4_9)] 23 []) (h : bk_L_law_200_23 F L9 xs9 rec a2 M = some r9) : WG x M [(0, .ref b9), (1, .ref (gad (xz x) 0)), (2, .ref (gad (xz x) 122)), (3, .ref (gad (xz x) 162)), (4, .int a2)] 200 [] := by
  unfold bk_L_law_200_23 at h
  refine g_aload_n X (j := 1) dL_law_200 rfl rfl ?_
  refine g_aload_n X (j := 0) dL_law_201 rfl rfl ?_
  refine g_iload X (j := 4) dL_law_202 rfl ?_
  refine g_iconst X (v := 1) dL_law_204 (by decide) ?_
  refine g_iadd X dL_law_205 ?_
  obtain ⟨hg3, h⟩ := grd_e h
  refine g_sld X hsc hg3 dL_law_206 ?_
  refine g_aload_n X (j := 0) dL_law_207 rfl rfl ?_
  refine g_iload X (j := 4) dL_law_208 rfl ?_
  refine g_iconst X (v := 2) dL_law_210 (by decide) ?_
  refine g_iadd X dL_law_211 ?_
  obtain ⟨hg4, h⟩ := grd_e h
  refine g_sld X hsc hg4 dL_law_212 ?_
  refine g_aload_n X (j := 0) dL_law_213 rfl rfl ?_
  refine g_iload X (j := 4) dL_law_214 rfl ?_
  refine g_iconst X (v := 3) dL_law_216 (by decide) ?_
  refine g_iadd X dL_law_217 ?_
  obtain ⟨hg5, h⟩ := grd_e h
  refine g_sld X hsc hg5 dL_law_218 ?_
  refine g_aload_n X (j := 0) dL_law_219 rfl rfl ?_
  refine g_iload X (j := 4) dL_law_220 rfl ?_
  refine g_iconst X (v := 4) dL_law_222 (by decide) ?_
  refine g_iadd X dL_law_223 ?_
  obtain ⟨hg6, h⟩ := grd_e h
  refine g_sld X hsc hg6 dL_law_224 ?_
  refine g_aload_n X (j := 0) dL_law_225 rfl rfl ?_
  refine g_iload X (j := 4) dL_law_226 rfl ?_
  refine g_iconst X (v := 5) dL_law_228 (by decide) ?_
  refine g_iadd X dL_law_229 ?_
  obtain ⟨hg7, h⟩ := grd_e h
  refine g_sld X hsc hg7 dL_law_230 ?_
  refine g_aload_n X (j := 0) dL_law_231 rfl rfl ?_
  refine g_iload X (j := 4) dL_law_232 rfl ?_
  refine g_bipush X (v := 6) dL_law_234 (by decide) ?_
  refine g_iadd X dL_law_236 ?_
  obtain ⟨hg8, h⟩ := grd_e h
  refine g_sld X hsc hg8 dL_law_237 ?_
  refine g_aload_n X (j := 3) dL_law_238 rfl rfl ?_
  obtain ⟨⟨v10, M11⟩, hc9, h⟩ := bndO_e h
  refine gw_L_110 X (ct_L_addCorner X.htr hc9) hnc (by decide) (Nat.le_of_ble_eq_true rfl) hroom dL_law_239 ?_
  refine g_topi (fun v12 e13 => ?_)
  have h := bnd_e e13 h
  refine g_istore XU (lv' := [(5, .int v12), (0, .ref b9), (1, .ref (gad (xz x) 0)), (2, .ref (gad (xz x) 122)), (3, .ref (gad (xz x) 162)), (4, .int a2)]) dL_law_242 (by decide) rfl ?_
  refine g_aload_n XU (j := 3) dL_law_244 rfl rfl ?_
  refine g_aload_n XU (j := 1) dL_law_245 rfl rfl ?_
  refine g_iload XU (j := 5) dL_law_246 rfl ?_
  refine g_iconst XU (v := 1) dL_law_248 (by decide) ?_
  refine g_iadd XU dL_law_249 ?_
  obtain ⟨hg14, h⟩ := grd_e h
  refine g_sld XU hsc hg14 dL_law_250 ?_
  refine g_aload_n XU (j := 1) dL_law_251 rfl rfl ?_
  refine g_iload XU (j := 5) dL_law_252 rfl ?_
  refine g_iconst XU (v := 2) dL_law_254 (by decide) ?_
  refine g_iadd XU dL_law_255 ?_
  obtain ⟨hg15, h⟩ := grd_e h
  refine g_sld XU hsc hg15 dL_law_256 ?_
  refine g_aload_n XU (j := 1) dL_law_257 rfl rfl ?_
  refine g_iload XU (j := 5) dL_law_258 rfl ?_
  refine g_iconst XU (v := 3) dL_law_260 (by decide) ?_
  refine g_iadd XU dL_law_261 ?_
  obtain ⟨hg16, h⟩ := grd_e h
  refine g_sld XU hsc hg16 dL_law_262 ?_
  refine g_aload_n XU (j := 1) dL_law_263 rfl rfl ?_
  refine g_iload XU (j := 5) dL_law_264 rfl ?_
  refine g_iconst XU (v := 4) dL_law_266 (by decide) ?_
  refine g_iadd XU dL_law_267 ?_
  obtain ⟨hg17, h⟩ := grd_e h
  refine g_sld XU hsc hg17 dL_law_268 ?_
  refine g_aload_n XU (j := 1) dL_law_269 rfl rfl ?_
  refine g_iload XU (j := 5) dL_law_270 rfl ?_
  refine g_iconst XU (v := 5) dL_law_272 (by decide) ?_
  refine g_iadd XU dL_law_273 ?_
  obtain ⟨hg18, h⟩ := grd_e h
  refine g_sld XU hsc hg18 dL_law_274 ?_
  refine g_aload_n XU (j := 1) dL_law_275 rfl rfl ?_
  refine g_iload XU (j := 5) dL_law_276 rfl ?_
  refine g_bipush XU (v := 6) dL_law_278 (by decide) ?_
  refine g_iadd XU dL_law_280 ?_
  obtain ⟨hg19, h⟩ := grd_e h
  refine g_sld XU hsc hg19 dL_law_281 ?_
  obtain ⟨⟨v21, M22⟩, hc20, h⟩ := bndO_e h
  refine gc_L_115 XU gT_c122 (ct_X11_addCorner XU.htr  hc20) (by decide) (Nat.le_of_ble_eq_true rfl) dL_law_282 ?_
  refine g_topi (fun v23 e24 => ?_)
  have h := bnd_e e24 h
  refine g_istore XU (lv' := [(6, .int v23), (5, .int v12), (0, .ref b9), (1, .ref (gad (xz x) 0)), (2, .ref (gad (xz x) 122)), (3, .ref (gad (xz x) 162)), (4, .int a2)]) dL_law_285 (by decide) rfl ?_
  refine g_aload_n XU (j := 4) dL_law_287 rfl rfl ?_
  refine gc_L_116 XU gT_c122 (ct_X11_thrown XU.htr ) (by decide) (Nat.le_of_ble_eq_true rfl) dL_law_288 ?_
  refine g_iload XU (j := 1) dL_law_291 rfl ?_
  refine g_icmp_eq XU (tgt := 298) dL_law_293 (by decide) (fun hb => ?_) (fun hb => ?_)
  · have h := ite_t hb h
    refine g_iload XU (j := 1) dL_law_298 rfl ?_
    refine g_if_ne XU (tgt := 315) dL_law_300 (by decide) (fun hb => ?_) (fun hb => ?_)
    · have h := ite_f hb h
      refine g_goto XU (tgt := 2434) dL_law_315 (by decide) ?_
      refine g_iinc XU (j := 6) (w := a2 + (7 : Int32)) (lv' := [(6, .int v23), (5, .int v12), (0, .ref b9), (1, .ref (gad (xz x) 0)), (2, .ref (gad (xz x) 122)), (3, .ref (gad (xz x) 162))]) dL_law_2434 rfl (by rw [ii_7]) (by decide) (fun _ => rfl) (fun v25 e26 => ?_)
      have h := bnd_e e26 h
      refine g_goto XU (tgt := 23) dL_law_2437 (by decide) ?_
      refine g_lv [3, 4, 5, 6, 0] rfl ?_
      exact hrec v25 M22 h
    · have h := ite_t hb h
      refine g_aload_n XU (j := 5) dL_law_303 rfl rfl ?_
      refine g_iconst XU (v := 0) dL_law_304 (by decide) ?_
      refine g_lald XU gT_c162 (by decide +kernel) dL_law_305 ?_
      rw [tn_0]
      refine g_iload XU (j := 0) dL_law_306 rfl ?_
      refine g_i2l XU dL_law_308 ?_
      refine g_lcmp XU dL_law_309 ?_
      refine g_if_eq XU (tgt := 315) dL_law_310 (by decide) (fun hb => ?_) (fun hb => ?_)
      · have h := ite_t hb h
        refine g_goto XU (tgt := 2434) dL_law_315 (by decide) ?_
        refine g_iinc XU (j := 6) (w := a2 + (7 : Int32)) (lv' := [(6, .int v23), (5, .int v12), (0, .ref b9), (1, .ref (gad (xz x) 0)), (2, .ref (gad (xz x) 122)), (3, .ref (gad (xz x) 162))]) dL_law_2434 rfl (by rw [ii_7]) (by decide) (fun _ => rfl) (fun v27 e28 => ?_)
        have h := bnd_e e28 h
        refine g_goto XU (tgt := 23) dL_law_2437 (by decide) ?_
        refine g_lv [3, 4, 5, 6, 0] rfl ?_
        exact hrec v27 M22 h
      · have h := ite_f hb h
        refine g_iconst XU (v := 0) dL_law_313 (by decide) ?_
        exact absurd (Option.some.inj h).symm (hno _ _)
  · have h := ite_f hb h
    refine g_iconst XU (v := 0) dL_law_296 (by decide) ?_
    exact absurd (Option.some.inj h).symm (hno _ _)
def bk_L_law_318_23 (F : Nat) (L9 : Nat) (xs9 : Nat → Int32) (rec : Int32 → GM → Option (GM ⊕ (Int32 × GM))) (a29 : Int32) (M : GM) : Option (GM ⊕ (Int32 × GM)) := grd (gIn (a29 + (1 : Int32)) L9) (grd (gIn (a29 + (2 : Int32)) L9) (grd (gIn (a29 + (3 : Int32)) L9) (grd (gIn (a29 + (4 : Int32)) L9) (bndO (f_L_moveCorner F (xs9 (a29 + (1 : Int32)).toNatClampNeg) (xs9 (a29 + (2 : Int32)).toNatClampNeg) (xs9 (a29 + (3 : Int32)).toNatClampNeg) (xs9 (a29 + (4 : Int32)).toNatClampNeg) M) (fun (v35, M36) => bnd v35 (fun v37 => grd (gIn (a29 + (1 : Int32)) L9) (grd (gIn (a29 + (2 : Int32)) L9) (grd (gIn (a29 + (3 : Int32)) L9) (grd (gIn (a29 + (4 : Int32)) L9) (bndO (f_X11_moveCorner F (xs9 (a29 + (1 : Int32)).toNatClampNeg) (xs9 (a29 + (2 : Int32)).toNatClampNeg) (xs9 (a29 + (3 : Int32)).toNatClampNeg) (xs9 (a29 + (4 : Int32)).toNatClampNeg) M36) (fun (v44, M45) => bnd v44 (fun v46 => if (f_X11_thrown M45) = v37 then (if v37 = 0 then (if (lg_cmp (gL M45 162 0) v46.toInt64) = 0 then (bnd (a29 + (7 : Int32)) (fun v50 => rec v50 M45)) else (some (Sum.inr ((0 : Int32), M45)))) else (bnd (a29 + (7 : Int32)) (fun v48 => rec v48 M45))) else (some (Sum.inr ((0 : Int32), M45)))))))))))))))
set_option maxHeartbeats 4000000 in
set_option maxRecDepth 100000 in
theorem bw_L_law_318_23 {x : GX} (X : GC x cL_law 9 RL 11) {a29 : Int32}   {F : Nat} {b9 L9 : Nat} {xs9 : Nat → Int32} {rec : Int32 → GM → Option (GM ⊕ (Int32 × GM))} {M : GM} {r9 : (GM ⊕ (Int32 × GM))} (XU : GC (xup x) cL_law 9 RL 11) (hroom : xcells x + 1 ≤ (xR x).cells ∧ xslots x + 6 ≤ (xR x).slots) (hsc : gScr x b9 L9 xs9) (hnc : gNcs (xs x)) (hno : ∀ (v8 : Int32) (M8 : GM), r9 ≠ Sum.inr (v8, M8)) (hE : ∀  (M9 : GM), r9 = Sum.inl M9 → WG x M9 [] 2440 []) (hrec : ∀ (a4_9 : Int32) (M9 : GM), rec a4_9 M9 = some r9 → WG (xup x) M9 [(0, .ref b9), (1, .ref (gad (xz x) 0)), (2, .ref (gad (xz x) 122)), (3, .ref (gad (xz x) 162)), (4, .int a4_9)] 23 []) (h : bk_L_law_318_23 F L9 xs9 rec a29 M = some r9) : WG x M [(0, .ref b9), (1, .ref (gad (xz x) 0)), (2, .ref (gad (xz x) 122)), (3, .ref (gad (xz x) 162)), (4, .int a29)] 318 [] := by
  unfold bk_L_law_318_23 at h
  refine g_aload_n X (j := 1) dL_law_318 rfl rfl ?_
  refine g_aload_n X (j := 0) dL_law_319 rfl rfl ?_
  refine g_iload X (j := 4) dL_law_320 rfl ?_
  refine g_iconst X (v := 1) dL_law_322 (by decide) ?_
  refine g_iadd X dL_law_323 ?_
  obtain ⟨hg30, h⟩ := grd_e h
  refine g_sld X hsc hg30 dL_law_324 ?_
  refine g_aload_n X (j := 0) dL_law_325 rfl rfl ?_
  refine g_iload X (j := 4) dL_law_326 rfl ?_
  refine g_iconst X (v := 2) dL_law_328 (by decide) ?_
  refine g_iadd X dL_law_329 ?_
  obtain ⟨hg31, h⟩ := grd_e h
  refine g_sld X hsc hg31 dL_law_330 ?_
  refine g_aload_n X (j := 0) dL_law_331 rfl rfl ?_
  refine g_iload X (j := 4) dL_law_332 rfl ?_
  refine g_iconst X (v := 3) dL_law_334 (by decide) ?_
  refine g_iadd X dL_law_335 ?_
  obtain ⟨hg32, h⟩ := grd_e h
  refine g_sld X hsc hg32 dL_law_336 ?_
  refine g_aload_n X (j := 0) dL_law_337 rfl rfl ?_
  refine g_iload X (j := 4) dL_law_338 rfl ?_
  refine g_iconst X (v := 4) dL_law_340 (by decide) ?_
  refine g_iadd X dL_law_341 ?_
  obtain ⟨hg33, h⟩ := grd_e h
  refine g_sld X hsc hg33 dL_law_342 ?_
  refine g_aload_n X (j := 3) dL_law_343 rfl rfl ?_
  obtain ⟨⟨v35, M36⟩, hc34, h⟩ := bndO_e h
  refine gw_L_120 X (ct_L_moveCorner X.htr hc34) hnc (by decide) (Nat.le_of_ble_eq_true rfl) hroom dL_law_344 ?_
  refine g_topi (fun v37 e38 => ?_)
  have h := bnd_e e38 h
  refine g_istore XU (lv' := [(5, .int v37), (0, .ref b9), (1, .ref (gad (xz x) 0)), (2, .ref (gad (xz x) 122)), (3, .ref (gad (xz x) 162)), (4, .int a29)]) dL_law_347 (by decide) rfl ?_
  refine g_aload_n XU (j := 3) dL_law_349 rfl rfl ?_
  refine g_aload_n XU (j := 1) dL_law_350 rfl rfl ?_
  refine g_iload XU (j := 5) dL_law_351 rfl ?_
  refine g_iconst XU (v := 1) dL_law_353 (by decide) ?_
  refine g_iadd XU dL_law_354 ?_
  obtain ⟨hg39, h⟩ := grd_e h
  refine g_sld XU hsc hg39 dL_law_355 ?_
  refine g_aload_n XU (j := 1) dL_law_356 rfl rfl ?_
  refine g_iload XU (j := 5) dL_law_357 rfl ?_
  refine g_iconst XU (v := 2) dL_law_359 (by decide) ?_
  refine g_iadd XU dL_law_360 ?_
  obtain ⟨hg40, h⟩ := grd_e h
  refine g_sld XU hsc hg40 dL_law_361 ?_
  refine g_aload_n XU (j := 1) dL_law_362 rfl rfl ?_
  refine g_iload XU (j := 5) dL_law_363 rfl ?_
  refine g_iconst XU (v := 3) dL_law_365 (by decide) ?_
  refine g_iadd XU dL_law_366 ?_
  obtain ⟨hg41, h⟩ := grd_e h
  refine g_sld XU hsc hg41 dL_law_367 ?_
  refine g_aload_n XU (j := 1) dL_law_368 rfl rfl ?_
  refine g_iload XU (j := 5) dL_law_369 rfl ?_
  refine g_iconst XU (v := 4) dL_law_371 (by decide) ?_
  refine g_iadd XU dL_law_372 ?_
  obtain ⟨hg42, h⟩ := grd_e h
  refine g_sld XU hsc hg42 dL_law_373 ?_
  obtain ⟨⟨v44, M45⟩, hc43, h⟩ := bndO_e h
  refine gc_L_123 XU gT_c122 (ct_X11_moveCorner XU.htr  hc43) (by decide) (Nat.le_of_ble_eq_true rfl) dL_law_374 ?_
  refine g_topi (fun v46 e47 => ?_)
  have h := bnd_e e47 h
  refine g_istore XU (lv' := [(6, .int v46), (5, .int v37), (0, .ref b9), (1, .ref (gad (xz x) 0)), (2, .ref (gad (xz x) 122)), (3, .ref (gad (xz x) 162)), (4, .int a29)]) dL_law_377 (by decide) rfl ?_
  refine g_aload_n XU (j := 4) dL_law_379 rfl rfl ?_
  refine gc_L_116 XU gT_c122 (ct_X11_thrown XU.htr ) (by decide) (Nat.le_of_ble_eq_true rfl) dL_law_380 ?_
  refine g_iload XU (j := 1) dL_law_383 rfl ?_
  refine g_icmp_eq XU (tgt := 390) dL_law_385 (by decide) (fun hb => ?_) (fun hb => ?_)
  · have h := ite_t hb h
    refine g_iload XU (j := 1) dL_law_390 rfl ?_
    refine g_if_ne XU (tgt := 407) dL_law_392 (by decide) (fun hb => ?_) (fun hb => ?_)
    · have h := ite_f hb h
      refine g_goto XU (tgt := 2434) dL_law_407 (by decide) ?_
      refine g_iinc XU (j := 6) (w := a29 + (7 : Int32)) (lv' := [(6, .int v46), (5, .int v37), (0, .ref b9), (1, .ref (gad (xz x) 0)), (2, .ref (gad (xz x) 122)), (3, .ref (gad (xz x) 162))]) dL_law_2434 rfl (by rw [ii_7]) (by decide) (fun _ => rfl) (fun v48 e49 => ?_)
      have h := bnd_e e49 h
      refine g_goto XU (tgt := 23) dL_law_2437 (by decide) ?_
      refine g_lv [3, 4, 5, 6, 0] rfl ?_
      exact hrec v48 M45 h
    · have h := ite_t hb h
      refine g_aload_n XU (j := 5) dL_law_395 rfl rfl ?_
      refine g_iconst XU (v := 0) dL_law_396 (by decide) ?_
      refine g_lald XU gT_c162 (by decide +kernel) dL_law_397 ?_
      rw [tn_0]
      refine g_iload XU (j := 0) dL_law_398 rfl ?_
      refine g_i2l XU dL_law_400 ?_
      refine g_lcmp XU dL_law_401 ?_
      refine g_if_eq XU (tgt := 407) dL_law_402 (by decide) (fun hb => ?_) (fun hb => ?_)
      · have h := ite_t hb h
        refine g_goto XU (tgt := 2434) dL_law_407 (by decide) ?_
        refine g_iinc XU (j := 6) (w := a29 + (7 : Int32)) (lv' := [(6, .int v46), (5, .int v37), (0, .ref b9), (1, .ref (gad (xz x) 0)), (2, .ref (gad (xz x) 122)), (3, .ref (gad (xz x) 162))]) dL_law_2434 rfl (by rw [ii_7]) (by decide) (fun _ => rfl) (fun v50 e51 => ?_)
        have h := bnd_e e51 h
        refine g_goto XU (tgt := 23) dL_law_2437 (by decide) ?_
        refine g_lv [3, 4, 5, 6, 0] rfl ?_
        exact hrec v50 M45 h
      · have h := ite_f hb h
        refine g_iconst XU (v := 0) dL_law_405 (by decide) ?_
        exact absurd (Option.some.inj h).symm (hno _ _)
  · have h := ite_f hb h
    refine g_iconst XU (v := 0) dL_law_388 (by decide) ?_
    exact absurd (Option.some.inj h).symm (hno _ _)
def bk_L_law_410_23 (F : Nat) (L9 : Nat) (xs9 : Nat → Int32) (rec : Int32 → GM → Option (GM ⊕ (Int32 × GM))) (a52 : Int32) (M : GM) : Option (GM ⊕ (Int32 × GM)) := grd (gIn (a52 + (1 : Int32)) L9) (grd (gIn (a52 + (2 : Int32)) L9) (bndO (f_L_setColour F (xs9 (a52 + (1 : Int32)).toNatClampNeg) (xs9 (a52 + (2 : Int32)).toNatClampNeg) M) (fun (v56, M57) => bnd v56 (fun v58 => grd (gIn (a52 + (1 : Int32)) L9) (grd (gIn (a52 + (2 : Int32)) L9) (bndO (f_X11_setColour F (xs9 (a52 + (1 : Int32)).toNatClampNeg) (xs9 (a52 + (2 : Int32)).toNatClampNeg) M57) (fun (v63, M64) => bnd v63 (fun v65 => if (f_X11_thrown M64) = v58 then (if v58 = 0 then (if (lg_cmp (gL M64 162 0) v65.toInt64) = 0 then (bnd (a52 + (7 : Int32)) (fun v69 => rec v69 M64)) else (some (Sum.inr ((0 : Int32), M64)))) else (bnd (a52 + (7 : Int32)) (fun v67 => rec v67 M64))) else (some (Sum.inr ((0 : Int32), M64)))))))))))
set_option maxHeartbeats 4000000 in
set_option maxRecDepth 100000 in
theorem bw_L_law_410_23 {x : GX} (X : GC x cL_law 9 RL 11) {a52 : Int32}   {F : Nat} {b9 L9 : Nat} {xs9 : Nat → Int32} {rec : Int32 → GM → Option (GM ⊕ (Int32 × GM))} {M : GM} {r9 : (GM ⊕ (Int32 × GM))} (XU : GC (xup x) cL_law 9 RL 11) (hroom : xcells x + 1 ≤ (xR x).cells ∧ xslots x + 6 ≤ (xR x).slots) (hsc : gScr x b9 L9 xs9) (hnc : gNcs (xs x)) (hno : ∀ (v8 : Int32) (M8 : GM), r9 ≠ Sum.inr (v8, M8)) (hE : ∀  (M9 : GM), r9 = Sum.inl M9 → WG x M9 [] 2440 []) (hrec : ∀ (a4_9 : Int32) (M9 : GM), rec a4_9 M9 = some r9 → WG (xup x) M9 [(0, .ref b9), (1, .ref (gad (xz x) 0)), (2, .ref (gad (xz x) 122)), (3, .ref (gad (xz x) 162)), (4, .int a4_9)] 23 []) (h : bk_L_law_410_23 F L9 xs9 rec a52 M = some r9) : WG x M [(0, .ref b9), (1, .ref (gad (xz x) 0)), (2, .ref (gad (xz x) 122)), (3, .ref (gad (xz x) 162)), (4, .int a52)] 410 [] := by
  unfold bk_L_law_410_23 at h
  refine g_aload_n X (j := 1) dL_law_410 rfl rfl ?_
  refine g_aload_n X (j := 0) dL_law_411 rfl rfl ?_
  refine g_iload X (j := 4) dL_law_412 rfl ?_
  refine g_iconst X (v := 1) dL_law_414 (by decide) ?_
  refine g_iadd X dL_law_415 ?_
  obtain ⟨hg53, h⟩ := grd_e h
  refine g_sld X hsc hg53 dL_law_416 ?_
  refine g_aload_n X (j := 0) dL_law_417 rfl rfl ?_
  refine g_iload X (j := 4) dL_law_418 rfl ?_
  refine g_iconst X (v := 2) dL_law_420 (by decide) ?_
  refine g_iadd X dL_law_421 ?_
  obtain ⟨hg54, h⟩ := grd_e h
  refine g_sld X hsc hg54 dL_law_422 ?_
  refine g_aload_n X (j := 3) dL_law_423 rfl rfl ?_
  obtain ⟨⟨v56, M57⟩, hc55, h⟩ := bndO_e h
  refine gw_L_124 X (ct_L_setColour X.htr hc55) hnc (by decide) (Nat.le_of_ble_eq_true rfl) hroom dL_law_424 ?_
  refine g_topi (fun v58 e59 => ?_)
  have h := bnd_e e59 h
  refine g_istore XU (lv' := [(5, .int v58), (0, .ref b9), (1, .ref (gad (xz x) 0)), (2, .ref (gad (xz x) 122)), (3, .ref (gad (xz x) 162)), (4, .int a52)]) dL_law_427 (by decide) rfl ?_
  refine g_aload_n XU (j := 3) dL_law_429 rfl rfl ?_
  refine g_aload_n XU (j := 1) dL_law_430 rfl rfl ?_
  refine g_iload XU (j := 5) dL_law_431 rfl ?_
  refine g_iconst XU (v := 1) dL_law_433 (by decide) ?_
  refine g_iadd XU dL_law_434 ?_
  obtain ⟨hg60, h⟩ := grd_e h
  refine g_sld XU hsc hg60 dL_law_435 ?_
  refine g_aload_n XU (j := 1) dL_law_436 rfl rfl ?_
  refine g_iload XU (j := 5) dL_law_437 rfl ?_
  refine g_iconst XU (v := 2) dL_law_439 (by decide) ?_
  refine g_iadd XU dL_law_440 ?_
  obtain ⟨hg61, h⟩ := grd_e h
  refine g_sld XU hsc hg61 dL_law_441 ?_
  obtain ⟨⟨v63, M64⟩, hc62, h⟩ := bndO_e h
  refine gc_L_127 XU gT_c122 (ct_X11_setColour XU.htr  hc62) (by decide) (Nat.le_of_ble_eq_true rfl) dL_law_442 ?_
  refine g_topi (fun v65 e66 => ?_)
  have h := bnd_e e66 h
  refine g_istore XU (lv' := [(6, .int v65), (5, .int v58), (0, .ref b9), (1, .ref (gad (xz x) 0)), (2, .ref (gad (xz x) 122)), (3, .ref (gad (xz x) 162)), (4, .int a52)]) dL_law_445 (by decide) rfl ?_
  refine g_aload_n XU (j := 4) dL_law_447 rfl rfl ?_
  refine gc_L_116 XU gT_c122 (ct_X11_thrown XU.htr ) (by decide) (Nat.le_of_ble_eq_true rfl) dL_law_448 ?_
  refine g_iload XU (j := 1) dL_law_451 rfl ?_
  refine g_icmp_eq XU (tgt := 458) dL_law_453 (by decide) (fun hb => ?_) (fun hb => ?_)
  · have h := ite_t hb h
    refine g_iload XU (j := 1) dL_law_458 rfl ?_
    refine g_if_ne XU (tgt := 475) dL_law_460 (by decide) (fun hb => ?_) (fun hb => ?_)
    · have h := ite_f hb h
      refine g_goto XU (tgt := 2434) dL_law_475 (by decide) ?_
      refine g_iinc XU (j := 6) (w := a52 + (7 : Int32)) (lv' := [(6, .int v65), (5, .int v58), (0, .ref b9), (1, .ref (gad (xz x) 0)), (2, .ref (gad (xz x) 122)), (3, .ref (gad (xz x) 162))]) dL_law_2434 rfl (by rw [ii_7]) (by decide) (fun _ => rfl) (fun v67 e68 => ?_)
      have h := bnd_e e68 h
      refine g_goto XU (tgt := 23) dL_law_2437 (by decide) ?_
      refine g_lv [3, 4, 5, 6, 0] rfl ?_
      exact hrec v67 M64 h
    · have h := ite_t hb h
      refine g_aload_n XU (j := 5) dL_law_463 rfl rfl ?_
      refine g_iconst XU (v := 0) dL_law_464 (by decide) ?_
      refine g_lald XU gT_c162 (by decide +kernel) dL_law_465 ?_
      rw [tn_0]
      refine g_iload XU (j := 0) dL_law_466 rfl ?_
      refine g_i2l XU dL_law_468 ?_
      refine g_lcmp XU dL_law_469 ?_
      refine g_if_eq XU (tgt := 475) dL_law_470 (by decide) (fun hb => ?_) (fun hb => ?_)
      · have h := ite_t hb h
        refine g_goto XU (tgt := 2434) dL_law_475 (by decide) ?_
        refine g_iinc XU (j := 6) (w := a52 + (7 : Int32)) (lv' := [(6, .int v65), (5, .int v58), (0, .ref b9), (1, .ref (gad (xz x) 0)), (2, .ref (gad (xz x) 122)), (3, .ref (gad (xz x) 162))]) dL_law_2434 rfl (by rw [ii_7]) (by decide) (fun _ => rfl) (fun v69 e70 => ?_)
        have h := bnd_e e70 h
        refine g_goto XU (tgt := 23) dL_law_2437 (by decide) ?_
        refine g_lv [3, 4, 5, 6, 0] rfl ?_
        exact hrec v69 M64 h
      · have h := ite_f hb h
        refine g_iconst XU (v := 0) dL_law_473 (by decide) ?_
        exact absurd (Option.some.inj h).symm (hno _ _)
  · have h := ite_f hb h
    refine g_iconst XU (v := 0) dL_law_456 (by decide) ?_
    exact absurd (Option.some.inj h).symm (hno _ _)
def bk_L_law_592_23c (F : Nat) (L9 : Nat) (xs9 : Nat → Int32) (rec : Int32 → GM → Option (GM ⊕ (Int32 × GM))) (a109 : Int32) (a110 : Int32) (a111 : Int32) (a112 : Int32) (a113 : Int32) (a114 : Int32) (a115 : Int32) (a116 : Int32) (M : GM) : Option (GM ⊕ (Int32 × GM)) := bndO (f_X11_addPane F a116 a115 a114 a113 a112 a111 M) (fun (v118, M119) => bnd v118 (fun v120 => if (f_X11_thrown M119) = a110 then (if a110 = 0 then (if (lg_cmp (gL M119 162 0) v120.toInt64) = 0 then (bnd (a109 + (7 : Int32)) (fun v124 => rec v124 M119)) else (some (Sum.inr ((0 : Int32), M119)))) else (bnd (a109 + (7 : Int32)) (fun v122 => rec v122 M119))) else (some (Sum.inr ((0 : Int32), M119)))))
set_option maxHeartbeats 4000000 in
set_option maxRecDepth 100000 in
theorem bw_L_law_592_23c {x : GX} (X : GC x cL_law 9 RL 11) {a109 : Int32} {a110 : Int32} {a111 : Int32} {a112 : Int32} {a113 : Int32} {a114 : Int32} {a115 : Int32} {a116 : Int32}   {F : Nat} {b9 L9 : Nat} {xs9 : Nat → Int32} {rec : Int32 → GM → Option (GM ⊕ (Int32 × GM))} {M : GM} {r9 : (GM ⊕ (Int32 × GM))} (hsc : gScr x b9 L9 xs9) (hnc : gNcs (xs x)) (hno : ∀ (v8 : Int32) (M8 : GM), r9 ≠ Sum.inr (v8, M8)) (hrec : ∀ (a4_9 : Int32) (M9 : GM), rec a4_9 M9 = some r9 → WG x M9 [(0, .ref b9), (1, .ref (gad (xz x) 0)), (2, .ref (gad (xz x) 122)), (3, .ref (gad (xz x) 162)), (4, .int a4_9)] 23 []) (h : bk_L_law_592_23c F L9 xs9 rec a109 a110 a111 a112 a113 a114 a115 a116 M = some r9) : WG x M [(0, .ref b9), (1, .ref (gad (xz x) 0)), (2, .ref (gad (xz x) 122)), (3, .ref (gad (xz x) 162)), (4, .int a109), (5, .int a110)] 592 [.int a111, .int a112, .int a113, .int a114, .int a115, .int a116, .ref (gad (xz x) 122)] := by
  unfold bk_L_law_592_23c at h
  obtain ⟨⟨v118, M119⟩, hc117, h⟩ := bndO_e h
  refine gc_L_131 X gT_c122 (ct_X11_addPane X.htr  hc117) (by decide) (Nat.le_of_ble_eq_true rfl) dL_law_592 ?_
  refine g_topi (fun v120 e121 => ?_)
  have h := bnd_e e121 h
  refine g_istore X (lv' := [(6, .int v120), (0, .ref b9), (1, .ref (gad (xz x) 0)), (2, .ref (gad (xz x) 122)), (3, .ref (gad (xz x) 162)), (4, .int a109), (5, .int a110)]) dL_law_595 (by decide) rfl ?_
  refine g_aload_n X (j := 3) dL_law_597 rfl rfl ?_
  refine gc_L_116 X gT_c122 (ct_X11_thrown X.htr ) (by decide) (Nat.le_of_ble_eq_true rfl) dL_law_598 ?_
  refine g_iload X (j := 6) dL_law_601 rfl ?_
  refine g_icmp_eq X (tgt := 608) dL_law_603 (by decide) (fun hb => ?_) (fun hb => ?_)
  · have h := ite_t hb h
    refine g_iload X (j := 6) dL_law_608 rfl ?_
    refine g_if_ne X (tgt := 625) dL_law_610 (by decide) (fun hb => ?_) (fun hb => ?_)
    · have h := ite_f hb h
      refine g_goto X (tgt := 2434) dL_law_625 (by decide) ?_
      refine g_iinc X (j := 5) (w := a109 + (7 : Int32)) (lv' := [(6, .int v120), (0, .ref b9), (1, .ref (gad (xz x) 0)), (2, .ref (gad (xz x) 122)), (3, .ref (gad (xz x) 162)), (5, .int a110)]) dL_law_2434 rfl (by rw [ii_7]) (by decide) (fun _ => rfl) (fun v122 e123 => ?_)
      have h := bnd_e e123 h
      refine g_goto X (tgt := 23) dL_law_2437 (by decide) ?_
      refine g_lv [2, 3, 4, 5, 0] rfl ?_
      exact hrec v122 M119 h
    · have h := ite_t hb h
      refine g_aload_n X (j := 4) dL_law_613 rfl rfl ?_
      refine g_iconst X (v := 0) dL_law_614 (by decide) ?_
      refine g_lald X gT_c162 (by decide +kernel) dL_law_615 ?_
      rw [tn_0]
      refine g_iload X (j := 0) dL_law_616 rfl ?_
      refine g_i2l X dL_law_618 ?_
      refine g_lcmp X dL_law_619 ?_
      refine g_if_eq X (tgt := 625) dL_law_620 (by decide) (fun hb => ?_) (fun hb => ?_)
      · have h := ite_t hb h
        refine g_goto X (tgt := 2434) dL_law_625 (by decide) ?_
        refine g_iinc X (j := 5) (w := a109 + (7 : Int32)) (lv' := [(6, .int v120), (0, .ref b9), (1, .ref (gad (xz x) 0)), (2, .ref (gad (xz x) 122)), (3, .ref (gad (xz x) 162)), (5, .int a110)]) dL_law_2434 rfl (by rw [ii_7]) (by decide) (fun _ => rfl) (fun v124 e125 => ?_)
        have h := bnd_e e125 h
        refine g_goto X (tgt := 23) dL_law_2437 (by decide) ?_
        refine g_lv [2, 3, 4, 5, 0] rfl ?_
        exact hrec v124 M119 h
      · have h := ite_f hb h
        refine g_iconst X (v := 0) dL_law_623 (by decide) ?_
        exact absurd (Option.some.inj h).symm (hno _ _)
  · have h := ite_f hb h
    refine g_iconst X (v := 0) dL_law_606 (by decide) ?_
    exact absurd (Option.some.inj h).symm (hno _ _)
def bk_L_law_577_23c (F : Nat) (L9 : Nat) (xs9 : Nat → Int32) (rec : Int32 → GM → Option (GM ⊕ (Int32 × GM))) (a101 : Int32) (a102 : Int32) (a103 : Int32) (a104 : Int32) (a105 : Int32) (a106 : Int32) (a107 : Int32) (M : GM) : Option (GM ⊕ (Int32 × GM)) := grd (gIn (a101 + (6 : Int32)) L9) (if (xs9 (a101 + (6 : Int32)).toNatClampNeg) = 0 then (bk_L_law_592_23c F L9 xs9 rec a101 a102 (0 : Int32) a103 a104 a105 a106 a107 M) else (bk_L_law_592_23c F L9 xs9 rec a101 a102 (1 : Int32) a103 a104 a105 a106 a107 M))
set_option maxHeartbeats 4000000 in
set_option maxRecDepth 100000 in
theorem bw_L_law_577_23c {x : GX} (X : GC x cL_law 9 RL 11) {a101 : Int32} {a102 : Int32} {a103 : Int32} {a104 : Int32} {a105 : Int32} {a106 : Int32} {a107 : Int32}   {F : Nat} {b9 L9 : Nat} {xs9 : Nat → Int32} {rec : Int32 → GM → Option (GM ⊕ (Int32 × GM))} {M : GM} {r9 : (GM ⊕ (Int32 × GM))} (hsc : gScr x b9 L9 xs9) (hnc : gNcs (xs x)) (hno : ∀ (v8 : Int32) (M8 : GM), r9 ≠ Sum.inr (v8, M8)) (hrec : ∀ (a4_9 : Int32) (M9 : GM), rec a4_9 M9 = some r9 → WG x M9 [(0, .ref b9), (1, .ref (gad (xz x) 0)), (2, .ref (gad (xz x) 122)), (3, .ref (gad (xz x) 162)), (4, .int a4_9)] 23 []) (h : bk_L_law_577_23c F L9 xs9 rec a101 a102 a103 a104 a105 a106 a107 M = some r9) : WG x M [(0, .ref b9), (1, .ref (gad (xz x) 0)), (2, .ref (gad (xz x) 122)), (3, .ref (gad (xz x) 162)), (4, .int a101), (5, .int a102)] 577 [.int a103, .int a104, .int a105, .int a106, .int a107, .ref (gad (xz x) 122)] := by
  unfold bk_L_law_577_23c at h
  refine g_aload_n X (j := 0) dL_law_577 rfl rfl ?_
  refine g_iload X (j := 4) dL_law_578 rfl ?_
  refine g_bipush X (v := 6) dL_law_580 (by decide) ?_
  refine g_iadd X dL_law_582 ?_
  obtain ⟨hg108, h⟩ := grd_e h
  refine g_sld X hsc hg108 dL_law_583 ?_
  refine g_if_eq X (tgt := 591) dL_law_584 (by decide) (fun hb => ?_) (fun hb => ?_)
  · have h := ite_t hb h
    refine g_iconst X (v := 0) dL_law_591 (by decide) ?_
    refine g_lv [0, 1, 2, 3, 4, 5] rfl ?_
    exact bw_L_law_592_23c X  hsc hnc hno hrec h
  · have h := ite_f hb h
    refine g_iconst X (v := 1) dL_law_587 (by decide) ?_
    refine g_goto X (tgt := 592) dL_law_588 (by decide) ?_
    refine g_lv [0, 1, 2, 3, 4, 5] rfl ?_
    exact bw_L_law_592_23c X  hsc hnc hno hrec h
def bk_L_law_532_23 (F : Nat) (L9 : Nat) (xs9 : Nat → Int32) (rec : Int32 → GM → Option (GM ⊕ (Int32 × GM))) (a84 : Int32) (a85 : Int32) (a86 : Int32) (a87 : Int32) (a88 : Int32) (a89 : Int32) (a90 : Int32) (M : GM) : Option (GM ⊕ (Int32 × GM)) := bndO (f_L_addPane F a90 a89 a88 a87 a86 a85 M) (fun (v92, M93) => bnd v92 (fun v94 => grd (gIn (a84 + (1 : Int32)) L9) (grd (gIn (a84 + (2 : Int32)) L9) (grd (gIn (a84 + (3 : Int32)) L9) (grd (gIn (a84 + (4 : Int32)) L9) (grd (gIn (a84 + (5 : Int32)) L9) (if (xs9 (a84 + (5 : Int32)).toNatClampNeg) = 0 then (bk_L_law_577_23c F L9 xs9 rec a84 v94 (0 : Int32) (xs9 (a84 + (4 : Int32)).toNatClampNeg) (xs9 (a84 + (3 : Int32)).toNatClampNeg) (xs9 (a84 + (2 : Int32)).toNatClampNeg) (xs9 (a84 + (1 : Int32)).toNatClampNeg) M93) else (bk_L_law_577_23c F L9 xs9 rec a84 v94 (1 : Int32) (xs9 (a84 + (4 : Int32)).toNatClampNeg) (xs9 (a84 + (3 : Int32)).toNatClampNeg) (xs9 (a84 + (2 : Int32)).toNatClampNeg) (xs9 (a84 + (1 : Int32)).toNatClampNeg) M93))))))))
set_option maxHeartbeats 4000000 in
set_option maxRecDepth 100000 in
theorem bw_L_law_532_23 {x : GX} (X : GC x cL_law 9 RL 11) {a84 : Int32} {a85 : Int32} {a86 : Int32} {a87 : Int32} {a88 : Int32} {a89 : Int32} {a90 : Int32}   {F : Nat} {b9 L9 : Nat} {xs9 : Nat → Int32} {rec : Int32 → GM → Option (GM ⊕ (Int32 × GM))} {M : GM} {r9 : (GM ⊕ (Int32 × GM))} (XU : GC (xup x) cL_law 9 RL 11) (hroom : xcells x + 1 ≤ (xR x).cells ∧ xslots x + 6 ≤ (xR x).slots) (hsc : gScr x b9 L9 xs9) (hnc : gNcs (xs x)) (hno : ∀ (v8 : Int32) (M8 : GM), r9 ≠ Sum.inr (v8, M8)) (hE : ∀  (M9 : GM), r9 = Sum.inl M9 → WG x M9 [] 2440 []) (hrec : ∀ (a4_9 : Int32) (M9 : GM), rec a4_9 M9 = some r9 → WG (xup x) M9 [(0, .ref b9), (1, .ref (gad (xz x) 0)), (2, .ref (gad (xz x) 122)), (3, .ref (gad (xz x) 162)), (4, .int a4_9)] 23 []) (h : bk_L_law_532_23 F L9 xs9 rec a84 a85 a86 a87 a88 a89 a90 M = some r9) : WG x M [(0, .ref b9), (1, .ref (gad (xz x) 0)), (2, .ref (gad (xz x) 122)), (3, .ref (gad (xz x) 162)), (4, .int a84)] 532 [.int a85, .int a86, .int a87, .int a88, .int a89, .int a90, .ref (gad (xz x) 0)] := by
  unfold bk_L_law_532_23 at h
  refine g_aload_n X (j := 3) dL_law_532 rfl rfl ?_
  obtain ⟨⟨v92, M93⟩, hc91, h⟩ := bndO_e h
  refine gw_L_128 X (ct_L_addPane X.htr hc91) hnc (by decide) (Nat.le_of_ble_eq_true rfl) hroom dL_law_533 ?_
  refine g_topi (fun v94 e95 => ?_)
  have h := bnd_e e95 h
  refine g_istore XU (lv' := [(5, .int v94), (0, .ref b9), (1, .ref (gad (xz x) 0)), (2, .ref (gad (xz x) 122)), (3, .ref (gad (xz x) 162)), (4, .int a84)]) dL_law_536 (by decide) rfl ?_
  refine g_aload_n XU (j := 3) dL_law_538 rfl rfl ?_
  refine g_aload_n XU (j := 1) dL_law_539 rfl rfl ?_
  refine g_iload XU (j := 5) dL_law_540 rfl ?_
  refine g_iconst XU (v := 1) dL_law_542 (by decide) ?_
  refine g_iadd XU dL_law_543 ?_
  obtain ⟨hg96, h⟩ := grd_e h
  refine g_sld XU hsc hg96 dL_law_544 ?_
  refine g_aload_n XU (j := 1) dL_law_545 rfl rfl ?_
  refine g_iload XU (j := 5) dL_law_546 rfl ?_
  refine g_iconst XU (v := 2) dL_law_548 (by decide) ?_
  refine g_iadd XU dL_law_549 ?_
  obtain ⟨hg97, h⟩ := grd_e h
  refine g_sld XU hsc hg97 dL_law_550 ?_
  refine g_aload_n XU (j := 1) dL_law_551 rfl rfl ?_
  refine g_iload XU (j := 5) dL_law_552 rfl ?_
  refine g_iconst XU (v := 3) dL_law_554 (by decide) ?_
  refine g_iadd XU dL_law_555 ?_
  obtain ⟨hg98, h⟩ := grd_e h
  refine g_sld XU hsc hg98 dL_law_556 ?_
  refine g_aload_n XU (j := 1) dL_law_557 rfl rfl ?_
  refine g_iload XU (j := 5) dL_law_558 rfl ?_
  refine g_iconst XU (v := 4) dL_law_560 (by decide) ?_
  refine g_iadd XU dL_law_561 ?_
  obtain ⟨hg99, h⟩ := grd_e h
  refine g_sld XU hsc hg99 dL_law_562 ?_
  refine g_aload_n XU (j := 1) dL_law_563 rfl rfl ?_
  refine g_iload XU (j := 5) dL_law_564 rfl ?_
  refine g_iconst XU (v := 5) dL_law_566 (by decide) ?_
  refine g_iadd XU dL_law_567 ?_
  obtain ⟨hg100, h⟩ := grd_e h
  refine g_sld XU hsc hg100 dL_law_568 ?_
  refine g_if_eq XU (tgt := 576) dL_law_569 (by decide) (fun hb => ?_) (fun hb => ?_)
  · have h := ite_t hb h
    refine g_iconst XU (v := 0) dL_law_576 (by decide) ?_
    refine g_lv [1, 2, 3, 4, 5, 0] rfl ?_
    exact bw_L_law_577_23c XU  hsc hnc hno hrec h
  · have h := ite_f hb h
    refine g_iconst XU (v := 1) dL_law_572 (by decide) ?_
    refine g_goto XU (tgt := 577) dL_law_573 (by decide) ?_
    refine g_lv [1, 2, 3, 4, 5, 0] rfl ?_
    exact bw_L_law_577_23c XU  hsc hnc hno hrec h
def bk_L_law_517_23 (F : Nat) (L9 : Nat) (xs9 : Nat → Int32) (rec : Int32 → GM → Option (GM ⊕ (Int32 × GM))) (a77 : Int32) (a78 : Int32) (a79 : Int32) (a80 : Int32) (a81 : Int32) (a82 : Int32) (M : GM) : Option (GM ⊕ (Int32 × GM)) := grd (gIn (a77 + (6 : Int32)) L9) (if (xs9 (a77 + (6 : Int32)).toNatClampNeg) = 0 then (bk_L_law_532_23 F L9 xs9 rec a77 (0 : Int32) a78 a79 a80 a81 a82 M) else (bk_L_law_532_23 F L9 xs9 rec a77 (1 : Int32) a78 a79 a80 a81 a82 M))
set_option maxHeartbeats 4000000 in
set_option maxRecDepth 100000 in
theorem bw_L_law_517_23 {x : GX} (X : GC x cL_law 9 RL 11) {a77 : Int32} {a78 : Int32} {a79 : Int32} {a80 : Int32} {a81 : Int32} {a82 : Int32}   {F : Nat} {b9 L9 : Nat} {xs9 : Nat → Int32} {rec : Int32 → GM → Option (GM ⊕ (Int32 × GM))} {M : GM} {r9 : (GM ⊕ (Int32 × GM))} (XU : GC (xup x) cL_law 9 RL 11) (hroom : xcells x + 1 ≤ (xR x).cells ∧ xslots x + 6 ≤ (xR x).slots) (hsc : gScr x b9 L9 xs9) (hnc : gNcs (xs x)) (hno : ∀ (v8 : Int32) (M8 : GM), r9 ≠ Sum.inr (v8, M8)) (hE : ∀  (M9 : GM), r9 = Sum.inl M9 → WG x M9 [] 2440 []) (hrec : ∀ (a4_9 : Int32) (M9 : GM), rec a4_9 M9 = some r9 → WG (xup x) M9 [(0, .ref b9), (1, .ref (gad (xz x) 0)), (2, .ref (gad (xz x) 122)), (3, .ref (gad (xz x) 162)), (4, .int a4_9)] 23 []) (h : bk_L_law_517_23 F L9 xs9 rec a77 a78 a79 a80 a81 a82 M = some r9) : WG x M [(0, .ref b9), (1, .ref (gad (xz x) 0)), (2, .ref (gad (xz x) 122)), (3, .ref (gad (xz x) 162)), (4, .int a77)] 517 [.int a78, .int a79, .int a80, .int a81, .int a82, .ref (gad (xz x) 0)] := by
  unfold bk_L_law_517_23 at h
  refine g_aload_n X (j := 0) dL_law_517 rfl rfl ?_
  refine g_iload X (j := 4) dL_law_518 rfl ?_
  refine g_bipush X (v := 6) dL_law_520 (by decide) ?_
  refine g_iadd X dL_law_522 ?_
  obtain ⟨hg83, h⟩ := grd_e h
  refine g_sld X hsc hg83 dL_law_523 ?_
  refine g_if_eq X (tgt := 531) dL_law_524 (by decide) (fun hb => ?_) (fun hb => ?_)
  · have h := ite_t hb h
    refine g_iconst X (v := 0) dL_law_531 (by decide) ?_
    refine g_lv [0, 1, 2, 3, 4] rfl ?_
    exact bw_L_law_532_23 X  XU hroom hsc hnc hno hE hrec h
  · have h := ite_f hb h
    refine g_iconst X (v := 1) dL_law_527 (by decide) ?_
    refine g_goto X (tgt := 532) dL_law_528 (by decide) ?_
    refine g_lv [0, 1, 2, 3, 4] rfl ?_
    exact bw_L_law_532_23 X  XU hroom hsc hnc hno hE hrec h
def bk_L_law_478_23 (F : Nat) (L9 : Nat) (xs9 : Nat → Int32) (rec : Int32 → GM → Option (GM ⊕ (Int32 × GM))) (a71 : Int32) (M : GM) : Option (GM ⊕ (Int32 × GM)) := grd (gIn (a71 + (1 : Int32)) L9) (grd (gIn (a71 + (2 : Int32)) L9) (grd (gIn (a71 + (3 : Int32)) L9) (grd (gIn (a71 + (4 : Int32)) L9) (grd (gIn (a71 + (5 : Int32)) L9) (if (xs9 (a71 + (5 : Int32)).toNatClampNeg) = 0 then (bk_L_law_517_23 F L9 xs9 rec a71 (0 : Int32) (xs9 (a71 + (4 : Int32)).toNatClampNeg) (xs9 (a71 + (3 : Int32)).toNatClampNeg) (xs9 (a71 + (2 : Int32)).toNatClampNeg) (xs9 (a71 + (1 : Int32)).toNatClampNeg) M) else (bk_L_law_517_23 F L9 xs9 rec a71 (1 : Int32) (xs9 (a71 + (4 : Int32)).toNatClampNeg) (xs9 (a71 + (3 : Int32)).toNatClampNeg) (xs9 (a71 + (2 : Int32)).toNatClampNeg) (xs9 (a71 + (1 : Int32)).toNatClampNeg) M))))))
set_option maxHeartbeats 4000000 in
set_option maxRecDepth 100000 in
theorem bw_L_law_478_23 {x : GX} (X : GC x cL_law 9 RL 11) {a71 : Int32}   {F : Nat} {b9 L9 : Nat} {xs9 : Nat → Int32} {rec : Int32 → GM → Option (GM ⊕ (Int32 × GM))} {M : GM} {r9 : (GM ⊕ (Int32 × GM))} (XU : GC (xup x) cL_law 9 RL 11) (hroom : xcells x + 1 ≤ (xR x).cells ∧ xslots x + 6 ≤ (xR x).slots) (hsc : gScr x b9 L9 xs9) (hnc : gNcs (xs x)) (hno : ∀ (v8 : Int32) (M8 : GM), r9 ≠ Sum.inr (v8, M8)) (hE : ∀  (M9 : GM), r9 = Sum.inl M9 → WG x M9 [] 2440 []) (hrec : ∀ (a4_9 : Int32) (M9 : GM), rec a4_9 M9 = some r9 → WG (xup x) M9 [(0, .ref b9), (1, .ref (gad (xz x) 0)), (2, .ref (gad (xz x) 122)), (3, .ref (gad (xz x) 162)), (4, .int a4_9)] 23 []) (h : bk_L_law_478_23 F L9 xs9 rec a71 M = some r9) : WG x M [(0, .ref b9), (1, .ref (gad (xz x) 0)), (2, .ref (gad (xz x) 122)), (3, .ref (gad (xz x) 162)), (4, .int a71)] 478 [] := by
  unfold bk_L_law_478_23 at h
  refine g_aload_n X (j := 1) dL_law_478 rfl rfl ?_
  refine g_aload_n X (j := 0) dL_law_479 rfl rfl ?_
  refine g_iload X (j := 4) dL_law_480 rfl ?_
  refine g_iconst X (v := 1) dL_law_482 (by decide) ?_
  refine g_iadd X dL_law_483 ?_
  obtain ⟨hg72, h⟩ := grd_e h
  refine g_sld X hsc hg72 dL_law_484 ?_
  refine g_aload_n X (j := 0) dL_law_485 rfl rfl ?_
  refine g_iload X (j := 4) dL_law_486 rfl ?_
  refine g_iconst X (v := 2) dL_law_488 (by decide) ?_
  refine g_iadd X dL_law_489 ?_
  obtain ⟨hg73, h⟩ := grd_e h
  refine g_sld X hsc hg73 dL_law_490 ?_
  refine g_aload_n X (j := 0) dL_law_491 rfl rfl ?_
  refine g_iload X (j := 4) dL_law_492 rfl ?_
  refine g_iconst X (v := 3) dL_law_494 (by decide) ?_
  refine g_iadd X dL_law_495 ?_
  obtain ⟨hg74, h⟩ := grd_e h
  refine g_sld X hsc hg74 dL_law_496 ?_
  refine g_aload_n X (j := 0) dL_law_497 rfl rfl ?_
  refine g_iload X (j := 4) dL_law_498 rfl ?_
  refine g_iconst X (v := 4) dL_law_500 (by decide) ?_
  refine g_iadd X dL_law_501 ?_
  obtain ⟨hg75, h⟩ := grd_e h
  refine g_sld X hsc hg75 dL_law_502 ?_
  refine g_aload_n X (j := 0) dL_law_503 rfl rfl ?_
  refine g_iload X (j := 4) dL_law_504 rfl ?_
  refine g_iconst X (v := 5) dL_law_506 (by decide) ?_
  refine g_iadd X dL_law_507 ?_
  obtain ⟨hg76, h⟩ := grd_e h
  refine g_sld X hsc hg76 dL_law_508 ?_
  refine g_if_eq X (tgt := 516) dL_law_509 (by decide) (fun hb => ?_) (fun hb => ?_)
  · have h := ite_t hb h
    refine g_iconst X (v := 0) dL_law_516 (by decide) ?_
    refine g_lv [0, 1, 2, 3, 4] rfl ?_
    exact bw_L_law_517_23 X  XU hroom hsc hnc hno hE hrec h
  · have h := ite_f hb h
    refine g_iconst X (v := 1) dL_law_512 (by decide) ?_
    refine g_goto X (tgt := 517) dL_law_513 (by decide) ?_
    refine g_lv [0, 1, 2, 3, 4] rfl ?_
    exact bw_L_law_517_23 X  XU hroom hsc hnc hno hE hrec h
def bk_L_law_676_23c (F : Nat) (L9 : Nat) (xs9 : Nat → Int32) (rec : Int32 → GM → Option (GM ⊕ (Int32 × GM))) (a139 : Int32) (a140 : Int32) (a141 : Int32) (a142 : Int32) (M : GM) : Option (GM ⊕ (Int32 × GM)) := bndO (f_X11_show F a142 a141 M) (fun (v144, M145) => bnd v144 (fun v146 => if (f_X11_thrown M145) = a140 then (if a140 = 0 then (if v146 = 0 then (if (lg_cmp (gL M145 162 0) (0 : Int64)) = 0 then (bnd (a139 + (7 : Int32)) (fun v150 => rec v150 M145)) else (some (Sum.inr ((0 : Int32), M145)))) else (if (lg_cmp (gL M145 162 0) (1 : Int64)) = 0 then (bnd (a139 + (7 : Int32)) (fun v152 => rec v152 M145)) else (some (Sum.inr ((0 : Int32), M145))))) else (bnd (a139 + (7 : Int32)) (fun v148 => rec v148 M145))) else (some (Sum.inr ((0 : Int32), M145)))))
set_option maxHeartbeats 4000000 in
set_option maxRecDepth 100000 in
theorem bw_L_law_676_23c {x : GX} (X : GC x cL_law 9 RL 11) {a139 : Int32} {a140 : Int32} {a141 : Int32} {a142 : Int32}   {F : Nat} {b9 L9 : Nat} {xs9 : Nat → Int32} {rec : Int32 → GM → Option (GM ⊕ (Int32 × GM))} {M : GM} {r9 : (GM ⊕ (Int32 × GM))} (hsc : gScr x b9 L9 xs9) (hnc : gNcs (xs x)) (hno : ∀ (v8 : Int32) (M8 : GM), r9 ≠ Sum.inr (v8, M8)) (hrec : ∀ (a4_9 : Int32) (M9 : GM), rec a4_9 M9 = some r9 → WG x M9 [(0, .ref b9), (1, .ref (gad (xz x) 0)), (2, .ref (gad (xz x) 122)), (3, .ref (gad (xz x) 162)), (4, .int a4_9)] 23 []) (h : bk_L_law_676_23c F L9 xs9 rec a139 a140 a141 a142 M = some r9) : WG x M [(0, .ref b9), (1, .ref (gad (xz x) 0)), (2, .ref (gad (xz x) 122)), (3, .ref (gad (xz x) 162)), (4, .int a139), (5, .int a140)] 676 [.int a141, .int a142, .ref (gad (xz x) 122)] := by
  unfold bk_L_law_676_23c at h
  obtain ⟨⟨v144, M145⟩, hc143, h⟩ := bndO_e h
  refine gc_L_135 X gT_c122 (ct_X11_show X.htr  hc143) (by decide) (Nat.le_of_ble_eq_true rfl) dL_law_676 ?_
  refine g_topi (fun v146 e147 => ?_)
  have h := bnd_e e147 h
  refine g_istore X (lv' := [(6, .int v146), (0, .ref b9), (1, .ref (gad (xz x) 0)), (2, .ref (gad (xz x) 122)), (3, .ref (gad (xz x) 162)), (4, .int a139), (5, .int a140)]) dL_law_679 (by decide) rfl ?_
  refine g_aload_n X (j := 3) dL_law_681 rfl rfl ?_
  refine gc_L_116 X gT_c122 (ct_X11_thrown X.htr ) (by decide) (Nat.le_of_ble_eq_true rfl) dL_law_682 ?_
  refine g_iload X (j := 6) dL_law_685 rfl ?_
  refine g_icmp_eq X (tgt := 692) dL_law_687 (by decide) (fun hb => ?_) (fun hb => ?_)
  · have h := ite_t hb h
    refine g_iload X (j := 6) dL_law_692 rfl ?_
    refine g_if_ne X (tgt := 716) dL_law_694 (by decide) (fun hb => ?_) (fun hb => ?_)
    · have h := ite_f hb h
      refine g_goto X (tgt := 2434) dL_law_716 (by decide) ?_
      refine g_iinc X (j := 5) (w := a139 + (7 : Int32)) (lv' := [(6, .int v146), (0, .ref b9), (1, .ref (gad (xz x) 0)), (2, .ref (gad (xz x) 122)), (3, .ref (gad (xz x) 162)), (5, .int a140)]) dL_law_2434 rfl (by rw [ii_7]) (by decide) (fun _ => rfl) (fun v148 e149 => ?_)
      have h := bnd_e e149 h
      refine g_goto X (tgt := 23) dL_law_2437 (by decide) ?_
      refine g_lv [2, 3, 4, 5, 0] rfl ?_
      exact hrec v148 M145 h
    · have h := ite_t hb h
      refine g_aload_n X (j := 4) dL_law_697 rfl rfl ?_
      refine g_iconst X (v := 0) dL_law_698 (by decide) ?_
      refine g_lald X gT_c162 (by decide +kernel) dL_law_699 ?_
      rw [tn_0]
      refine g_iload X (j := 0) dL_law_700 rfl ?_
      refine g_if_eq X (tgt := 709) dL_law_702 (by decide) (fun hb => ?_) (fun hb => ?_)
      · have h := ite_t hb h
        refine g_lconst X (v := 0) dL_law_709 (by decide) ?_
        refine g_lcmp X dL_law_710 ?_
        refine g_if_eq X (tgt := 716) dL_law_711 (by decide) (fun hb => ?_) (fun hb => ?_)
        · have h := ite_t hb h
          refine g_goto X (tgt := 2434) dL_law_716 (by decide) ?_
          refine g_iinc X (j := 5) (w := a139 + (7 : Int32)) (lv' := [(6, .int v146), (0, .ref b9), (1, .ref (gad (xz x) 0)), (2, .ref (gad (xz x) 122)), (3, .ref (gad (xz x) 162)), (5, .int a140)]) dL_law_2434 rfl (by rw [ii_7]) (by decide) (fun _ => rfl) (fun v150 e151 => ?_)
          have h := bnd_e e151 h
          refine g_goto X (tgt := 23) dL_law_2437 (by decide) ?_
          refine g_lv [2, 3, 4, 5, 0] rfl ?_
          exact hrec v150 M145 h
        · have h := ite_f hb h
          refine g_iconst X (v := 0) dL_law_714 (by decide) ?_
          exact absurd (Option.some.inj h).symm (hno _ _)
      · have h := ite_f hb h
        refine g_lconst X (v := 1) dL_law_705 (by decide) ?_
        refine g_goto X (tgt := 710) dL_law_706 (by decide) ?_
        refine g_lcmp X dL_law_710 ?_
        refine g_if_eq X (tgt := 716) dL_law_711 (by decide) (fun hb => ?_) (fun hb => ?_)
        · have h := ite_t hb h
          refine g_goto X (tgt := 2434) dL_law_716 (by decide) ?_
          refine g_iinc X (j := 5) (w := a139 + (7 : Int32)) (lv' := [(6, .int v146), (0, .ref b9), (1, .ref (gad (xz x) 0)), (2, .ref (gad (xz x) 122)), (3, .ref (gad (xz x) 162)), (5, .int a140)]) dL_law_2434 rfl (by rw [ii_7]) (by decide) (fun _ => rfl) (fun v152 e153 => ?_)
          have h := bnd_e e153 h
          refine g_goto X (tgt := 23) dL_law_2437 (by decide) ?_
          refine g_lv [2, 3, 4, 5, 0] rfl ?_
          exact hrec v152 M145 h
        · have h := ite_f hb h
          refine g_iconst X (v := 0) dL_law_714 (by decide) ?_
          exact absurd (Option.some.inj h).symm (hno _ _)
  · have h := ite_f hb h
    refine g_iconst X (v := 0) dL_law_690 (by decide) ?_
    exact absurd (Option.some.inj h).symm (hno _ _)
def bk_L_law_649_23 (F : Nat) (L9 : Nat) (xs9 : Nat → Int32) (rec : Int32 → GM → Option (GM ⊕ (Int32 × GM))) (a129 : Int32) (a130 : Int32) (a131 : Int32) (M : GM) : Option (GM ⊕ (Int32 × GM)) := bndO (f_L_show F a131 a130 M) (fun (v133, M134) => bnd v133 (fun v135 => grd (gIn (a129 + (1 : Int32)) L9) (grd (gIn (a129 + (2 : Int32)) L9) (if (xs9 (a129 + (2 : Int32)).toNatClampNeg) = 0 then (bk_L_law_676_23c F L9 xs9 rec a129 v135 (0 : Int32) (xs9 (a129 + (1 : Int32)).toNatClampNeg) M134) else (bk_L_law_676_23c F L9 xs9 rec a129 v135 (1 : Int32) (xs9 (a129 + (1 : Int32)).toNatClampNeg) M134)))))
set_option maxHeartbeats 4000000 in
set_option maxRecDepth 100000 in
theorem bw_L_law_649_23 {x : GX} (X : GC x cL_law 9 RL 11) {a129 : Int32} {a130 : Int32} {a131 : Int32}   {F : Nat} {b9 L9 : Nat} {xs9 : Nat → Int32} {rec : Int32 → GM → Option (GM ⊕ (Int32 × GM))} {M : GM} {r9 : (GM ⊕ (Int32 × GM))} (XU : GC (xup x) cL_law 9 RL 11) (hroom : xcells x + 1 ≤ (xR x).cells ∧ xslots x + 6 ≤ (xR x).slots) (hsc : gScr x b9 L9 xs9) (hnc : gNcs (xs x)) (hno : ∀ (v8 : Int32) (M8 : GM), r9 ≠ Sum.inr (v8, M8)) (hE : ∀  (M9 : GM), r9 = Sum.inl M9 → WG x M9 [] 2440 []) (hrec : ∀ (a4_9 : Int32) (M9 : GM), rec a4_9 M9 = some r9 → WG (xup x) M9 [(0, .ref b9), (1, .ref (gad (xz x) 0)), (2, .ref (gad (xz x) 122)), (3, .ref (gad (xz x) 162)), (4, .int a4_9)] 23 []) (h : bk_L_law_649_23 F L9 xs9 rec a129 a130 a131 M = some r9) : WG x M [(0, .ref b9), (1, .ref (gad (xz x) 0)), (2, .ref (gad (xz x) 122)), (3, .ref (gad (xz x) 162)), (4, .int a129)] 649 [.int a130, .int a131, .ref (gad (xz x) 0)] := by
  unfold bk_L_law_649_23 at h
  refine g_aload_n X (j := 3) dL_law_649 rfl rfl ?_
  obtain ⟨⟨v133, M134⟩, hc132, h⟩ := bndO_e h
  refine gw_L_132 X (ct_L_show X.htr hc132) hnc (by decide) (Nat.le_of_ble_eq_true rfl) hroom dL_law_650 ?_
  refine g_topi (fun v135 e136 => ?_)
  have h := bnd_e e136 h
  refine g_istore XU (lv' := [(5, .int v135), (0, .ref b9), (1, .ref (gad (xz x) 0)), (2, .ref (gad (xz x) 122)), (3, .ref (gad (xz x) 162)), (4, .int a129)]) dL_law_653 (by decide) rfl ?_
  refine g_aload_n XU (j := 3) dL_law_655 rfl rfl ?_
  refine g_aload_n XU (j := 1) dL_law_656 rfl rfl ?_
  refine g_iload XU (j := 5) dL_law_657 rfl ?_
  refine g_iconst XU (v := 1) dL_law_659 (by decide) ?_
  refine g_iadd XU dL_law_660 ?_
  obtain ⟨hg137, h⟩ := grd_e h
  refine g_sld XU hsc hg137 dL_law_661 ?_
  refine g_aload_n XU (j := 1) dL_law_662 rfl rfl ?_
  refine g_iload XU (j := 5) dL_law_663 rfl ?_
  refine g_iconst XU (v := 2) dL_law_665 (by decide) ?_
  refine g_iadd XU dL_law_666 ?_
  obtain ⟨hg138, h⟩ := grd_e h
  refine g_sld XU hsc hg138 dL_law_667 ?_
  refine g_if_eq XU (tgt := 675) dL_law_668 (by decide) (fun hb => ?_) (fun hb => ?_)
  · have h := ite_t hb h
    refine g_iconst XU (v := 0) dL_law_675 (by decide) ?_
    refine g_lv [1, 2, 3, 4, 5, 0] rfl ?_
    exact bw_L_law_676_23c XU  hsc hnc hno hrec h
  · have h := ite_f hb h
    refine g_iconst XU (v := 1) dL_law_671 (by decide) ?_
    refine g_goto XU (tgt := 676) dL_law_672 (by decide) ?_
    refine g_lv [1, 2, 3, 4, 5, 0] rfl ?_
    exact bw_L_law_676_23c XU  hsc hnc hno hrec h
def bk_L_law_628_23 (F : Nat) (L9 : Nat) (xs9 : Nat → Int32) (rec : Int32 → GM → Option (GM ⊕ (Int32 × GM))) (a126 : Int32) (M : GM) : Option (GM ⊕ (Int32 × GM)) := grd (gIn (a126 + (1 : Int32)) L9) (grd (gIn (a126 + (2 : Int32)) L9) (if (xs9 (a126 + (2 : Int32)).toNatClampNeg) = 0 then (bk_L_law_649_23 F L9 xs9 rec a126 (0 : Int32) (xs9 (a126 + (1 : Int32)).toNatClampNeg) M) else (bk_L_law_649_23 F L9 xs9 rec a126 (1 : Int32) (xs9 (a126 + (1 : Int32)).toNatClampNeg) M)))
set_option maxHeartbeats 4000000 in
set_option maxRecDepth 100000 in
theorem bw_L_law_628_23 {x : GX} (X : GC x cL_law 9 RL 11) {a126 : Int32}   {F : Nat} {b9 L9 : Nat} {xs9 : Nat → Int32} {rec : Int32 → GM → Option (GM ⊕ (Int32 × GM))} {M : GM} {r9 : (GM ⊕ (Int32 × GM))} (XU : GC (xup x) cL_law 9 RL 11) (hroom : xcells x + 1 ≤ (xR x).cells ∧ xslots x + 6 ≤ (xR x).slots) (hsc : gScr x b9 L9 xs9) (hnc : gNcs (xs x)) (hno : ∀ (v8 : Int32) (M8 : GM), r9 ≠ Sum.inr (v8, M8)) (hE : ∀  (M9 : GM), r9 = Sum.inl M9 → WG x M9 [] 2440 []) (hrec : ∀ (a4_9 : Int32) (M9 : GM), rec a4_9 M9 = some r9 → WG (xup x) M9 [(0, .ref b9), (1, .ref (gad (xz x) 0)), (2, .ref (gad (xz x) 122)), (3, .ref (gad (xz x) 162)), (4, .int a4_9)] 23 []) (h : bk_L_law_628_23 F L9 xs9 rec a126 M = some r9) : WG x M [(0, .ref b9), (1, .ref (gad (xz x) 0)), (2, .ref (gad (xz x) 122)), (3, .ref (gad (xz x) 162)), (4, .int a126)] 628 [] := by
  unfold bk_L_law_628_23 at h
  refine g_aload_n X (j := 1) dL_law_628 rfl rfl ?_
  refine g_aload_n X (j := 0) dL_law_629 rfl rfl ?_
  refine g_iload X (j := 4) dL_law_630 rfl ?_
  refine g_iconst X (v := 1) dL_law_632 (by decide) ?_
  refine g_iadd X dL_law_633 ?_
  obtain ⟨hg127, h⟩ := grd_e h
  refine g_sld X hsc hg127 dL_law_634 ?_
  refine g_aload_n X (j := 0) dL_law_635 rfl rfl ?_
  refine g_iload X (j := 4) dL_law_636 rfl ?_
  refine g_iconst X (v := 2) dL_law_638 (by decide) ?_
  refine g_iadd X dL_law_639 ?_
  obtain ⟨hg128, h⟩ := grd_e h
  refine g_sld X hsc hg128 dL_law_640 ?_
  refine g_if_eq X (tgt := 648) dL_law_641 (by decide) (fun hb => ?_) (fun hb => ?_)
  · have h := ite_t hb h
    refine g_iconst X (v := 0) dL_law_648 (by decide) ?_
    refine g_lv [0, 1, 2, 3, 4] rfl ?_
    exact bw_L_law_649_23 X  XU hroom hsc hnc hno hE hrec h
  · have h := ite_f hb h
    refine g_iconst X (v := 1) dL_law_644 (by decide) ?_
    refine g_goto X (tgt := 649) dL_law_645 (by decide) ?_
    refine g_lv [0, 1, 2, 3, 4] rfl ?_
    exact bw_L_law_649_23 X  XU hroom hsc hnc hno hE hrec h
def bk_L_law_719_23 (F : Nat) (L9 : Nat) (xs9 : Nat → Int32) (rec : Int32 → GM → Option (GM ⊕ (Int32 × GM))) (a154 : Int32) (M : GM) : Option (GM ⊕ (Int32 × GM)) := grd (gIn (a154 + (1 : Int32)) L9) (grd (gIn (a154 + (2 : Int32)) L9) (grd (gIn (a154 + (3 : Int32)) L9) (grd (gIn (a154 + (4 : Int32)) L9) (bndO (f_L_setPattern F (xs9 (a154 + (1 : Int32)).toNatClampNeg) (xs9 (a154 + (2 : Int32)).toNatClampNeg) (xs9 (a154 + (3 : Int32)).toNatClampNeg) (xs9 (a154 + (4 : Int32)).toNatClampNeg) M) (fun (v160, M161) => bnd v160 (fun v162 => grd (gIn (a154 + (1 : Int32)) L9) (grd (gIn (a154 + (2 : Int32)) L9) (grd (gIn (a154 + (3 : Int32)) L9) (grd (gIn (a154 + (4 : Int32)) L9) (bndO (f_X11_setPattern F (xs9 (a154 + (1 : Int32)).toNatClampNeg) (xs9 (a154 + (2 : Int32)).toNatClampNeg) (xs9 (a154 + (3 : Int32)).toNatClampNeg) (xs9 (a154 + (4 : Int32)).toNatClampNeg) M161) (fun (v169, M170) => bnd v169 (fun v171 => if (f_X11_thrown M170) = v162 then (if v162 = 0 then (if (lg_cmp (gL M170 162 0) v171.toInt64) = 0 then (bnd (a154 + (7 : Int32)) (fun v175 => rec v175 M170)) else (some (Sum.inr ((0 : Int32), M170)))) else (bnd (a154 + (7 : Int32)) (fun v173 => rec v173 M170))) else (some (Sum.inr ((0 : Int32), M170)))))))))))))))
set_option maxHeartbeats 4000000 in
set_option maxRecDepth 100000 in
theorem bw_L_law_719_23 {x : GX} (X : GC x cL_law 9 RL 11) {a154 : Int32}   {F : Nat} {b9 L9 : Nat} {xs9 : Nat → Int32} {rec : Int32 → GM → Option (GM ⊕ (Int32 × GM))} {M : GM} {r9 : (GM ⊕ (Int32 × GM))} (XU : GC (xup x) cL_law 9 RL 11) (hroom : xcells x + 1 ≤ (xR x).cells ∧ xslots x + 6 ≤ (xR x).slots) (hsc : gScr x b9 L9 xs9) (hnc : gNcs (xs x)) (hno : ∀ (v8 : Int32) (M8 : GM), r9 ≠ Sum.inr (v8, M8)) (hE : ∀  (M9 : GM), r9 = Sum.inl M9 → WG x M9 [] 2440 []) (hrec : ∀ (a4_9 : Int32) (M9 : GM), rec a4_9 M9 = some r9 → WG (xup x) M9 [(0, .ref b9), (1, .ref (gad (xz x) 0)), (2, .ref (gad (xz x) 122)), (3, .ref (gad (xz x) 162)), (4, .int a4_9)] 23 []) (h : bk_L_law_719_23 F L9 xs9 rec a154 M = some r9) : WG x M [(0, .ref b9), (1, .ref (gad (xz x) 0)), (2, .ref (gad (xz x) 122)), (3, .ref (gad (xz x) 162)), (4, .int a154)] 719 [] := by
  unfold bk_L_law_719_23 at h
  refine g_aload_n X (j := 1) dL_law_719 rfl rfl ?_
  refine g_aload_n X (j := 0) dL_law_720 rfl rfl ?_
  refine g_iload X (j := 4) dL_law_721 rfl ?_
  refine g_iconst X (v := 1) dL_law_723 (by decide) ?_
  refine g_iadd X dL_law_724 ?_
  obtain ⟨hg155, h⟩ := grd_e h
  refine g_sld X hsc hg155 dL_law_725 ?_
  refine g_aload_n X (j := 0) dL_law_726 rfl rfl ?_
  refine g_iload X (j := 4) dL_law_727 rfl ?_
  refine g_iconst X (v := 2) dL_law_729 (by decide) ?_
  refine g_iadd X dL_law_730 ?_
  obtain ⟨hg156, h⟩ := grd_e h
  refine g_sld X hsc hg156 dL_law_731 ?_
  refine g_aload_n X (j := 0) dL_law_732 rfl rfl ?_
  refine g_iload X (j := 4) dL_law_733 rfl ?_
  refine g_iconst X (v := 3) dL_law_735 (by decide) ?_
  refine g_iadd X dL_law_736 ?_
  obtain ⟨hg157, h⟩ := grd_e h
  refine g_sld X hsc hg157 dL_law_737 ?_
  refine g_aload_n X (j := 0) dL_law_738 rfl rfl ?_
  refine g_iload X (j := 4) dL_law_739 rfl ?_
  refine g_iconst X (v := 4) dL_law_741 (by decide) ?_
  refine g_iadd X dL_law_742 ?_
  obtain ⟨hg158, h⟩ := grd_e h
  refine g_sld X hsc hg158 dL_law_743 ?_
  refine g_aload_n X (j := 3) dL_law_744 rfl rfl ?_
  obtain ⟨⟨v160, M161⟩, hc159, h⟩ := bndO_e h
  refine gw_L_136 X (ct_L_setPattern X.htr hc159) hnc (by decide) (Nat.le_of_ble_eq_true rfl) hroom dL_law_745 ?_
  refine g_topi (fun v162 e163 => ?_)
  have h := bnd_e e163 h
  refine g_istore XU (lv' := [(5, .int v162), (0, .ref b9), (1, .ref (gad (xz x) 0)), (2, .ref (gad (xz x) 122)), (3, .ref (gad (xz x) 162)), (4, .int a154)]) dL_law_748 (by decide) rfl ?_
  refine g_aload_n XU (j := 3) dL_law_750 rfl rfl ?_
  refine g_aload_n XU (j := 1) dL_law_751 rfl rfl ?_
  refine g_iload XU (j := 5) dL_law_752 rfl ?_
  refine g_iconst XU (v := 1) dL_law_754 (by decide) ?_
  refine g_iadd XU dL_law_755 ?_
  obtain ⟨hg164, h⟩ := grd_e h
  refine g_sld XU hsc hg164 dL_law_756 ?_
  refine g_aload_n XU (j := 1) dL_law_757 rfl rfl ?_
  refine g_iload XU (j := 5) dL_law_758 rfl ?_
  refine g_iconst XU (v := 2) dL_law_760 (by decide) ?_
  refine g_iadd XU dL_law_761 ?_
  obtain ⟨hg165, h⟩ := grd_e h
  refine g_sld XU hsc hg165 dL_law_762 ?_
  refine g_aload_n XU (j := 1) dL_law_763 rfl rfl ?_
  refine g_iload XU (j := 5) dL_law_764 rfl ?_
  refine g_iconst XU (v := 3) dL_law_766 (by decide) ?_
  refine g_iadd XU dL_law_767 ?_
  obtain ⟨hg166, h⟩ := grd_e h
  refine g_sld XU hsc hg166 dL_law_768 ?_
  refine g_aload_n XU (j := 1) dL_law_769 rfl rfl ?_
  refine g_iload XU (j := 5) dL_law_770 rfl ?_
  refine g_iconst XU (v := 4) dL_law_772 (by decide) ?_
  refine g_iadd XU dL_law_773 ?_
  obtain ⟨hg167, h⟩ := grd_e h
  refine g_sld XU hsc hg167 dL_law_774 ?_
  obtain ⟨⟨v169, M170⟩, hc168, h⟩ := bndO_e h
  refine gc_L_138 XU gT_c122 (ct_X11_setPattern XU.htr  hc168) (by decide) (Nat.le_of_ble_eq_true rfl) dL_law_775 ?_
  refine g_topi (fun v171 e172 => ?_)
  have h := bnd_e e172 h
  refine g_istore XU (lv' := [(6, .int v171), (5, .int v162), (0, .ref b9), (1, .ref (gad (xz x) 0)), (2, .ref (gad (xz x) 122)), (3, .ref (gad (xz x) 162)), (4, .int a154)]) dL_law_778 (by decide) rfl ?_
  refine g_aload_n XU (j := 4) dL_law_780 rfl rfl ?_
  refine gc_L_116 XU gT_c122 (ct_X11_thrown XU.htr ) (by decide) (Nat.le_of_ble_eq_true rfl) dL_law_781 ?_
  refine g_iload XU (j := 1) dL_law_784 rfl ?_
  refine g_icmp_eq XU (tgt := 791) dL_law_786 (by decide) (fun hb => ?_) (fun hb => ?_)
  · have h := ite_t hb h
    refine g_iload XU (j := 1) dL_law_791 rfl ?_
    refine g_if_ne XU (tgt := 808) dL_law_793 (by decide) (fun hb => ?_) (fun hb => ?_)
    · have h := ite_f hb h
      refine g_goto XU (tgt := 2434) dL_law_808 (by decide) ?_
      refine g_iinc XU (j := 6) (w := a154 + (7 : Int32)) (lv' := [(6, .int v171), (5, .int v162), (0, .ref b9), (1, .ref (gad (xz x) 0)), (2, .ref (gad (xz x) 122)), (3, .ref (gad (xz x) 162))]) dL_law_2434 rfl (by rw [ii_7]) (by decide) (fun _ => rfl) (fun v173 e174 => ?_)
      have h := bnd_e e174 h
      refine g_goto XU (tgt := 23) dL_law_2437 (by decide) ?_
      refine g_lv [3, 4, 5, 6, 0] rfl ?_
      exact hrec v173 M170 h
    · have h := ite_t hb h
      refine g_aload_n XU (j := 5) dL_law_796 rfl rfl ?_
      refine g_iconst XU (v := 0) dL_law_797 (by decide) ?_
      refine g_lald XU gT_c162 (by decide +kernel) dL_law_798 ?_
      rw [tn_0]
      refine g_iload XU (j := 0) dL_law_799 rfl ?_
      refine g_i2l XU dL_law_801 ?_
      refine g_lcmp XU dL_law_802 ?_
      refine g_if_eq XU (tgt := 808) dL_law_803 (by decide) (fun hb => ?_) (fun hb => ?_)
      · have h := ite_t hb h
        refine g_goto XU (tgt := 2434) dL_law_808 (by decide) ?_
        refine g_iinc XU (j := 6) (w := a154 + (7 : Int32)) (lv' := [(6, .int v171), (5, .int v162), (0, .ref b9), (1, .ref (gad (xz x) 0)), (2, .ref (gad (xz x) 122)), (3, .ref (gad (xz x) 162))]) dL_law_2434 rfl (by rw [ii_7]) (by decide) (fun _ => rfl) (fun v175 e176 => ?_)
        have h := bnd_e e176 h
        refine g_goto XU (tgt := 23) dL_law_2437 (by decide) ?_
        refine g_lv [3, 4, 5, 6, 0] rfl ?_
        exact hrec v175 M170 h
      · have h := ite_f hb h
        refine g_iconst XU (v := 0) dL_law_806 (by decide) ?_
        exact absurd (Option.some.inj h).symm (hno _ _)
  · have h := ite_f hb h
    refine g_iconst XU (v := 0) dL_law_789 (by decide) ?_
    exact absurd (Option.some.inj h).symm (hno _ _)
def bk_L_law_859_23c (F : Nat) (L9 : Nat) (xs9 : Nat → Int32) (rec : Int32 → GM → Option (GM ⊕ (Int32 × GM))) (a190 : Int32) (a191 : Int32) (a192 : Int32) (a193 : Int32) (M : GM) : Option (GM ⊕ (Int32 × GM)) := bndO (f_X11_setRepeats F a193 a192 M) (fun (v195, M196) => bnd v195 (fun v197 => if (f_X11_thrown M196) = a191 then (if a191 = 0 then (if v197 = 0 then (if (lg_cmp (gL M196 162 0) (0 : Int64)) = 0 then (bnd (a190 + (7 : Int32)) (fun v201 => rec v201 M196)) else (some (Sum.inr ((0 : Int32), M196)))) else (if (lg_cmp (gL M196 162 0) (1 : Int64)) = 0 then (bnd (a190 + (7 : Int32)) (fun v203 => rec v203 M196)) else (some (Sum.inr ((0 : Int32), M196))))) else (bnd (a190 + (7 : Int32)) (fun v199 => rec v199 M196))) else (some (Sum.inr ((0 : Int32), M196)))))
set_option maxHeartbeats 4000000 in
set_option maxRecDepth 100000 in
theorem bw_L_law_859_23c {x : GX} (X : GC x cL_law 9 RL 11) {a190 : Int32} {a191 : Int32} {a192 : Int32} {a193 : Int32}   {F : Nat} {b9 L9 : Nat} {xs9 : Nat → Int32} {rec : Int32 → GM → Option (GM ⊕ (Int32 × GM))} {M : GM} {r9 : (GM ⊕ (Int32 × GM))} (hsc : gScr x b9 L9 xs9) (hnc : gNcs (xs x)) (hno : ∀ (v8 : Int32) (M8 : GM), r9 ≠ Sum.inr (v8, M8)) (hrec : ∀ (a4_9 : Int32) (M9 : GM), rec a4_9 M9 = some r9 → WG x M9 [(0, .ref b9), (1, .ref (gad (xz x) 0)), (2, .ref (gad (xz x) 122)), (3, .ref (gad (xz x) 162)), (4, .int a4_9)] 23 []) (h : bk_L_law_859_23c F L9 xs9 rec a190 a191 a192 a193 M = some r9) : WG x M [(0, .ref b9), (1, .ref (gad (xz x) 0)), (2, .ref (gad (xz x) 122)), (3, .ref (gad (xz x) 162)), (4, .int a190), (5, .int a191)] 859 [.int a192, .int a193, .ref (gad (xz x) 122)] := by
  unfold bk_L_law_859_23c at h
  obtain ⟨⟨v195, M196⟩, hc194, h⟩ := bndO_e h
  refine gc_L_141 X gT_c122 (ct_X11_setRepeats X.htr  hc194) (by decide) (Nat.le_of_ble_eq_true rfl) dL_law_859 ?_
  refine g_topi (fun v197 e198 => ?_)
  have h := bnd_e e198 h
  refine g_istore X (lv' := [(6, .int v197), (0, .ref b9), (1, .ref (gad (xz x) 0)), (2, .ref (gad (xz x) 122)), (3, .ref (gad (xz x) 162)), (4, .int a190), (5, .int a191)]) dL_law_862 (by decide) rfl ?_
  refine g_aload_n X (j := 3) dL_law_864 rfl rfl ?_
  refine gc_L_116 X gT_c122 (ct_X11_thrown X.htr ) (by decide) (Nat.le_of_ble_eq_true rfl) dL_law_865 ?_
  refine g_iload X (j := 6) dL_law_868 rfl ?_
  refine g_icmp_eq X (tgt := 875) dL_law_870 (by decide) (fun hb => ?_) (fun hb => ?_)
  · have h := ite_t hb h
    refine g_iload X (j := 6) dL_law_875 rfl ?_
    refine g_if_ne X (tgt := 899) dL_law_877 (by decide) (fun hb => ?_) (fun hb => ?_)
    · have h := ite_f hb h
      refine g_goto X (tgt := 2434) dL_law_899 (by decide) ?_
      refine g_iinc X (j := 5) (w := a190 + (7 : Int32)) (lv' := [(6, .int v197), (0, .ref b9), (1, .ref (gad (xz x) 0)), (2, .ref (gad (xz x) 122)), (3, .ref (gad (xz x) 162)), (5, .int a191)]) dL_law_2434 rfl (by rw [ii_7]) (by decide) (fun _ => rfl) (fun v199 e200 => ?_)
      have h := bnd_e e200 h
      refine g_goto X (tgt := 23) dL_law_2437 (by decide) ?_
      refine g_lv [2, 3, 4, 5, 0] rfl ?_
      exact hrec v199 M196 h
    · have h := ite_t hb h
      refine g_aload_n X (j := 4) dL_law_880 rfl rfl ?_
      refine g_iconst X (v := 0) dL_law_881 (by decide) ?_
      refine g_lald X gT_c162 (by decide +kernel) dL_law_882 ?_
      rw [tn_0]
      refine g_iload X (j := 0) dL_law_883 rfl ?_
      refine g_if_eq X (tgt := 892) dL_law_885 (by decide) (fun hb => ?_) (fun hb => ?_)
      · have h := ite_t hb h
        refine g_lconst X (v := 0) dL_law_892 (by decide) ?_
        refine g_lcmp X dL_law_893 ?_
        refine g_if_eq X (tgt := 899) dL_law_894 (by decide) (fun hb => ?_) (fun hb => ?_)
        · have h := ite_t hb h
          refine g_goto X (tgt := 2434) dL_law_899 (by decide) ?_
          refine g_iinc X (j := 5) (w := a190 + (7 : Int32)) (lv' := [(6, .int v197), (0, .ref b9), (1, .ref (gad (xz x) 0)), (2, .ref (gad (xz x) 122)), (3, .ref (gad (xz x) 162)), (5, .int a191)]) dL_law_2434 rfl (by rw [ii_7]) (by decide) (fun _ => rfl) (fun v201 e202 => ?_)
          have h := bnd_e e202 h
          refine g_goto X (tgt := 23) dL_law_2437 (by decide) ?_
          refine g_lv [2, 3, 4, 5, 0] rfl ?_
          exact hrec v201 M196 h
        · have h := ite_f hb h
          refine g_iconst X (v := 0) dL_law_897 (by decide) ?_
          exact absurd (Option.some.inj h).symm (hno _ _)
      · have h := ite_f hb h
        refine g_lconst X (v := 1) dL_law_888 (by decide) ?_
        refine g_goto X (tgt := 893) dL_law_889 (by decide) ?_
        refine g_lcmp X dL_law_893 ?_
        refine g_if_eq X (tgt := 899) dL_law_894 (by decide) (fun hb => ?_) (fun hb => ?_)
        · have h := ite_t hb h
          refine g_goto X (tgt := 2434) dL_law_899 (by decide) ?_
          refine g_iinc X (j := 5) (w := a190 + (7 : Int32)) (lv' := [(6, .int v197), (0, .ref b9), (1, .ref (gad (xz x) 0)), (2, .ref (gad (xz x) 122)), (3, .ref (gad (xz x) 162)), (5, .int a191)]) dL_law_2434 rfl (by rw [ii_7]) (by decide) (fun _ => rfl) (fun v203 e204 => ?_)
          have h := bnd_e e204 h
          refine g_goto X (tgt := 23) dL_law_2437 (by decide) ?_
          refine g_lv [2, 3, 4, 5, 0] rfl ?_
          exact hrec v203 M196 h
        · have h := ite_f hb h
          refine g_iconst X (v := 0) dL_law_897 (by decide) ?_
          exact absurd (Option.some.inj h).symm (hno _ _)
  · have h := ite_f hb h
    refine g_iconst X (v := 0) dL_law_873 (by decide) ?_
    exact absurd (Option.some.inj h).symm (hno _ _)
def bk_L_law_832_23 (F : Nat) (L9 : Nat) (xs9 : Nat → Int32) (rec : Int32 → GM → Option (GM ⊕ (Int32 × GM))) (a180 : Int32) (a181 : Int32) (a182 : Int32) (M : GM) : Option (GM ⊕ (Int32 × GM)) := bndO (f_L_setRepeats F a182 a181 M) (fun (v184, M185) => bnd v184 (fun v186 => grd (gIn (a180 + (1 : Int32)) L9) (grd (gIn (a180 + (2 : Int32)) L9) (if (xs9 (a180 + (2 : Int32)).toNatClampNeg) = 0 then (bk_L_law_859_23c F L9 xs9 rec a180 v186 (0 : Int32) (xs9 (a180 + (1 : Int32)).toNatClampNeg) M185) else (bk_L_law_859_23c F L9 xs9 rec a180 v186 (1 : Int32) (xs9 (a180 + (1 : Int32)).toNatClampNeg) M185)))))
set_option maxHeartbeats 4000000 in
set_option maxRecDepth 100000 in
theorem bw_L_law_832_23 {x : GX} (X : GC x cL_law 9 RL 11) {a180 : Int32} {a181 : Int32} {a182 : Int32}   {F : Nat} {b9 L9 : Nat} {xs9 : Nat → Int32} {rec : Int32 → GM → Option (GM ⊕ (Int32 × GM))} {M : GM} {r9 : (GM ⊕ (Int32 × GM))} (XU : GC (xup x) cL_law 9 RL 11) (hroom : xcells x + 1 ≤ (xR x).cells ∧ xslots x + 6 ≤ (xR x).slots) (hsc : gScr x b9 L9 xs9) (hnc : gNcs (xs x)) (hno : ∀ (v8 : Int32) (M8 : GM), r9 ≠ Sum.inr (v8, M8)) (hE : ∀  (M9 : GM), r9 = Sum.inl M9 → WG x M9 [] 2440 []) (hrec : ∀ (a4_9 : Int32) (M9 : GM), rec a4_9 M9 = some r9 → WG (xup x) M9 [(0, .ref b9), (1, .ref (gad (xz x) 0)), (2, .ref (gad (xz x) 122)), (3, .ref (gad (xz x) 162)), (4, .int a4_9)] 23 []) (h : bk_L_law_832_23 F L9 xs9 rec a180 a181 a182 M = some r9) : WG x M [(0, .ref b9), (1, .ref (gad (xz x) 0)), (2, .ref (gad (xz x) 122)), (3, .ref (gad (xz x) 162)), (4, .int a180)] 832 [.int a181, .int a182, .ref (gad (xz x) 0)] := by
  unfold bk_L_law_832_23 at h
  refine g_aload_n X (j := 3) dL_law_832 rfl rfl ?_
  obtain ⟨⟨v184, M185⟩, hc183, h⟩ := bndO_e h
  refine gw_L_139 X (ct_L_setRepeats X.htr hc183) hnc (by decide) (Nat.le_of_ble_eq_true rfl) hroom dL_law_833 ?_
  refine g_topi (fun v186 e187 => ?_)
  have h := bnd_e e187 h
  refine g_istore XU (lv' := [(5, .int v186), (0, .ref b9), (1, .ref (gad (xz x) 0)), (2, .ref (gad (xz x) 122)), (3, .ref (gad (xz x) 162)), (4, .int a180)]) dL_law_836 (by decide) rfl ?_
  refine g_aload_n XU (j := 3) dL_law_838 rfl rfl ?_
  refine g_aload_n XU (j := 1) dL_law_839 rfl rfl ?_
  refine g_iload XU (j := 5) dL_law_840 rfl ?_
  refine g_iconst XU (v := 1) dL_law_842 (by decide) ?_
  refine g_iadd XU dL_law_843 ?_
  obtain ⟨hg188, h⟩ := grd_e h
  refine g_sld XU hsc hg188 dL_law_844 ?_
  refine g_aload_n XU (j := 1) dL_law_845 rfl rfl ?_
  refine g_iload XU (j := 5) dL_law_846 rfl ?_
  refine g_iconst XU (v := 2) dL_law_848 (by decide) ?_
  refine g_iadd XU dL_law_849 ?_
  obtain ⟨hg189, h⟩ := grd_e h
  refine g_sld XU hsc hg189 dL_law_850 ?_
  refine g_if_eq XU (tgt := 858) dL_law_851 (by decide) (fun hb => ?_) (fun hb => ?_)
  · have h := ite_t hb h
    refine g_iconst XU (v := 0) dL_law_858 (by decide) ?_
    refine g_lv [1, 2, 3, 4, 5, 0] rfl ?_
    exact bw_L_law_859_23c XU  hsc hnc hno hrec h
  · have h := ite_f hb h
    refine g_iconst XU (v := 1) dL_law_854 (by decide) ?_
    refine g_goto XU (tgt := 859) dL_law_855 (by decide) ?_
    refine g_lv [1, 2, 3, 4, 5, 0] rfl ?_
    exact bw_L_law_859_23c XU  hsc hnc hno hrec h
def bk_L_law_811_23 (F : Nat) (L9 : Nat) (xs9 : Nat → Int32) (rec : Int32 → GM → Option (GM ⊕ (Int32 × GM))) (a177 : Int32) (M : GM) : Option (GM ⊕ (Int32 × GM)) := grd (gIn (a177 + (1 : Int32)) L9) (grd (gIn (a177 + (2 : Int32)) L9) (if (xs9 (a177 + (2 : Int32)).toNatClampNeg) = 0 then (bk_L_law_832_23 F L9 xs9 rec a177 (0 : Int32) (xs9 (a177 + (1 : Int32)).toNatClampNeg) M) else (bk_L_law_832_23 F L9 xs9 rec a177 (1 : Int32) (xs9 (a177 + (1 : Int32)).toNatClampNeg) M)))
set_option maxHeartbeats 4000000 in
set_option maxRecDepth 100000 in
theorem bw_L_law_811_23 {x : GX} (X : GC x cL_law 9 RL 11) {a177 : Int32}   {F : Nat} {b9 L9 : Nat} {xs9 : Nat → Int32} {rec : Int32 → GM → Option (GM ⊕ (Int32 × GM))} {M : GM} {r9 : (GM ⊕ (Int32 × GM))} (XU : GC (xup x) cL_law 9 RL 11) (hroom : xcells x + 1 ≤ (xR x).cells ∧ xslots x + 6 ≤ (xR x).slots) (hsc : gScr x b9 L9 xs9) (hnc : gNcs (xs x)) (hno : ∀ (v8 : Int32) (M8 : GM), r9 ≠ Sum.inr (v8, M8)) (hE : ∀  (M9 : GM), r9 = Sum.inl M9 → WG x M9 [] 2440 []) (hrec : ∀ (a4_9 : Int32) (M9 : GM), rec a4_9 M9 = some r9 → WG (xup x) M9 [(0, .ref b9), (1, .ref (gad (xz x) 0)), (2, .ref (gad (xz x) 122)), (3, .ref (gad (xz x) 162)), (4, .int a4_9)] 23 []) (h : bk_L_law_811_23 F L9 xs9 rec a177 M = some r9) : WG x M [(0, .ref b9), (1, .ref (gad (xz x) 0)), (2, .ref (gad (xz x) 122)), (3, .ref (gad (xz x) 162)), (4, .int a177)] 811 [] := by
  unfold bk_L_law_811_23 at h
  refine g_aload_n X (j := 1) dL_law_811 rfl rfl ?_
  refine g_aload_n X (j := 0) dL_law_812 rfl rfl ?_
  refine g_iload X (j := 4) dL_law_813 rfl ?_
  refine g_iconst X (v := 1) dL_law_815 (by decide) ?_
  refine g_iadd X dL_law_816 ?_
  obtain ⟨hg178, h⟩ := grd_e h
  refine g_sld X hsc hg178 dL_law_817 ?_
  refine g_aload_n X (j := 0) dL_law_818 rfl rfl ?_
  refine g_iload X (j := 4) dL_law_819 rfl ?_
  refine g_iconst X (v := 2) dL_law_821 (by decide) ?_
  refine g_iadd X dL_law_822 ?_
  obtain ⟨hg179, h⟩ := grd_e h
  refine g_sld X hsc hg179 dL_law_823 ?_
  refine g_if_eq X (tgt := 831) dL_law_824 (by decide) (fun hb => ?_) (fun hb => ?_)
  · have h := ite_t hb h
    refine g_iconst X (v := 0) dL_law_831 (by decide) ?_
    refine g_lv [0, 1, 2, 3, 4] rfl ?_
    exact bw_L_law_832_23 X  XU hroom hsc hnc hno hE hrec h
  · have h := ite_f hb h
    refine g_iconst X (v := 1) dL_law_827 (by decide) ?_
    refine g_goto X (tgt := 832) dL_law_828 (by decide) ?_
    refine g_lv [0, 1, 2, 3, 4] rfl ?_
    exact bw_L_law_832_23 X  XU hroom hsc hnc hno hE hrec h
def bk_L_law_902_23 (F : Nat) (L9 : Nat) (xs9 : Nat → Int32) (rec : Int32 → GM → Option (GM ⊕ (Int32 × GM))) (a205 : Int32) (M : GM) : Option (GM ⊕ (Int32 × GM)) := grd (gIn (a205 + (1 : Int32)) L9) (grd (gIn (a205 + (2 : Int32)) L9) (grd (gIn (a205 + (3 : Int32)) L9) (grd (gIn (a205 + (4 : Int32)) L9) (grd (gIn (a205 + (5 : Int32)) L9) (bndO (f_L_setCamera F (xs9 (a205 + (1 : Int32)).toNatClampNeg) (xs9 (a205 + (2 : Int32)).toNatClampNeg) (xs9 (a205 + (3 : Int32)).toNatClampNeg) (xs9 (a205 + (4 : Int32)).toNatClampNeg) (xs9 (a205 + (5 : Int32)).toNatClampNeg) M) (fun (v212, M213) => bnd v212 (fun v214 => grd (gIn (a205 + (1 : Int32)) L9) (grd (gIn (a205 + (2 : Int32)) L9) (grd (gIn (a205 + (3 : Int32)) L9) (grd (gIn (a205 + (4 : Int32)) L9) (grd (gIn (a205 + (5 : Int32)) L9) (bndO (f_X11_setCamera F (xs9 (a205 + (1 : Int32)).toNatClampNeg) (xs9 (a205 + (2 : Int32)).toNatClampNeg) (xs9 (a205 + (3 : Int32)).toNatClampNeg) (xs9 (a205 + (4 : Int32)).toNatClampNeg) (xs9 (a205 + (5 : Int32)).toNatClampNeg) M213) (fun (v222, M223) => bnd v222 (fun v224 => if (f_X11_thrown M223) = v214 then (if v214 = 0 then (if (lg_cmp (gL M223 162 0) v224.toInt64) = 0 then (bnd (a205 + (7 : Int32)) (fun v228 => rec v228 M223)) else (some (Sum.inr ((0 : Int32), M223)))) else (bnd (a205 + (7 : Int32)) (fun v226 => rec v226 M223))) else (some (Sum.inr ((0 : Int32), M223)))))))))))))))))
set_option maxHeartbeats 4000000 in
set_option maxRecDepth 100000 in
theorem bw_L_law_902_23 {x : GX} (X : GC x cL_law 9 RL 11) {a205 : Int32}   {F : Nat} {b9 L9 : Nat} {xs9 : Nat → Int32} {rec : Int32 → GM → Option (GM ⊕ (Int32 × GM))} {M : GM} {r9 : (GM ⊕ (Int32 × GM))} (XU : GC (xup x) cL_law 9 RL 11) (hroom : xcells x + 1 ≤ (xR x).cells ∧ xslots x + 6 ≤ (xR x).slots) (hsc : gScr x b9 L9 xs9) (hnc : gNcs (xs x)) (hno : ∀ (v8 : Int32) (M8 : GM), r9 ≠ Sum.inr (v8, M8)) (hE : ∀  (M9 : GM), r9 = Sum.inl M9 → WG x M9 [] 2440 []) (hrec : ∀ (a4_9 : Int32) (M9 : GM), rec a4_9 M9 = some r9 → WG (xup x) M9 [(0, .ref b9), (1, .ref (gad (xz x) 0)), (2, .ref (gad (xz x) 122)), (3, .ref (gad (xz x) 162)), (4, .int a4_9)] 23 []) (h : bk_L_law_902_23 F L9 xs9 rec a205 M = some r9) : WG x M [(0, .ref b9), (1, .ref (gad (xz x) 0)), (2, .ref (gad (xz x) 122)), (3, .ref (gad (xz x) 162)), (4, .int a205)] 902 [] := by
  unfold bk_L_law_902_23 at h
  refine g_aload_n X (j := 1) dL_law_902 rfl rfl ?_
  refine g_aload_n X (j := 0) dL_law_903 rfl rfl ?_
  refine g_iload X (j := 4) dL_law_904 rfl ?_
  refine g_iconst X (v := 1) dL_law_906 (by decide) ?_
  refine g_iadd X dL_law_907 ?_
  obtain ⟨hg206, h⟩ := grd_e h
  refine g_sld X hsc hg206 dL_law_908 ?_
  refine g_aload_n X (j := 0) dL_law_909 rfl rfl ?_
  refine g_iload X (j := 4) dL_law_910 rfl ?_
  refine g_iconst X (v := 2) dL_law_912 (by decide) ?_
  refine g_iadd X dL_law_913 ?_
  obtain ⟨hg207, h⟩ := grd_e h
  refine g_sld X hsc hg207 dL_law_914 ?_
  refine g_aload_n X (j := 0) dL_law_915 rfl rfl ?_
  refine g_iload X (j := 4) dL_law_916 rfl ?_
  refine g_iconst X (v := 3) dL_law_918 (by decide) ?_
  refine g_iadd X dL_law_919 ?_
  obtain ⟨hg208, h⟩ := grd_e h
  refine g_sld X hsc hg208 dL_law_920 ?_
  refine g_aload_n X (j := 0) dL_law_921 rfl rfl ?_
  refine g_iload X (j := 4) dL_law_922 rfl ?_
  refine g_iconst X (v := 4) dL_law_924 (by decide) ?_
  refine g_iadd X dL_law_925 ?_
  obtain ⟨hg209, h⟩ := grd_e h
  refine g_sld X hsc hg209 dL_law_926 ?_
  refine g_aload_n X (j := 0) dL_law_927 rfl rfl ?_
  refine g_iload X (j := 4) dL_law_928 rfl ?_
  refine g_iconst X (v := 5) dL_law_930 (by decide) ?_
  refine g_iadd X dL_law_931 ?_
  obtain ⟨hg210, h⟩ := grd_e h
  refine g_sld X hsc hg210 dL_law_932 ?_
  refine g_aload_n X (j := 3) dL_law_933 rfl rfl ?_
  obtain ⟨⟨v212, M213⟩, hc211, h⟩ := bndO_e h
  refine gw_L_142 X (ct_L_setCamera X.htr hc211) hnc (by decide) (Nat.le_of_ble_eq_true rfl) hroom dL_law_934 ?_
  refine g_topi (fun v214 e215 => ?_)
  have h := bnd_e e215 h
  refine g_istore XU (lv' := [(5, .int v214), (0, .ref b9), (1, .ref (gad (xz x) 0)), (2, .ref (gad (xz x) 122)), (3, .ref (gad (xz x) 162)), (4, .int a205)]) dL_law_937 (by decide) rfl ?_
  refine g_aload_n XU (j := 3) dL_law_939 rfl rfl ?_
  refine g_aload_n XU (j := 1) dL_law_940 rfl rfl ?_
  refine g_iload XU (j := 5) dL_law_941 rfl ?_
  refine g_iconst XU (v := 1) dL_law_943 (by decide) ?_
  refine g_iadd XU dL_law_944 ?_
  obtain ⟨hg216, h⟩ := grd_e h
  refine g_sld XU hsc hg216 dL_law_945 ?_
  refine g_aload_n XU (j := 1) dL_law_946 rfl rfl ?_
  refine g_iload XU (j := 5) dL_law_947 rfl ?_
  refine g_iconst XU (v := 2) dL_law_949 (by decide) ?_
  refine g_iadd XU dL_law_950 ?_
  obtain ⟨hg217, h⟩ := grd_e h
  refine g_sld XU hsc hg217 dL_law_951 ?_
  refine g_aload_n XU (j := 1) dL_law_952 rfl rfl ?_
  refine g_iload XU (j := 5) dL_law_953 rfl ?_
  refine g_iconst XU (v := 3) dL_law_955 (by decide) ?_
  refine g_iadd XU dL_law_956 ?_
  obtain ⟨hg218, h⟩ := grd_e h
  refine g_sld XU hsc hg218 dL_law_957 ?_
  refine g_aload_n XU (j := 1) dL_law_958 rfl rfl ?_
  refine g_iload XU (j := 5) dL_law_959 rfl ?_
  refine g_iconst XU (v := 4) dL_law_961 (by decide) ?_
  refine g_iadd XU dL_law_962 ?_
  obtain ⟨hg219, h⟩ := grd_e h
  refine g_sld XU hsc hg219 dL_law_963 ?_
  refine g_aload_n XU (j := 1) dL_law_964 rfl rfl ?_
  refine g_iload XU (j := 5) dL_law_965 rfl ?_
  refine g_iconst XU (v := 5) dL_law_967 (by decide) ?_
  refine g_iadd XU dL_law_968 ?_
  obtain ⟨hg220, h⟩ := grd_e h
  refine g_sld XU hsc hg220 dL_law_969 ?_
  obtain ⟨⟨v222, M223⟩, hc221, h⟩ := bndO_e h
  refine gc_L_145 XU gT_c122 (ct_X11_setCamera XU.htr  hc221) (by decide) (Nat.le_of_ble_eq_true rfl) dL_law_970 ?_
  refine g_topi (fun v224 e225 => ?_)
  have h := bnd_e e225 h
  refine g_istore XU (lv' := [(6, .int v224), (5, .int v214), (0, .ref b9), (1, .ref (gad (xz x) 0)), (2, .ref (gad (xz x) 122)), (3, .ref (gad (xz x) 162)), (4, .int a205)]) dL_law_973 (by decide) rfl ?_
  refine g_aload_n XU (j := 4) dL_law_975 rfl rfl ?_
  refine gc_L_116 XU gT_c122 (ct_X11_thrown XU.htr ) (by decide) (Nat.le_of_ble_eq_true rfl) dL_law_976 ?_
  refine g_iload XU (j := 1) dL_law_979 rfl ?_
  refine g_icmp_eq XU (tgt := 986) dL_law_981 (by decide) (fun hb => ?_) (fun hb => ?_)
  · have h := ite_t hb h
    refine g_iload XU (j := 1) dL_law_986 rfl ?_
    refine g_if_ne XU (tgt := 1003) dL_law_988 (by decide) (fun hb => ?_) (fun hb => ?_)
    · have h := ite_f hb h
      refine g_goto XU (tgt := 2434) dL_law_1003 (by decide) ?_
      refine g_iinc XU (j := 6) (w := a205 + (7 : Int32)) (lv' := [(6, .int v224), (5, .int v214), (0, .ref b9), (1, .ref (gad (xz x) 0)), (2, .ref (gad (xz x) 122)), (3, .ref (gad (xz x) 162))]) dL_law_2434 rfl (by rw [ii_7]) (by decide) (fun _ => rfl) (fun v226 e227 => ?_)
      have h := bnd_e e227 h
      refine g_goto XU (tgt := 23) dL_law_2437 (by decide) ?_
      refine g_lv [3, 4, 5, 6, 0] rfl ?_
      exact hrec v226 M223 h
    · have h := ite_t hb h
      refine g_aload_n XU (j := 5) dL_law_991 rfl rfl ?_
      refine g_iconst XU (v := 0) dL_law_992 (by decide) ?_
      refine g_lald XU gT_c162 (by decide +kernel) dL_law_993 ?_
      rw [tn_0]
      refine g_iload XU (j := 0) dL_law_994 rfl ?_
      refine g_i2l XU dL_law_996 ?_
      refine g_lcmp XU dL_law_997 ?_
      refine g_if_eq XU (tgt := 1003) dL_law_998 (by decide) (fun hb => ?_) (fun hb => ?_)
      · have h := ite_t hb h
        refine g_goto XU (tgt := 2434) dL_law_1003 (by decide) ?_
        refine g_iinc XU (j := 6) (w := a205 + (7 : Int32)) (lv' := [(6, .int v224), (5, .int v214), (0, .ref b9), (1, .ref (gad (xz x) 0)), (2, .ref (gad (xz x) 122)), (3, .ref (gad (xz x) 162))]) dL_law_2434 rfl (by rw [ii_7]) (by decide) (fun _ => rfl) (fun v228 e229 => ?_)
        have h := bnd_e e229 h
        refine g_goto XU (tgt := 23) dL_law_2437 (by decide) ?_
        refine g_lv [3, 4, 5, 6, 0] rfl ?_
        exact hrec v228 M223 h
      · have h := ite_f hb h
        refine g_iconst XU (v := 0) dL_law_1001 (by decide) ?_
        exact absurd (Option.some.inj h).symm (hno _ _)
  · have h := ite_f hb h
    refine g_iconst XU (v := 0) dL_law_984 (by decide) ?_
    exact absurd (Option.some.inj h).symm (hno _ _)
def bk_L_law_1006_23 (F : Nat) (L9 : Nat) (xs9 : Nat → Int32) (rec : Int32 → GM → Option (GM ⊕ (Int32 × GM))) (a230 : Int32) (M : GM) : Option (GM ⊕ (Int32 × GM)) := grd (gIn (a230 + (1 : Int32)) L9) (grd (gIn (a230 + (2 : Int32)) L9) (bndO (f_L_setLens F (xs9 (a230 + (1 : Int32)).toNatClampNeg) (xs9 (a230 + (2 : Int32)).toNatClampNeg) M) (fun (v234, M235) => bnd v234 (fun v236 => grd (gIn (a230 + (1 : Int32)) L9) (grd (gIn (a230 + (2 : Int32)) L9) (bndO (f_X11_setLens F (xs9 (a230 + (1 : Int32)).toNatClampNeg) (xs9 (a230 + (2 : Int32)).toNatClampNeg) M235) (fun (v241, M242) => bnd v241 (fun v243 => if (f_X11_thrown M242) = v236 then (if v236 = 0 then (if (lg_cmp (gL M242 162 0) v243.toInt64) = 0 then (bnd (a230 + (7 : Int32)) (fun v247 => rec v247 M242)) else (some (Sum.inr ((0 : Int32), M242)))) else (bnd (a230 + (7 : Int32)) (fun v245 => rec v245 M242))) else (some (Sum.inr ((0 : Int32), M242)))))))))))
set_option maxHeartbeats 4000000 in
set_option maxRecDepth 100000 in
theorem bw_L_law_1006_23 {x : GX} (X : GC x cL_law 9 RL 11) {a230 : Int32}   {F : Nat} {b9 L9 : Nat} {xs9 : Nat → Int32} {rec : Int32 → GM → Option (GM ⊕ (Int32 × GM))} {M : GM} {r9 : (GM ⊕ (Int32 × GM))} (XU : GC (xup x) cL_law 9 RL 11) (hroom : xcells x + 1 ≤ (xR x).cells ∧ xslots x + 6 ≤ (xR x).slots) (hsc : gScr x b9 L9 xs9) (hnc : gNcs (xs x)) (hno : ∀ (v8 : Int32) (M8 : GM), r9 ≠ Sum.inr (v8, M8)) (hE : ∀  (M9 : GM), r9 = Sum.inl M9 → WG x M9 [] 2440 []) (hrec : ∀ (a4_9 : Int32) (M9 : GM), rec a4_9 M9 = some r9 → WG (xup x) M9 [(0, .ref b9), (1, .ref (gad (xz x) 0)), (2, .ref (gad (xz x) 122)), (3, .ref (gad (xz x) 162)), (4, .int a4_9)] 23 []) (h : bk_L_law_1006_23 F L9 xs9 rec a230 M = some r9) : WG x M [(0, .ref b9), (1, .ref (gad (xz x) 0)), (2, .ref (gad (xz x) 122)), (3, .ref (gad (xz x) 162)), (4, .int a230)] 1006 [] := by
  unfold bk_L_law_1006_23 at h
  refine g_aload_n X (j := 1) dL_law_1006 rfl rfl ?_
  refine g_aload_n X (j := 0) dL_law_1007 rfl rfl ?_
  refine g_iload X (j := 4) dL_law_1008 rfl ?_
  refine g_iconst X (v := 1) dL_law_1010 (by decide) ?_
  refine g_iadd X dL_law_1011 ?_
  obtain ⟨hg231, h⟩ := grd_e h
  refine g_sld X hsc hg231 dL_law_1012 ?_
  refine g_aload_n X (j := 0) dL_law_1013 rfl rfl ?_
  refine g_iload X (j := 4) dL_law_1014 rfl ?_
  refine g_iconst X (v := 2) dL_law_1016 (by decide) ?_
  refine g_iadd X dL_law_1017 ?_
  obtain ⟨hg232, h⟩ := grd_e h
  refine g_sld X hsc hg232 dL_law_1018 ?_
  refine g_aload_n X (j := 3) dL_law_1019 rfl rfl ?_
  obtain ⟨⟨v234, M235⟩, hc233, h⟩ := bndO_e h
  refine gw_L_146 X (ct_L_setLens X.htr hc233) hnc (by decide) (Nat.le_of_ble_eq_true rfl) hroom dL_law_1020 ?_
  refine g_topi (fun v236 e237 => ?_)
  have h := bnd_e e237 h
  refine g_istore XU (lv' := [(5, .int v236), (0, .ref b9), (1, .ref (gad (xz x) 0)), (2, .ref (gad (xz x) 122)), (3, .ref (gad (xz x) 162)), (4, .int a230)]) dL_law_1023 (by decide) rfl ?_
  refine g_aload_n XU (j := 3) dL_law_1025 rfl rfl ?_
  refine g_aload_n XU (j := 1) dL_law_1026 rfl rfl ?_
  refine g_iload XU (j := 5) dL_law_1027 rfl ?_
  refine g_iconst XU (v := 1) dL_law_1029 (by decide) ?_
  refine g_iadd XU dL_law_1030 ?_
  obtain ⟨hg238, h⟩ := grd_e h
  refine g_sld XU hsc hg238 dL_law_1031 ?_
  refine g_aload_n XU (j := 1) dL_law_1032 rfl rfl ?_
  refine g_iload XU (j := 5) dL_law_1033 rfl ?_
  refine g_iconst XU (v := 2) dL_law_1035 (by decide) ?_
  refine g_iadd XU dL_law_1036 ?_
  obtain ⟨hg239, h⟩ := grd_e h
  refine g_sld XU hsc hg239 dL_law_1037 ?_
  obtain ⟨⟨v241, M242⟩, hc240, h⟩ := bndO_e h
  refine gc_L_148 XU gT_c122 (ct_X11_setLens XU.htr  hc240) (by decide) (Nat.le_of_ble_eq_true rfl) dL_law_1038 ?_
  refine g_topi (fun v243 e244 => ?_)
  have h := bnd_e e244 h
  refine g_istore XU (lv' := [(6, .int v243), (5, .int v236), (0, .ref b9), (1, .ref (gad (xz x) 0)), (2, .ref (gad (xz x) 122)), (3, .ref (gad (xz x) 162)), (4, .int a230)]) dL_law_1041 (by decide) rfl ?_
  refine g_aload_n XU (j := 4) dL_law_1043 rfl rfl ?_
  refine gc_L_116 XU gT_c122 (ct_X11_thrown XU.htr ) (by decide) (Nat.le_of_ble_eq_true rfl) dL_law_1044 ?_
  refine g_iload XU (j := 1) dL_law_1047 rfl ?_
  refine g_icmp_eq XU (tgt := 1054) dL_law_1049 (by decide) (fun hb => ?_) (fun hb => ?_)
  · have h := ite_t hb h
    refine g_iload XU (j := 1) dL_law_1054 rfl ?_
    refine g_if_ne XU (tgt := 1071) dL_law_1056 (by decide) (fun hb => ?_) (fun hb => ?_)
    · have h := ite_f hb h
      refine g_goto XU (tgt := 2434) dL_law_1071 (by decide) ?_
      refine g_iinc XU (j := 6) (w := a230 + (7 : Int32)) (lv' := [(6, .int v243), (5, .int v236), (0, .ref b9), (1, .ref (gad (xz x) 0)), (2, .ref (gad (xz x) 122)), (3, .ref (gad (xz x) 162))]) dL_law_2434 rfl (by rw [ii_7]) (by decide) (fun _ => rfl) (fun v245 e246 => ?_)
      have h := bnd_e e246 h
      refine g_goto XU (tgt := 23) dL_law_2437 (by decide) ?_
      refine g_lv [3, 4, 5, 6, 0] rfl ?_
      exact hrec v245 M242 h
    · have h := ite_t hb h
      refine g_aload_n XU (j := 5) dL_law_1059 rfl rfl ?_
      refine g_iconst XU (v := 0) dL_law_1060 (by decide) ?_
      refine g_lald XU gT_c162 (by decide +kernel) dL_law_1061 ?_
      rw [tn_0]
      refine g_iload XU (j := 0) dL_law_1062 rfl ?_
      refine g_i2l XU dL_law_1064 ?_
      refine g_lcmp XU dL_law_1065 ?_
      refine g_if_eq XU (tgt := 1071) dL_law_1066 (by decide) (fun hb => ?_) (fun hb => ?_)
      · have h := ite_t hb h
        refine g_goto XU (tgt := 2434) dL_law_1071 (by decide) ?_
        refine g_iinc XU (j := 6) (w := a230 + (7 : Int32)) (lv' := [(6, .int v243), (5, .int v236), (0, .ref b9), (1, .ref (gad (xz x) 0)), (2, .ref (gad (xz x) 122)), (3, .ref (gad (xz x) 162))]) dL_law_2434 rfl (by rw [ii_7]) (by decide) (fun _ => rfl) (fun v247 e248 => ?_)
        have h := bnd_e e248 h
        refine g_goto XU (tgt := 23) dL_law_2437 (by decide) ?_
        refine g_lv [3, 4, 5, 6, 0] rfl ?_
        exact hrec v247 M242 h
      · have h := ite_f hb h
        refine g_iconst XU (v := 0) dL_law_1069 (by decide) ?_
        exact absurd (Option.some.inj h).symm (hno _ _)
  · have h := ite_f hb h
    refine g_iconst XU (v := 0) dL_law_1052 (by decide) ?_
    exact absurd (Option.some.inj h).symm (hno _ _)
def bk_L_law_1074_23 (F : Nat) (L9 : Nat) (xs9 : Nat → Int32) (rec : Int32 → GM → Option (GM ⊕ (Int32 × GM))) (a249 : Int32) (M : GM) : Option (GM ⊕ (Int32 × GM)) := grd (gIn (a249 + (1 : Int32)) L9) (bndO (f_L_setBackground F (xs9 (a249 + (1 : Int32)).toNatClampNeg) M) (fun (v252, M253) => bnd v252 (fun v254 => grd (gIn (a249 + (1 : Int32)) L9) (bndO (f_X11_setBackground F (xs9 (a249 + (1 : Int32)).toNatClampNeg) M253) (fun (v258, M259) => bnd v258 (fun v260 => if (f_X11_thrown M259) = v254 then (if v254 = 0 then (if (lg_cmp (gL M259 162 0) v260.toInt64) = 0 then (bnd (a249 + (7 : Int32)) (fun v264 => rec v264 M259)) else (some (Sum.inr ((0 : Int32), M259)))) else (bnd (a249 + (7 : Int32)) (fun v262 => rec v262 M259))) else (some (Sum.inr ((0 : Int32), M259)))))))))
set_option maxHeartbeats 4000000 in
set_option maxRecDepth 100000 in
theorem bw_L_law_1074_23 {x : GX} (X : GC x cL_law 9 RL 11) {a249 : Int32}   {F : Nat} {b9 L9 : Nat} {xs9 : Nat → Int32} {rec : Int32 → GM → Option (GM ⊕ (Int32 × GM))} {M : GM} {r9 : (GM ⊕ (Int32 × GM))} (XU : GC (xup x) cL_law 9 RL 11) (hroom : xcells x + 1 ≤ (xR x).cells ∧ xslots x + 6 ≤ (xR x).slots) (hsc : gScr x b9 L9 xs9) (hnc : gNcs (xs x)) (hno : ∀ (v8 : Int32) (M8 : GM), r9 ≠ Sum.inr (v8, M8)) (hE : ∀  (M9 : GM), r9 = Sum.inl M9 → WG x M9 [] 2440 []) (hrec : ∀ (a4_9 : Int32) (M9 : GM), rec a4_9 M9 = some r9 → WG (xup x) M9 [(0, .ref b9), (1, .ref (gad (xz x) 0)), (2, .ref (gad (xz x) 122)), (3, .ref (gad (xz x) 162)), (4, .int a4_9)] 23 []) (h : bk_L_law_1074_23 F L9 xs9 rec a249 M = some r9) : WG x M [(0, .ref b9), (1, .ref (gad (xz x) 0)), (2, .ref (gad (xz x) 122)), (3, .ref (gad (xz x) 162)), (4, .int a249)] 1074 [] := by
  unfold bk_L_law_1074_23 at h
  refine g_aload_n X (j := 1) dL_law_1074 rfl rfl ?_
  refine g_aload_n X (j := 0) dL_law_1075 rfl rfl ?_
  refine g_iload X (j := 4) dL_law_1076 rfl ?_
  refine g_iconst X (v := 1) dL_law_1078 (by decide) ?_
  refine g_iadd X dL_law_1079 ?_
  obtain ⟨hg250, h⟩ := grd_e h
  refine g_sld X hsc hg250 dL_law_1080 ?_
  refine g_aload_n X (j := 3) dL_law_1081 rfl rfl ?_
  obtain ⟨⟨v252, M253⟩, hc251, h⟩ := bndO_e h
  refine gw_L_149 X (ct_L_setBackground X.htr hc251) hnc (by decide) (Nat.le_of_ble_eq_true rfl) hroom dL_law_1082 ?_
  refine g_topi (fun v254 e255 => ?_)
  have h := bnd_e e255 h
  refine g_istore XU (lv' := [(5, .int v254), (0, .ref b9), (1, .ref (gad (xz x) 0)), (2, .ref (gad (xz x) 122)), (3, .ref (gad (xz x) 162)), (4, .int a249)]) dL_law_1085 (by decide) rfl ?_
  refine g_aload_n XU (j := 3) dL_law_1087 rfl rfl ?_
  refine g_aload_n XU (j := 1) dL_law_1088 rfl rfl ?_
  refine g_iload XU (j := 5) dL_law_1089 rfl ?_
  refine g_iconst XU (v := 1) dL_law_1091 (by decide) ?_
  refine g_iadd XU dL_law_1092 ?_
  obtain ⟨hg256, h⟩ := grd_e h
  refine g_sld XU hsc hg256 dL_law_1093 ?_
  obtain ⟨⟨v258, M259⟩, hc257, h⟩ := bndO_e h
  refine gc_L_152 XU gT_c122 (ct_X11_setBackground XU.htr  hc257) (by decide) (Nat.le_of_ble_eq_true rfl) dL_law_1094 ?_
  refine g_topi (fun v260 e261 => ?_)
  have h := bnd_e e261 h
  refine g_istore XU (lv' := [(6, .int v260), (5, .int v254), (0, .ref b9), (1, .ref (gad (xz x) 0)), (2, .ref (gad (xz x) 122)), (3, .ref (gad (xz x) 162)), (4, .int a249)]) dL_law_1097 (by decide) rfl ?_
  refine g_aload_n XU (j := 4) dL_law_1099 rfl rfl ?_
  refine gc_L_116 XU gT_c122 (ct_X11_thrown XU.htr ) (by decide) (Nat.le_of_ble_eq_true rfl) dL_law_1100 ?_
  refine g_iload XU (j := 1) dL_law_1103 rfl ?_
  refine g_icmp_eq XU (tgt := 1110) dL_law_1105 (by decide) (fun hb => ?_) (fun hb => ?_)
  · have h := ite_t hb h
    refine g_iload XU (j := 1) dL_law_1110 rfl ?_
    refine g_if_ne XU (tgt := 1127) dL_law_1112 (by decide) (fun hb => ?_) (fun hb => ?_)
    · have h := ite_f hb h
      refine g_goto XU (tgt := 2434) dL_law_1127 (by decide) ?_
      refine g_iinc XU (j := 6) (w := a249 + (7 : Int32)) (lv' := [(6, .int v260), (5, .int v254), (0, .ref b9), (1, .ref (gad (xz x) 0)), (2, .ref (gad (xz x) 122)), (3, .ref (gad (xz x) 162))]) dL_law_2434 rfl (by rw [ii_7]) (by decide) (fun _ => rfl) (fun v262 e263 => ?_)
      have h := bnd_e e263 h
      refine g_goto XU (tgt := 23) dL_law_2437 (by decide) ?_
      refine g_lv [3, 4, 5, 6, 0] rfl ?_
      exact hrec v262 M259 h
    · have h := ite_t hb h
      refine g_aload_n XU (j := 5) dL_law_1115 rfl rfl ?_
      refine g_iconst XU (v := 0) dL_law_1116 (by decide) ?_
      refine g_lald XU gT_c162 (by decide +kernel) dL_law_1117 ?_
      rw [tn_0]
      refine g_iload XU (j := 0) dL_law_1118 rfl ?_
      refine g_i2l XU dL_law_1120 ?_
      refine g_lcmp XU dL_law_1121 ?_
      refine g_if_eq XU (tgt := 1127) dL_law_1122 (by decide) (fun hb => ?_) (fun hb => ?_)
      · have h := ite_t hb h
        refine g_goto XU (tgt := 2434) dL_law_1127 (by decide) ?_
        refine g_iinc XU (j := 6) (w := a249 + (7 : Int32)) (lv' := [(6, .int v260), (5, .int v254), (0, .ref b9), (1, .ref (gad (xz x) 0)), (2, .ref (gad (xz x) 122)), (3, .ref (gad (xz x) 162))]) dL_law_2434 rfl (by rw [ii_7]) (by decide) (fun _ => rfl) (fun v264 e265 => ?_)
        have h := bnd_e e265 h
        refine g_goto XU (tgt := 23) dL_law_2437 (by decide) ?_
        refine g_lv [3, 4, 5, 6, 0] rfl ?_
        exact hrec v264 M259 h
      · have h := ite_f hb h
        refine g_iconst XU (v := 0) dL_law_1125 (by decide) ?_
        exact absurd (Option.some.inj h).symm (hno _ _)
  · have h := ite_f hb h
    refine g_iconst XU (v := 0) dL_law_1108 (by decide) ?_
    exact absurd (Option.some.inj h).symm (hno _ _)
def bk_L_law_1130_23 (F : Nat) (L9 : Nat) (xs9 : Nat → Int32) (rec : Int32 → GM → Option (GM ⊕ (Int32 × GM))) (a266 : Int32) (M : GM) : Option (GM ⊕ (Int32 × GM)) := bndO (f_X11_corners F M) (fun (v268, M269) => if (f_X10_corners M) = v268 then (bnd (a266 + (7 : Int32)) (fun v270 => rec v270 M269)) else (some (Sum.inr ((0 : Int32), M269))))
set_option maxHeartbeats 4000000 in
set_option maxRecDepth 100000 in
theorem bw_L_law_1130_23 {x : GX} (X : GC x cL_law 9 RL 11) {a266 : Int32}   {F : Nat} {b9 L9 : Nat} {xs9 : Nat → Int32} {rec : Int32 → GM → Option (GM ⊕ (Int32 × GM))} {M : GM} {r9 : (GM ⊕ (Int32 × GM))} (XU : GC (xup x) cL_law 9 RL 11) (hroom : xcells x + 1 ≤ (xR x).cells ∧ xslots x + 6 ≤ (xR x).slots) (hsc : gScr x b9 L9 xs9) (hnc : gNcs (xs x)) (hno : ∀ (v8 : Int32) (M8 : GM), r9 ≠ Sum.inr (v8, M8)) (hE : ∀  (M9 : GM), r9 = Sum.inl M9 → WG x M9 [] 2440 []) (hrec : ∀ (a4_9 : Int32) (M9 : GM), rec a4_9 M9 = some r9 → WG (xup x) M9 [(0, .ref b9), (1, .ref (gad (xz x) 0)), (2, .ref (gad (xz x) 122)), (3, .ref (gad (xz x) 162)), (4, .int a4_9)] 23 []) (h : bk_L_law_1130_23 F L9 xs9 rec a266 M = some r9) : WG x M [(0, .ref b9), (1, .ref (gad (xz x) 0)), (2, .ref (gad (xz x) 122)), (3, .ref (gad (xz x) 162)), (4, .int a266)] 1130 [] := by
  unfold bk_L_law_1130_23 at h
  refine g_aload_n X (j := 1) dL_law_1130 rfl rfl ?_
  refine gc_L_153 X gT_c0 (ct_X10_corners X.htr ) (by decide) (Nat.le_of_ble_eq_true rfl) dL_law_1131 ?_
  refine g_aload_n X (j := 2) dL_law_1134 rfl rfl ?_
  obtain ⟨⟨v268, M269⟩, hc267, h⟩ := bndO_e h
  refine gc_L_156 X gT_c122 (ct_X11_corners X.htr  hc267) (by decide) (Nat.le_of_ble_eq_true rfl) dL_law_1135 ?_
  refine g_icmp_eq X (tgt := 2434) dL_law_1138 (by decide) (fun hb => ?_) (fun hb => ?_)
  · have h := ite_t hb h
    refine g_iinc X (j := 4) (w := a266 + (7 : Int32)) (lv' := [(0, .ref b9), (1, .ref (gad (xz x) 0)), (2, .ref (gad (xz x) 122)), (3, .ref (gad (xz x) 162))]) dL_law_2434 rfl (by rw [ii_7]) (by decide) (fun _ => rfl) (fun v270 e271 => ?_)
    have h := bnd_e e271 h
    refine g_goto X (tgt := 23) dL_law_2437 (by decide) ?_
    refine g_lv [1, 2, 3, 4, 0] rfl ?_
    refine g_up ?_
    exact hrec v270 M269 h
  · have h := ite_f hb h
    refine g_iconst X (v := 0) dL_law_1141 (by decide) ?_
    exact absurd (Option.some.inj h).symm (hno _ _)
def bk_L_law_1143_23 (F : Nat) (L9 : Nat) (xs9 : Nat → Int32) (rec : Int32 → GM → Option (GM ⊕ (Int32 × GM))) (a272 : Int32) (M : GM) : Option (GM ⊕ (Int32 × GM)) := bndO (f_X11_panes F M) (fun (v274, M275) => if (f_X10_panes M) = v274 then (bnd (a272 + (7 : Int32)) (fun v276 => rec v276 M275)) else (some (Sum.inr ((0 : Int32), M275))))
set_option maxHeartbeats 4000000 in
set_option maxRecDepth 100000 in
theorem bw_L_law_1143_23 {x : GX} (X : GC x cL_law 9 RL 11) {a272 : Int32}   {F : Nat} {b9 L9 : Nat} {xs9 : Nat → Int32} {rec : Int32 → GM → Option (GM ⊕ (Int32 × GM))} {M : GM} {r9 : (GM ⊕ (Int32 × GM))} (XU : GC (xup x) cL_law 9 RL 11) (hroom : xcells x + 1 ≤ (xR x).cells ∧ xslots x + 6 ≤ (xR x).slots) (hsc : gScr x b9 L9 xs9) (hnc : gNcs (xs x)) (hno : ∀ (v8 : Int32) (M8 : GM), r9 ≠ Sum.inr (v8, M8)) (hE : ∀  (M9 : GM), r9 = Sum.inl M9 → WG x M9 [] 2440 []) (hrec : ∀ (a4_9 : Int32) (M9 : GM), rec a4_9 M9 = some r9 → WG (xup x) M9 [(0, .ref b9), (1, .ref (gad (xz x) 0)), (2, .ref (gad (xz x) 122)), (3, .ref (gad (xz x) 162)), (4, .int a4_9)] 23 []) (h : bk_L_law_1143_23 F L9 xs9 rec a272 M = some r9) : WG x M [(0, .ref b9), (1, .ref (gad (xz x) 0)), (2, .ref (gad (xz x) 122)), (3, .ref (gad (xz x) 162)), (4, .int a272)] 1143 [] := by
  unfold bk_L_law_1143_23 at h
  refine g_aload_n X (j := 1) dL_law_1143 rfl rfl ?_
  refine gc_L_157 X gT_c0 (ct_X10_panes X.htr ) (by decide) (Nat.le_of_ble_eq_true rfl) dL_law_1144 ?_
  refine g_aload_n X (j := 2) dL_law_1147 rfl rfl ?_
  obtain ⟨⟨v274, M275⟩, hc273, h⟩ := bndO_e h
  refine gc_L_160 X gT_c122 (ct_X11_panes X.htr  hc273) (by decide) (Nat.le_of_ble_eq_true rfl) dL_law_1148 ?_
  refine g_icmp_eq X (tgt := 2434) dL_law_1151 (by decide) (fun hb => ?_) (fun hb => ?_)
  · have h := ite_t hb h
    refine g_iinc X (j := 4) (w := a272 + (7 : Int32)) (lv' := [(0, .ref b9), (1, .ref (gad (xz x) 0)), (2, .ref (gad (xz x) 122)), (3, .ref (gad (xz x) 162))]) dL_law_2434 rfl (by rw [ii_7]) (by decide) (fun _ => rfl) (fun v276 e277 => ?_)
    have h := bnd_e e277 h
    refine g_goto X (tgt := 23) dL_law_2437 (by decide) ?_
    refine g_lv [1, 2, 3, 4, 0] rfl ?_
    refine g_up ?_
    exact hrec v276 M275 h
  · have h := ite_f hb h
    refine g_iconst X (v := 0) dL_law_1154 (by decide) ?_
    exact absurd (Option.some.inj h).symm (hno _ _)
def bk_L_law_1156_23 (F : Nat) (L9 : Nat) (xs9 : Nat → Int32) (rec : Int32 → GM → Option (GM ⊕ (Int32 × GM))) (a278 : Int32) (M : GM) : Option (GM ⊕ (Int32 × GM)) := grd (gIn (a278 + (1 : Int32)) L9) (grd (gIn (a278 + (2 : Int32)) L9) (bndO (f_L_seen F (xs9 (a278 + (1 : Int32)).toNatClampNeg) (xs9 (a278 + (2 : Int32)).toNatClampNeg) M) (fun (v282, M283) => bnd v282 (fun v284 => grd (gIn (a278 + (1 : Int32)) L9) (grd (gIn (a278 + (2 : Int32)) L9) (bndO (f_X11_seen F (xs9 (a278 + (1 : Int32)).toNatClampNeg) (xs9 (a278 + (2 : Int32)).toNatClampNeg) M283) (fun (v289, M290) => bnd v289 (fun v291 => if (f_X11_thrown M290) = v284 then (if v284 = 0 then (if (lg_cmp (gL M290 162 0) v291.toInt64) = 0 then (bnd (a278 + (7 : Int32)) (fun v295 => rec v295 M290)) else (some (Sum.inr ((0 : Int32), M290)))) else (bnd (a278 + (7 : Int32)) (fun v293 => rec v293 M290))) else (some (Sum.inr ((0 : Int32), M290)))))))))))
set_option maxHeartbeats 4000000 in
set_option maxRecDepth 100000 in
theorem bw_L_law_1156_23 {x : GX} (X : GC x cL_law 9 RL 11) {a278 : Int32}   {F : Nat} {b9 L9 : Nat} {xs9 : Nat → Int32} {rec : Int32 → GM → Option (GM ⊕ (Int32 × GM))} {M : GM} {r9 : (GM ⊕ (Int32 × GM))} (XU : GC (xup x) cL_law 9 RL 11) (hroom : xcells x + 1 ≤ (xR x).cells ∧ xslots x + 6 ≤ (xR x).slots) (hsc : gScr x b9 L9 xs9) (hnc : gNcs (xs x)) (hno : ∀ (v8 : Int32) (M8 : GM), r9 ≠ Sum.inr (v8, M8)) (hE : ∀  (M9 : GM), r9 = Sum.inl M9 → WG x M9 [] 2440 []) (hrec : ∀ (a4_9 : Int32) (M9 : GM), rec a4_9 M9 = some r9 → WG (xup x) M9 [(0, .ref b9), (1, .ref (gad (xz x) 0)), (2, .ref (gad (xz x) 122)), (3, .ref (gad (xz x) 162)), (4, .int a4_9)] 23 []) (h : bk_L_law_1156_23 F L9 xs9 rec a278 M = some r9) : WG x M [(0, .ref b9), (1, .ref (gad (xz x) 0)), (2, .ref (gad (xz x) 122)), (3, .ref (gad (xz x) 162)), (4, .int a278)] 1156 [] := by
  unfold bk_L_law_1156_23 at h
  refine g_aload_n X (j := 1) dL_law_1156 rfl rfl ?_
  refine g_aload_n X (j := 0) dL_law_1157 rfl rfl ?_
  refine g_iload X (j := 4) dL_law_1158 rfl ?_
  refine g_iconst X (v := 1) dL_law_1160 (by decide) ?_
  refine g_iadd X dL_law_1161 ?_
  obtain ⟨hg279, h⟩ := grd_e h
  refine g_sld X hsc hg279 dL_law_1162 ?_
  refine g_aload_n X (j := 0) dL_law_1163 rfl rfl ?_
  refine g_iload X (j := 4) dL_law_1164 rfl ?_
  refine g_iconst X (v := 2) dL_law_1166 (by decide) ?_
  refine g_iadd X dL_law_1167 ?_
  obtain ⟨hg280, h⟩ := grd_e h
  refine g_sld X hsc hg280 dL_law_1168 ?_
  refine g_aload_n X (j := 3) dL_law_1169 rfl rfl ?_
  obtain ⟨⟨v282, M283⟩, hc281, h⟩ := bndO_e h
  refine gw_L_161 X (ct_L_seen X.htr hc281) hnc (by decide) (Nat.le_of_ble_eq_true rfl) hroom dL_law_1170 ?_
  refine g_topi (fun v284 e285 => ?_)
  have h := bnd_e e285 h
  refine g_istore XU (lv' := [(5, .int v284), (0, .ref b9), (1, .ref (gad (xz x) 0)), (2, .ref (gad (xz x) 122)), (3, .ref (gad (xz x) 162)), (4, .int a278)]) dL_law_1173 (by decide) rfl ?_
  refine g_aload_n XU (j := 3) dL_law_1175 rfl rfl ?_
  refine g_aload_n XU (j := 1) dL_law_1176 rfl rfl ?_
  refine g_iload XU (j := 5) dL_law_1177 rfl ?_
  refine g_iconst XU (v := 1) dL_law_1179 (by decide) ?_
  refine g_iadd XU dL_law_1180 ?_
  obtain ⟨hg286, h⟩ := grd_e h
  refine g_sld XU hsc hg286 dL_law_1181 ?_
  refine g_aload_n XU (j := 1) dL_law_1182 rfl rfl ?_
  refine g_iload XU (j := 5) dL_law_1183 rfl ?_
  refine g_iconst XU (v := 2) dL_law_1185 (by decide) ?_
  refine g_iadd XU dL_law_1186 ?_
  obtain ⟨hg287, h⟩ := grd_e h
  refine g_sld XU hsc hg287 dL_law_1187 ?_
  obtain ⟨⟨v289, M290⟩, hc288, h⟩ := bndO_e h
  refine gc_L_163 XU gT_c122 (ct_X11_seen XU.htr  hc288) (by decide) (Nat.le_of_ble_eq_true rfl) dL_law_1188 ?_
  refine g_topi (fun v291 e292 => ?_)
  have h := bnd_e e292 h
  refine g_istore XU (lv' := [(6, .int v291), (5, .int v284), (0, .ref b9), (1, .ref (gad (xz x) 0)), (2, .ref (gad (xz x) 122)), (3, .ref (gad (xz x) 162)), (4, .int a278)]) dL_law_1191 (by decide) rfl ?_
  refine g_aload_n XU (j := 4) dL_law_1193 rfl rfl ?_
  refine gc_L_116 XU gT_c122 (ct_X11_thrown XU.htr ) (by decide) (Nat.le_of_ble_eq_true rfl) dL_law_1194 ?_
  refine g_iload XU (j := 1) dL_law_1197 rfl ?_
  refine g_icmp_eq XU (tgt := 1204) dL_law_1199 (by decide) (fun hb => ?_) (fun hb => ?_)
  · have h := ite_t hb h
    refine g_iload XU (j := 1) dL_law_1204 rfl ?_
    refine g_if_ne XU (tgt := 1221) dL_law_1206 (by decide) (fun hb => ?_) (fun hb => ?_)
    · have h := ite_f hb h
      refine g_goto XU (tgt := 2434) dL_law_1221 (by decide) ?_
      refine g_iinc XU (j := 6) (w := a278 + (7 : Int32)) (lv' := [(6, .int v291), (5, .int v284), (0, .ref b9), (1, .ref (gad (xz x) 0)), (2, .ref (gad (xz x) 122)), (3, .ref (gad (xz x) 162))]) dL_law_2434 rfl (by rw [ii_7]) (by decide) (fun _ => rfl) (fun v293 e294 => ?_)
      have h := bnd_e e294 h
      refine g_goto XU (tgt := 23) dL_law_2437 (by decide) ?_
      refine g_lv [3, 4, 5, 6, 0] rfl ?_
      exact hrec v293 M290 h
    · have h := ite_t hb h
      refine g_aload_n XU (j := 5) dL_law_1209 rfl rfl ?_
      refine g_iconst XU (v := 0) dL_law_1210 (by decide) ?_
      refine g_lald XU gT_c162 (by decide +kernel) dL_law_1211 ?_
      rw [tn_0]
      refine g_iload XU (j := 0) dL_law_1212 rfl ?_
      refine g_i2l XU dL_law_1214 ?_
      refine g_lcmp XU dL_law_1215 ?_
      refine g_if_eq XU (tgt := 1221) dL_law_1216 (by decide) (fun hb => ?_) (fun hb => ?_)
      · have h := ite_t hb h
        refine g_goto XU (tgt := 2434) dL_law_1221 (by decide) ?_
        refine g_iinc XU (j := 6) (w := a278 + (7 : Int32)) (lv' := [(6, .int v291), (5, .int v284), (0, .ref b9), (1, .ref (gad (xz x) 0)), (2, .ref (gad (xz x) 122)), (3, .ref (gad (xz x) 162))]) dL_law_2434 rfl (by rw [ii_7]) (by decide) (fun _ => rfl) (fun v295 e296 => ?_)
        have h := bnd_e e296 h
        refine g_goto XU (tgt := 23) dL_law_2437 (by decide) ?_
        refine g_lv [3, 4, 5, 6, 0] rfl ?_
        exact hrec v295 M290 h
      · have h := ite_f hb h
        refine g_iconst XU (v := 0) dL_law_1219 (by decide) ?_
        exact absurd (Option.some.inj h).symm (hno _ _)
  · have h := ite_f hb h
    refine g_iconst XU (v := 0) dL_law_1202 (by decide) ?_
    exact absurd (Option.some.inj h).symm (hno _ _)
def bk_L_law_1224_23 (F : Nat) (L9 : Nat) (xs9 : Nat → Int32) (rec : Int32 → GM → Option (GM ⊕ (Int32 × GM))) (a297 : Int32) (M : GM) : Option (GM ⊕ (Int32 × GM)) := grd (gIn (a297 + (1 : Int32)) L9) (bndO (f_L_polygonOf F (xs9 (a297 + (1 : Int32)).toNatClampNeg) M) (fun (v300, M301) => bnd v300 (fun v302 => grd (gIn (a297 + (1 : Int32)) L9) (bndO (f_X11_polygonOf F (xs9 (a297 + (1 : Int32)).toNatClampNeg) M301) (fun (v306, M307) => bnd v306 (fun v308 => if (f_X11_thrown M307) = v302 then (if v302 = 0 then (if (lg_cmp (gL M307 162 0) v308.toInt64) = 0 then (bnd (a297 + (7 : Int32)) (fun v312 => rec v312 M307)) else (some (Sum.inr ((0 : Int32), M307)))) else (bnd (a297 + (7 : Int32)) (fun v310 => rec v310 M307))) else (some (Sum.inr ((0 : Int32), M307)))))))))
set_option maxHeartbeats 4000000 in
set_option maxRecDepth 100000 in
theorem bw_L_law_1224_23 {x : GX} (X : GC x cL_law 9 RL 11) {a297 : Int32}   {F : Nat} {b9 L9 : Nat} {xs9 : Nat → Int32} {rec : Int32 → GM → Option (GM ⊕ (Int32 × GM))} {M : GM} {r9 : (GM ⊕ (Int32 × GM))} (XU : GC (xup x) cL_law 9 RL 11) (hroom : xcells x + 1 ≤ (xR x).cells ∧ xslots x + 6 ≤ (xR x).slots) (hsc : gScr x b9 L9 xs9) (hnc : gNcs (xs x)) (hno : ∀ (v8 : Int32) (M8 : GM), r9 ≠ Sum.inr (v8, M8)) (hE : ∀  (M9 : GM), r9 = Sum.inl M9 → WG x M9 [] 2440 []) (hrec : ∀ (a4_9 : Int32) (M9 : GM), rec a4_9 M9 = some r9 → WG (xup x) M9 [(0, .ref b9), (1, .ref (gad (xz x) 0)), (2, .ref (gad (xz x) 122)), (3, .ref (gad (xz x) 162)), (4, .int a4_9)] 23 []) (h : bk_L_law_1224_23 F L9 xs9 rec a297 M = some r9) : WG x M [(0, .ref b9), (1, .ref (gad (xz x) 0)), (2, .ref (gad (xz x) 122)), (3, .ref (gad (xz x) 162)), (4, .int a297)] 1224 [] := by
  unfold bk_L_law_1224_23 at h
  refine g_aload_n X (j := 1) dL_law_1224 rfl rfl ?_
  refine g_aload_n X (j := 0) dL_law_1225 rfl rfl ?_
  refine g_iload X (j := 4) dL_law_1226 rfl ?_
  refine g_iconst X (v := 1) dL_law_1228 (by decide) ?_
  refine g_iadd X dL_law_1229 ?_
  obtain ⟨hg298, h⟩ := grd_e h
  refine g_sld X hsc hg298 dL_law_1230 ?_
  refine g_aload_n X (j := 3) dL_law_1231 rfl rfl ?_
  obtain ⟨⟨v300, M301⟩, hc299, h⟩ := bndO_e h
  refine gw_L_164 X (ct_L_polygonOf X.htr hc299) hnc (by decide) (Nat.le_of_ble_eq_true rfl) hroom dL_law_1232 ?_
  refine g_topi (fun v302 e303 => ?_)
  have h := bnd_e e303 h
  refine g_istore XU (lv' := [(5, .int v302), (0, .ref b9), (1, .ref (gad (xz x) 0)), (2, .ref (gad (xz x) 122)), (3, .ref (gad (xz x) 162)), (4, .int a297)]) dL_law_1235 (by decide) rfl ?_
  refine g_aload_n XU (j := 3) dL_law_1237 rfl rfl ?_
  refine g_aload_n XU (j := 1) dL_law_1238 rfl rfl ?_
  refine g_iload XU (j := 5) dL_law_1239 rfl ?_
  refine g_iconst XU (v := 1) dL_law_1241 (by decide) ?_
  refine g_iadd XU dL_law_1242 ?_
  obtain ⟨hg304, h⟩ := grd_e h
  refine g_sld XU hsc hg304 dL_law_1243 ?_
  obtain ⟨⟨v306, M307⟩, hc305, h⟩ := bndO_e h
  refine gc_L_166 XU gT_c122 (ct_X11_polygonOf XU.htr  hc305) (by decide) (Nat.le_of_ble_eq_true rfl) dL_law_1244 ?_
  refine g_topi (fun v308 e309 => ?_)
  have h := bnd_e e309 h
  refine g_istore XU (lv' := [(6, .int v308), (5, .int v302), (0, .ref b9), (1, .ref (gad (xz x) 0)), (2, .ref (gad (xz x) 122)), (3, .ref (gad (xz x) 162)), (4, .int a297)]) dL_law_1247 (by decide) rfl ?_
  refine g_aload_n XU (j := 4) dL_law_1249 rfl rfl ?_
  refine gc_L_116 XU gT_c122 (ct_X11_thrown XU.htr ) (by decide) (Nat.le_of_ble_eq_true rfl) dL_law_1250 ?_
  refine g_iload XU (j := 1) dL_law_1253 rfl ?_
  refine g_icmp_eq XU (tgt := 1260) dL_law_1255 (by decide) (fun hb => ?_) (fun hb => ?_)
  · have h := ite_t hb h
    refine g_iload XU (j := 1) dL_law_1260 rfl ?_
    refine g_if_ne XU (tgt := 1277) dL_law_1262 (by decide) (fun hb => ?_) (fun hb => ?_)
    · have h := ite_f hb h
      refine g_goto XU (tgt := 2434) dL_law_1277 (by decide) ?_
      refine g_iinc XU (j := 6) (w := a297 + (7 : Int32)) (lv' := [(6, .int v308), (5, .int v302), (0, .ref b9), (1, .ref (gad (xz x) 0)), (2, .ref (gad (xz x) 122)), (3, .ref (gad (xz x) 162))]) dL_law_2434 rfl (by rw [ii_7]) (by decide) (fun _ => rfl) (fun v310 e311 => ?_)
      have h := bnd_e e311 h
      refine g_goto XU (tgt := 23) dL_law_2437 (by decide) ?_
      refine g_lv [3, 4, 5, 6, 0] rfl ?_
      exact hrec v310 M307 h
    · have h := ite_t hb h
      refine g_aload_n XU (j := 5) dL_law_1265 rfl rfl ?_
      refine g_iconst XU (v := 0) dL_law_1266 (by decide) ?_
      refine g_lald XU gT_c162 (by decide +kernel) dL_law_1267 ?_
      rw [tn_0]
      refine g_iload XU (j := 0) dL_law_1268 rfl ?_
      refine g_i2l XU dL_law_1270 ?_
      refine g_lcmp XU dL_law_1271 ?_
      refine g_if_eq XU (tgt := 1277) dL_law_1272 (by decide) (fun hb => ?_) (fun hb => ?_)
      · have h := ite_t hb h
        refine g_goto XU (tgt := 2434) dL_law_1277 (by decide) ?_
        refine g_iinc XU (j := 6) (w := a297 + (7 : Int32)) (lv' := [(6, .int v308), (5, .int v302), (0, .ref b9), (1, .ref (gad (xz x) 0)), (2, .ref (gad (xz x) 122)), (3, .ref (gad (xz x) 162))]) dL_law_2434 rfl (by rw [ii_7]) (by decide) (fun _ => rfl) (fun v312 e313 => ?_)
        have h := bnd_e e313 h
        refine g_goto XU (tgt := 23) dL_law_2437 (by decide) ?_
        refine g_lv [3, 4, 5, 6, 0] rfl ?_
        exact hrec v312 M307 h
      · have h := ite_f hb h
        refine g_iconst XU (v := 0) dL_law_1275 (by decide) ?_
        exact absurd (Option.some.inj h).symm (hno _ _)
  · have h := ite_f hb h
    refine g_iconst XU (v := 0) dL_law_1258 (by decide) ?_
    exact absurd (Option.some.inj h).symm (hno _ _)
def bk_L_law_1280_23 (F : Nat) (L9 : Nat) (xs9 : Nat → Int32) (rec : Int32 → GM → Option (GM ⊕ (Int32 × GM))) (a314 : Int32) (M : GM) : Option (GM ⊕ (Int32 × GM)) := grd (gIn (a314 + (1 : Int32)) L9) (grd (gIn (a314 + (2 : Int32)) L9) (grd (gIn (a314 + (3 : Int32)) L9) (bndO (f_L_cornerOf F (xs9 (a314 + (1 : Int32)).toNatClampNeg) (xs9 (a314 + (2 : Int32)).toNatClampNeg) (xs9 (a314 + (3 : Int32)).toNatClampNeg) M) (fun (v319, M320) => bnd v319 (fun v321 => grd (gIn (a314 + (1 : Int32)) L9) (grd (gIn (a314 + (2 : Int32)) L9) (grd (gIn (a314 + (3 : Int32)) L9) (bndO (f_X11_cornerOf F (xs9 (a314 + (1 : Int32)).toNatClampNeg) (xs9 (a314 + (2 : Int32)).toNatClampNeg) (xs9 (a314 + (3 : Int32)).toNatClampNeg) M320) (fun (v327, M328) => bnd v327 (fun v329 => if (f_X11_thrown M328) = v321 then (if v321 = 0 then (if (lg_cmp (gL M328 162 0) v329.toInt64) = 0 then (bnd (a314 + (7 : Int32)) (fun v333 => rec v333 M328)) else (some (Sum.inr ((0 : Int32), M328)))) else (bnd (a314 + (7 : Int32)) (fun v331 => rec v331 M328))) else (some (Sum.inr ((0 : Int32), M328)))))))))))))
set_option maxHeartbeats 4000000 in
set_option maxRecDepth 100000 in
theorem bw_L_law_1280_23 {x : GX} (X : GC x cL_law 9 RL 11) {a314 : Int32}   {F : Nat} {b9 L9 : Nat} {xs9 : Nat → Int32} {rec : Int32 → GM → Option (GM ⊕ (Int32 × GM))} {M : GM} {r9 : (GM ⊕ (Int32 × GM))} (XU : GC (xup x) cL_law 9 RL 11) (hroom : xcells x + 1 ≤ (xR x).cells ∧ xslots x + 6 ≤ (xR x).slots) (hsc : gScr x b9 L9 xs9) (hnc : gNcs (xs x)) (hno : ∀ (v8 : Int32) (M8 : GM), r9 ≠ Sum.inr (v8, M8)) (hE : ∀  (M9 : GM), r9 = Sum.inl M9 → WG x M9 [] 2440 []) (hrec : ∀ (a4_9 : Int32) (M9 : GM), rec a4_9 M9 = some r9 → WG (xup x) M9 [(0, .ref b9), (1, .ref (gad (xz x) 0)), (2, .ref (gad (xz x) 122)), (3, .ref (gad (xz x) 162)), (4, .int a4_9)] 23 []) (h : bk_L_law_1280_23 F L9 xs9 rec a314 M = some r9) : WG x M [(0, .ref b9), (1, .ref (gad (xz x) 0)), (2, .ref (gad (xz x) 122)), (3, .ref (gad (xz x) 162)), (4, .int a314)] 1280 [] := by
  unfold bk_L_law_1280_23 at h
  refine g_aload_n X (j := 1) dL_law_1280 rfl rfl ?_
  refine g_aload_n X (j := 0) dL_law_1281 rfl rfl ?_
  refine g_iload X (j := 4) dL_law_1282 rfl ?_
  refine g_iconst X (v := 1) dL_law_1284 (by decide) ?_
  refine g_iadd X dL_law_1285 ?_
  obtain ⟨hg315, h⟩ := grd_e h
  refine g_sld X hsc hg315 dL_law_1286 ?_
  refine g_aload_n X (j := 0) dL_law_1287 rfl rfl ?_
  refine g_iload X (j := 4) dL_law_1288 rfl ?_
  refine g_iconst X (v := 2) dL_law_1290 (by decide) ?_
  refine g_iadd X dL_law_1291 ?_
  obtain ⟨hg316, h⟩ := grd_e h
  refine g_sld X hsc hg316 dL_law_1292 ?_
  refine g_aload_n X (j := 0) dL_law_1293 rfl rfl ?_
  refine g_iload X (j := 4) dL_law_1294 rfl ?_
  refine g_iconst X (v := 3) dL_law_1296 (by decide) ?_
  refine g_iadd X dL_law_1297 ?_
  obtain ⟨hg317, h⟩ := grd_e h
  refine g_sld X hsc hg317 dL_law_1298 ?_
  refine g_aload_n X (j := 3) dL_law_1299 rfl rfl ?_
  obtain ⟨⟨v319, M320⟩, hc318, h⟩ := bndO_e h
  refine gw_L_167 X (ct_L_cornerOf X.htr hc318) hnc (by decide) (Nat.le_of_ble_eq_true rfl) hroom dL_law_1300 ?_
  refine g_topi (fun v321 e322 => ?_)
  have h := bnd_e e322 h
  refine g_istore XU (lv' := [(5, .int v321), (0, .ref b9), (1, .ref (gad (xz x) 0)), (2, .ref (gad (xz x) 122)), (3, .ref (gad (xz x) 162)), (4, .int a314)]) dL_law_1303 (by decide) rfl ?_
  refine g_aload_n XU (j := 3) dL_law_1305 rfl rfl ?_
  refine g_aload_n XU (j := 1) dL_law_1306 rfl rfl ?_
  refine g_iload XU (j := 5) dL_law_1307 rfl ?_
  refine g_iconst XU (v := 1) dL_law_1309 (by decide) ?_
  refine g_iadd XU dL_law_1310 ?_
  obtain ⟨hg323, h⟩ := grd_e h
  refine g_sld XU hsc hg323 dL_law_1311 ?_
  refine g_aload_n XU (j := 1) dL_law_1312 rfl rfl ?_
  refine g_iload XU (j := 5) dL_law_1313 rfl ?_
  refine g_iconst XU (v := 2) dL_law_1315 (by decide) ?_
  refine g_iadd XU dL_law_1316 ?_
  obtain ⟨hg324, h⟩ := grd_e h
  refine g_sld XU hsc hg324 dL_law_1317 ?_
  refine g_aload_n XU (j := 1) dL_law_1318 rfl rfl ?_
  refine g_iload XU (j := 5) dL_law_1319 rfl ?_
  refine g_iconst XU (v := 3) dL_law_1321 (by decide) ?_
  refine g_iadd XU dL_law_1322 ?_
  obtain ⟨hg325, h⟩ := grd_e h
  refine g_sld XU hsc hg325 dL_law_1323 ?_
  obtain ⟨⟨v327, M328⟩, hc326, h⟩ := bndO_e h
  refine gc_L_170 XU gT_c122 (ct_X11_cornerOf XU.htr  hc326) (by decide) (Nat.le_of_ble_eq_true rfl) dL_law_1324 ?_
  refine g_topi (fun v329 e330 => ?_)
  have h := bnd_e e330 h
  refine g_istore XU (lv' := [(6, .int v329), (5, .int v321), (0, .ref b9), (1, .ref (gad (xz x) 0)), (2, .ref (gad (xz x) 122)), (3, .ref (gad (xz x) 162)), (4, .int a314)]) dL_law_1327 (by decide) rfl ?_
  refine g_aload_n XU (j := 4) dL_law_1329 rfl rfl ?_
  refine gc_L_116 XU gT_c122 (ct_X11_thrown XU.htr ) (by decide) (Nat.le_of_ble_eq_true rfl) dL_law_1330 ?_
  refine g_iload XU (j := 1) dL_law_1333 rfl ?_
  refine g_icmp_eq XU (tgt := 1340) dL_law_1335 (by decide) (fun hb => ?_) (fun hb => ?_)
  · have h := ite_t hb h
    refine g_iload XU (j := 1) dL_law_1340 rfl ?_
    refine g_if_ne XU (tgt := 1357) dL_law_1342 (by decide) (fun hb => ?_) (fun hb => ?_)
    · have h := ite_f hb h
      refine g_goto XU (tgt := 2434) dL_law_1357 (by decide) ?_
      refine g_iinc XU (j := 6) (w := a314 + (7 : Int32)) (lv' := [(6, .int v329), (5, .int v321), (0, .ref b9), (1, .ref (gad (xz x) 0)), (2, .ref (gad (xz x) 122)), (3, .ref (gad (xz x) 162))]) dL_law_2434 rfl (by rw [ii_7]) (by decide) (fun _ => rfl) (fun v331 e332 => ?_)
      have h := bnd_e e332 h
      refine g_goto XU (tgt := 23) dL_law_2437 (by decide) ?_
      refine g_lv [3, 4, 5, 6, 0] rfl ?_
      exact hrec v331 M328 h
    · have h := ite_t hb h
      refine g_aload_n XU (j := 5) dL_law_1345 rfl rfl ?_
      refine g_iconst XU (v := 0) dL_law_1346 (by decide) ?_
      refine g_lald XU gT_c162 (by decide +kernel) dL_law_1347 ?_
      rw [tn_0]
      refine g_iload XU (j := 0) dL_law_1348 rfl ?_
      refine g_i2l XU dL_law_1350 ?_
      refine g_lcmp XU dL_law_1351 ?_
      refine g_if_eq XU (tgt := 1357) dL_law_1352 (by decide) (fun hb => ?_) (fun hb => ?_)
      · have h := ite_t hb h
        refine g_goto XU (tgt := 2434) dL_law_1357 (by decide) ?_
        refine g_iinc XU (j := 6) (w := a314 + (7 : Int32)) (lv' := [(6, .int v329), (5, .int v321), (0, .ref b9), (1, .ref (gad (xz x) 0)), (2, .ref (gad (xz x) 122)), (3, .ref (gad (xz x) 162))]) dL_law_2434 rfl (by rw [ii_7]) (by decide) (fun _ => rfl) (fun v333 e334 => ?_)
        have h := bnd_e e334 h
        refine g_goto XU (tgt := 23) dL_law_2437 (by decide) ?_
        refine g_lv [3, 4, 5, 6, 0] rfl ?_
        exact hrec v333 M328 h
      · have h := ite_f hb h
        refine g_iconst XU (v := 0) dL_law_1355 (by decide) ?_
        exact absurd (Option.some.inj h).symm (hno _ _)
  · have h := ite_f hb h
    refine g_iconst XU (v := 0) dL_law_1338 (by decide) ?_
    exact absurd (Option.some.inj h).symm (hno _ _)
def bk_L_law_1360_23 (F : Nat) (L9 : Nat) (xs9 : Nat → Int32) (rec : Int32 → GM → Option (GM ⊕ (Int32 × GM))) (a335 : Int32) (M : GM) : Option (GM ⊕ (Int32 × GM)) := grd (gIn (a335 + (1 : Int32)) L9) (grd (gIn (a335 + (2 : Int32)) L9) (grd (gIn (a335 + (3 : Int32)) L9) (bndO (f_L_screenOf F (xs9 (a335 + (1 : Int32)).toNatClampNeg) (xs9 (a335 + (2 : Int32)).toNatClampNeg) (xs9 (a335 + (3 : Int32)).toNatClampNeg) M) (fun (v340, M341) => bnd v340 (fun v342 => grd (gIn (a335 + (1 : Int32)) L9) (grd (gIn (a335 + (2 : Int32)) L9) (grd (gIn (a335 + (3 : Int32)) L9) (bndO (f_X11_screenOf F (xs9 (a335 + (1 : Int32)).toNatClampNeg) (xs9 (a335 + (2 : Int32)).toNatClampNeg) (xs9 (a335 + (3 : Int32)).toNatClampNeg) M341) (fun (v348, M349) => bnd v348 (fun v350 => if (f_X11_thrown M349) = v342 then (if v342 = 0 then (if (lg_cmp (gL M349 162 0) v350.toInt64) = 0 then (bnd (a335 + (7 : Int32)) (fun v354 => rec v354 M349)) else (some (Sum.inr ((0 : Int32), M349)))) else (bnd (a335 + (7 : Int32)) (fun v352 => rec v352 M349))) else (some (Sum.inr ((0 : Int32), M349)))))))))))))
set_option maxHeartbeats 4000000 in
set_option maxRecDepth 100000 in
theorem bw_L_law_1360_23 {x : GX} (X : GC x cL_law 9 RL 11) {a335 : Int32}   {F : Nat} {b9 L9 : Nat} {xs9 : Nat → Int32} {rec : Int32 → GM → Option (GM ⊕ (Int32 × GM))} {M : GM} {r9 : (GM ⊕ (Int32 × GM))} (XU : GC (xup x) cL_law 9 RL 11) (hroom : xcells x + 1 ≤ (xR x).cells ∧ xslots x + 6 ≤ (xR x).slots) (hsc : gScr x b9 L9 xs9) (hnc : gNcs (xs x)) (hno : ∀ (v8 : Int32) (M8 : GM), r9 ≠ Sum.inr (v8, M8)) (hE : ∀  (M9 : GM), r9 = Sum.inl M9 → WG x M9 [] 2440 []) (hrec : ∀ (a4_9 : Int32) (M9 : GM), rec a4_9 M9 = some r9 → WG (xup x) M9 [(0, .ref b9), (1, .ref (gad (xz x) 0)), (2, .ref (gad (xz x) 122)), (3, .ref (gad (xz x) 162)), (4, .int a4_9)] 23 []) (h : bk_L_law_1360_23 F L9 xs9 rec a335 M = some r9) : WG x M [(0, .ref b9), (1, .ref (gad (xz x) 0)), (2, .ref (gad (xz x) 122)), (3, .ref (gad (xz x) 162)), (4, .int a335)] 1360 [] := by
  unfold bk_L_law_1360_23 at h
  refine g_aload_n X (j := 1) dL_law_1360 rfl rfl ?_
  refine g_aload_n X (j := 0) dL_law_1361 rfl rfl ?_
  refine g_iload X (j := 4) dL_law_1362 rfl ?_
  refine g_iconst X (v := 1) dL_law_1364 (by decide) ?_
  refine g_iadd X dL_law_1365 ?_
  obtain ⟨hg336, h⟩ := grd_e h
  refine g_sld X hsc hg336 dL_law_1366 ?_
  refine g_aload_n X (j := 0) dL_law_1367 rfl rfl ?_
  refine g_iload X (j := 4) dL_law_1368 rfl ?_
  refine g_iconst X (v := 2) dL_law_1370 (by decide) ?_
  refine g_iadd X dL_law_1371 ?_
  obtain ⟨hg337, h⟩ := grd_e h
  refine g_sld X hsc hg337 dL_law_1372 ?_
  refine g_aload_n X (j := 0) dL_law_1373 rfl rfl ?_
  refine g_iload X (j := 4) dL_law_1374 rfl ?_
  refine g_iconst X (v := 3) dL_law_1376 (by decide) ?_
  refine g_iadd X dL_law_1377 ?_
  obtain ⟨hg338, h⟩ := grd_e h
  refine g_sld X hsc hg338 dL_law_1378 ?_
  refine g_aload_n X (j := 3) dL_law_1379 rfl rfl ?_
  obtain ⟨⟨v340, M341⟩, hc339, h⟩ := bndO_e h
  refine gw_L_171 X (ct_L_screenOf X.htr hc339) hnc (by decide) (Nat.le_of_ble_eq_true rfl) hroom dL_law_1380 ?_
  refine g_topi (fun v342 e343 => ?_)
  have h := bnd_e e343 h
  refine g_istore XU (lv' := [(5, .int v342), (0, .ref b9), (1, .ref (gad (xz x) 0)), (2, .ref (gad (xz x) 122)), (3, .ref (gad (xz x) 162)), (4, .int a335)]) dL_law_1383 (by decide) rfl ?_
  refine g_aload_n XU (j := 3) dL_law_1385 rfl rfl ?_
  refine g_aload_n XU (j := 1) dL_law_1386 rfl rfl ?_
  refine g_iload XU (j := 5) dL_law_1387 rfl ?_
  refine g_iconst XU (v := 1) dL_law_1389 (by decide) ?_
  refine g_iadd XU dL_law_1390 ?_
  obtain ⟨hg344, h⟩ := grd_e h
  refine g_sld XU hsc hg344 dL_law_1391 ?_
  refine g_aload_n XU (j := 1) dL_law_1392 rfl rfl ?_
  refine g_iload XU (j := 5) dL_law_1393 rfl ?_
  refine g_iconst XU (v := 2) dL_law_1395 (by decide) ?_
  refine g_iadd XU dL_law_1396 ?_
  obtain ⟨hg345, h⟩ := grd_e h
  refine g_sld XU hsc hg345 dL_law_1397 ?_
  refine g_aload_n XU (j := 1) dL_law_1398 rfl rfl ?_
  refine g_iload XU (j := 5) dL_law_1399 rfl ?_
  refine g_iconst XU (v := 3) dL_law_1401 (by decide) ?_
  refine g_iadd XU dL_law_1402 ?_
  obtain ⟨hg346, h⟩ := grd_e h
  refine g_sld XU hsc hg346 dL_law_1403 ?_
  obtain ⟨⟨v348, M349⟩, hc347, h⟩ := bndO_e h
  refine gc_L_173 XU gT_c122 (ct_X11_screenOf XU.htr  hc347) (by decide) (Nat.le_of_ble_eq_true rfl) dL_law_1404 ?_
  refine g_topi (fun v350 e351 => ?_)
  have h := bnd_e e351 h
  refine g_istore XU (lv' := [(6, .int v350), (5, .int v342), (0, .ref b9), (1, .ref (gad (xz x) 0)), (2, .ref (gad (xz x) 122)), (3, .ref (gad (xz x) 162)), (4, .int a335)]) dL_law_1407 (by decide) rfl ?_
  refine g_aload_n XU (j := 4) dL_law_1409 rfl rfl ?_
  refine gc_L_116 XU gT_c122 (ct_X11_thrown XU.htr ) (by decide) (Nat.le_of_ble_eq_true rfl) dL_law_1410 ?_
  refine g_iload XU (j := 1) dL_law_1413 rfl ?_
  refine g_icmp_eq XU (tgt := 1420) dL_law_1415 (by decide) (fun hb => ?_) (fun hb => ?_)
  · have h := ite_t hb h
    refine g_iload XU (j := 1) dL_law_1420 rfl ?_
    refine g_if_ne XU (tgt := 1437) dL_law_1422 (by decide) (fun hb => ?_) (fun hb => ?_)
    · have h := ite_f hb h
      refine g_goto XU (tgt := 2434) dL_law_1437 (by decide) ?_
      refine g_iinc XU (j := 6) (w := a335 + (7 : Int32)) (lv' := [(6, .int v350), (5, .int v342), (0, .ref b9), (1, .ref (gad (xz x) 0)), (2, .ref (gad (xz x) 122)), (3, .ref (gad (xz x) 162))]) dL_law_2434 rfl (by rw [ii_7]) (by decide) (fun _ => rfl) (fun v352 e353 => ?_)
      have h := bnd_e e353 h
      refine g_goto XU (tgt := 23) dL_law_2437 (by decide) ?_
      refine g_lv [3, 4, 5, 6, 0] rfl ?_
      exact hrec v352 M349 h
    · have h := ite_t hb h
      refine g_aload_n XU (j := 5) dL_law_1425 rfl rfl ?_
      refine g_iconst XU (v := 0) dL_law_1426 (by decide) ?_
      refine g_lald XU gT_c162 (by decide +kernel) dL_law_1427 ?_
      rw [tn_0]
      refine g_iload XU (j := 0) dL_law_1428 rfl ?_
      refine g_i2l XU dL_law_1430 ?_
      refine g_lcmp XU dL_law_1431 ?_
      refine g_if_eq XU (tgt := 1437) dL_law_1432 (by decide) (fun hb => ?_) (fun hb => ?_)
      · have h := ite_t hb h
        refine g_goto XU (tgt := 2434) dL_law_1437 (by decide) ?_
        refine g_iinc XU (j := 6) (w := a335 + (7 : Int32)) (lv' := [(6, .int v350), (5, .int v342), (0, .ref b9), (1, .ref (gad (xz x) 0)), (2, .ref (gad (xz x) 122)), (3, .ref (gad (xz x) 162))]) dL_law_2434 rfl (by rw [ii_7]) (by decide) (fun _ => rfl) (fun v354 e355 => ?_)
        have h := bnd_e e355 h
        refine g_goto XU (tgt := 23) dL_law_2437 (by decide) ?_
        refine g_lv [3, 4, 5, 6, 0] rfl ?_
        exact hrec v354 M349 h
      · have h := ite_f hb h
        refine g_iconst XU (v := 0) dL_law_1435 (by decide) ?_
        exact absurd (Option.some.inj h).symm (hno _ _)
  · have h := ite_f hb h
    refine g_iconst XU (v := 0) dL_law_1418 (by decide) ?_
    exact absurd (Option.some.inj h).symm (hno _ _)
def bk_L_law_1440_23 (F : Nat) (L9 : Nat) (xs9 : Nat → Int32) (rec : Int32 → GM → Option (GM ⊕ (Int32 × GM))) (a356 : Int32) (M : GM) : Option (GM ⊕ (Int32 × GM)) := grd (gIn (a356 + (1 : Int32)) L9) (bndO (f_L_piecesOf F (xs9 (a356 + (1 : Int32)).toNatClampNeg) M) (fun (v359, M360) => bnd v359 (fun v361 => grd (gIn (a356 + (1 : Int32)) L9) (bndO (f_X11_piecesOf F (xs9 (a356 + (1 : Int32)).toNatClampNeg) M360) (fun (v365, M366) => bnd v365 (fun v367 => if (f_X11_thrown M366) = v361 then (if v361 = 0 then (if (lg_cmp (gL M366 162 0) v367.toInt64) = 0 then (bnd (a356 + (7 : Int32)) (fun v371 => rec v371 M366)) else (some (Sum.inr ((0 : Int32), M366)))) else (bnd (a356 + (7 : Int32)) (fun v369 => rec v369 M366))) else (some (Sum.inr ((0 : Int32), M366)))))))))
set_option maxHeartbeats 4000000 in
set_option maxRecDepth 100000 in
theorem bw_L_law_1440_23 {x : GX} (X : GC x cL_law 9 RL 11) {a356 : Int32}   {F : Nat} {b9 L9 : Nat} {xs9 : Nat → Int32} {rec : Int32 → GM → Option (GM ⊕ (Int32 × GM))} {M : GM} {r9 : (GM ⊕ (Int32 × GM))} (XU : GC (xup x) cL_law 9 RL 11) (hroom : xcells x + 1 ≤ (xR x).cells ∧ xslots x + 6 ≤ (xR x).slots) (hsc : gScr x b9 L9 xs9) (hnc : gNcs (xs x)) (hno : ∀ (v8 : Int32) (M8 : GM), r9 ≠ Sum.inr (v8, M8)) (hE : ∀  (M9 : GM), r9 = Sum.inl M9 → WG x M9 [] 2440 []) (hrec : ∀ (a4_9 : Int32) (M9 : GM), rec a4_9 M9 = some r9 → WG (xup x) M9 [(0, .ref b9), (1, .ref (gad (xz x) 0)), (2, .ref (gad (xz x) 122)), (3, .ref (gad (xz x) 162)), (4, .int a4_9)] 23 []) (h : bk_L_law_1440_23 F L9 xs9 rec a356 M = some r9) : WG x M [(0, .ref b9), (1, .ref (gad (xz x) 0)), (2, .ref (gad (xz x) 122)), (3, .ref (gad (xz x) 162)), (4, .int a356)] 1440 [] := by
  unfold bk_L_law_1440_23 at h
  refine g_aload_n X (j := 1) dL_law_1440 rfl rfl ?_
  refine g_aload_n X (j := 0) dL_law_1441 rfl rfl ?_
  refine g_iload X (j := 4) dL_law_1442 rfl ?_
  refine g_iconst X (v := 1) dL_law_1444 (by decide) ?_
  refine g_iadd X dL_law_1445 ?_
  obtain ⟨hg357, h⟩ := grd_e h
  refine g_sld X hsc hg357 dL_law_1446 ?_
  refine g_aload_n X (j := 3) dL_law_1447 rfl rfl ?_
  obtain ⟨⟨v359, M360⟩, hc358, h⟩ := bndO_e h
  refine gw_L_174 X (ct_L_piecesOf X.htr hc358) hnc (by decide) (Nat.le_of_ble_eq_true rfl) hroom dL_law_1448 ?_
  refine g_topi (fun v361 e362 => ?_)
  have h := bnd_e e362 h
  refine g_istore XU (lv' := [(5, .int v361), (0, .ref b9), (1, .ref (gad (xz x) 0)), (2, .ref (gad (xz x) 122)), (3, .ref (gad (xz x) 162)), (4, .int a356)]) dL_law_1451 (by decide) rfl ?_
  refine g_aload_n XU (j := 3) dL_law_1453 rfl rfl ?_
  refine g_aload_n XU (j := 1) dL_law_1454 rfl rfl ?_
  refine g_iload XU (j := 5) dL_law_1455 rfl ?_
  refine g_iconst XU (v := 1) dL_law_1457 (by decide) ?_
  refine g_iadd XU dL_law_1458 ?_
  obtain ⟨hg363, h⟩ := grd_e h
  refine g_sld XU hsc hg363 dL_law_1459 ?_
  obtain ⟨⟨v365, M366⟩, hc364, h⟩ := bndO_e h
  refine gc_L_176 XU gT_c122 (ct_X11_piecesOf XU.htr  hc364) (by decide) (Nat.le_of_ble_eq_true rfl) dL_law_1460 ?_
  refine g_topi (fun v367 e368 => ?_)
  have h := bnd_e e368 h
  refine g_istore XU (lv' := [(6, .int v367), (5, .int v361), (0, .ref b9), (1, .ref (gad (xz x) 0)), (2, .ref (gad (xz x) 122)), (3, .ref (gad (xz x) 162)), (4, .int a356)]) dL_law_1463 (by decide) rfl ?_
  refine g_aload_n XU (j := 4) dL_law_1465 rfl rfl ?_
  refine gc_L_116 XU gT_c122 (ct_X11_thrown XU.htr ) (by decide) (Nat.le_of_ble_eq_true rfl) dL_law_1466 ?_
  refine g_iload XU (j := 1) dL_law_1469 rfl ?_
  refine g_icmp_eq XU (tgt := 1476) dL_law_1471 (by decide) (fun hb => ?_) (fun hb => ?_)
  · have h := ite_t hb h
    refine g_iload XU (j := 1) dL_law_1476 rfl ?_
    refine g_if_ne XU (tgt := 1493) dL_law_1478 (by decide) (fun hb => ?_) (fun hb => ?_)
    · have h := ite_f hb h
      refine g_goto XU (tgt := 2434) dL_law_1493 (by decide) ?_
      refine g_iinc XU (j := 6) (w := a356 + (7 : Int32)) (lv' := [(6, .int v367), (5, .int v361), (0, .ref b9), (1, .ref (gad (xz x) 0)), (2, .ref (gad (xz x) 122)), (3, .ref (gad (xz x) 162))]) dL_law_2434 rfl (by rw [ii_7]) (by decide) (fun _ => rfl) (fun v369 e370 => ?_)
      have h := bnd_e e370 h
      refine g_goto XU (tgt := 23) dL_law_2437 (by decide) ?_
      refine g_lv [3, 4, 5, 6, 0] rfl ?_
      exact hrec v369 M366 h
    · have h := ite_t hb h
      refine g_aload_n XU (j := 5) dL_law_1481 rfl rfl ?_
      refine g_iconst XU (v := 0) dL_law_1482 (by decide) ?_
      refine g_lald XU gT_c162 (by decide +kernel) dL_law_1483 ?_
      rw [tn_0]
      refine g_iload XU (j := 0) dL_law_1484 rfl ?_
      refine g_i2l XU dL_law_1486 ?_
      refine g_lcmp XU dL_law_1487 ?_
      refine g_if_eq XU (tgt := 1493) dL_law_1488 (by decide) (fun hb => ?_) (fun hb => ?_)
      · have h := ite_t hb h
        refine g_goto XU (tgt := 2434) dL_law_1493 (by decide) ?_
        refine g_iinc XU (j := 6) (w := a356 + (7 : Int32)) (lv' := [(6, .int v367), (5, .int v361), (0, .ref b9), (1, .ref (gad (xz x) 0)), (2, .ref (gad (xz x) 122)), (3, .ref (gad (xz x) 162))]) dL_law_2434 rfl (by rw [ii_7]) (by decide) (fun _ => rfl) (fun v371 e372 => ?_)
        have h := bnd_e e372 h
        refine g_goto XU (tgt := 23) dL_law_2437 (by decide) ?_
        refine g_lv [3, 4, 5, 6, 0] rfl ?_
        exact hrec v371 M366 h
      · have h := ite_f hb h
        refine g_iconst XU (v := 0) dL_law_1491 (by decide) ?_
        exact absurd (Option.some.inj h).symm (hno _ _)
  · have h := ite_f hb h
    refine g_iconst XU (v := 0) dL_law_1474 (by decide) ?_
    exact absurd (Option.some.inj h).symm (hno _ _)
def bk_L_law_1496_23 (F : Nat) (L9 : Nat) (xs9 : Nat → Int32) (rec : Int32 → GM → Option (GM ⊕ (Int32 × GM))) (a373 : Int32) (M : GM) : Option (GM ⊕ (Int32 × GM)) := grd (gIn (a373 + (1 : Int32)) L9) (bndO (f_L_pointsOf F (xs9 (a373 + (1 : Int32)).toNatClampNeg) M) (fun (v376, M377) => bnd v376 (fun v378 => grd (gIn (a373 + (1 : Int32)) L9) (bndO (f_X11_pointsOf F (xs9 (a373 + (1 : Int32)).toNatClampNeg) M377) (fun (v382, M383) => bnd v382 (fun v384 => if (f_X11_thrown M383) = v378 then (if v378 = 0 then (if (lg_cmp (gL M383 162 0) v384.toInt64) = 0 then (bnd (a373 + (7 : Int32)) (fun v388 => rec v388 M383)) else (some (Sum.inr ((0 : Int32), M383)))) else (bnd (a373 + (7 : Int32)) (fun v386 => rec v386 M383))) else (some (Sum.inr ((0 : Int32), M383)))))))))
set_option maxHeartbeats 4000000 in
set_option maxRecDepth 100000 in
theorem bw_L_law_1496_23 {x : GX} (X : GC x cL_law 9 RL 11) {a373 : Int32}   {F : Nat} {b9 L9 : Nat} {xs9 : Nat → Int32} {rec : Int32 → GM → Option (GM ⊕ (Int32 × GM))} {M : GM} {r9 : (GM ⊕ (Int32 × GM))} (XU : GC (xup x) cL_law 9 RL 11) (hroom : xcells x + 1 ≤ (xR x).cells ∧ xslots x + 6 ≤ (xR x).slots) (hsc : gScr x b9 L9 xs9) (hnc : gNcs (xs x)) (hno : ∀ (v8 : Int32) (M8 : GM), r9 ≠ Sum.inr (v8, M8)) (hE : ∀  (M9 : GM), r9 = Sum.inl M9 → WG x M9 [] 2440 []) (hrec : ∀ (a4_9 : Int32) (M9 : GM), rec a4_9 M9 = some r9 → WG (xup x) M9 [(0, .ref b9), (1, .ref (gad (xz x) 0)), (2, .ref (gad (xz x) 122)), (3, .ref (gad (xz x) 162)), (4, .int a4_9)] 23 []) (h : bk_L_law_1496_23 F L9 xs9 rec a373 M = some r9) : WG x M [(0, .ref b9), (1, .ref (gad (xz x) 0)), (2, .ref (gad (xz x) 122)), (3, .ref (gad (xz x) 162)), (4, .int a373)] 1496 [] := by
  unfold bk_L_law_1496_23 at h
  refine g_aload_n X (j := 1) dL_law_1496 rfl rfl ?_
  refine g_aload_n X (j := 0) dL_law_1497 rfl rfl ?_
  refine g_iload X (j := 4) dL_law_1498 rfl ?_
  refine g_iconst X (v := 1) dL_law_1500 (by decide) ?_
  refine g_iadd X dL_law_1501 ?_
  obtain ⟨hg374, h⟩ := grd_e h
  refine g_sld X hsc hg374 dL_law_1502 ?_
  refine g_aload_n X (j := 3) dL_law_1503 rfl rfl ?_
  obtain ⟨⟨v376, M377⟩, hc375, h⟩ := bndO_e h
  refine gw_L_177 X (ct_L_pointsOf X.htr hc375) hnc (by decide) (Nat.le_of_ble_eq_true rfl) hroom dL_law_1504 ?_
  refine g_topi (fun v378 e379 => ?_)
  have h := bnd_e e379 h
  refine g_istore XU (lv' := [(5, .int v378), (0, .ref b9), (1, .ref (gad (xz x) 0)), (2, .ref (gad (xz x) 122)), (3, .ref (gad (xz x) 162)), (4, .int a373)]) dL_law_1507 (by decide) rfl ?_
  refine g_aload_n XU (j := 3) dL_law_1509 rfl rfl ?_
  refine g_aload_n XU (j := 1) dL_law_1510 rfl rfl ?_
  refine g_iload XU (j := 5) dL_law_1511 rfl ?_
  refine g_iconst XU (v := 1) dL_law_1513 (by decide) ?_
  refine g_iadd XU dL_law_1514 ?_
  obtain ⟨hg380, h⟩ := grd_e h
  refine g_sld XU hsc hg380 dL_law_1515 ?_
  obtain ⟨⟨v382, M383⟩, hc381, h⟩ := bndO_e h
  refine gc_L_179 XU gT_c122 (ct_X11_pointsOf XU.htr  hc381) (by decide) (Nat.le_of_ble_eq_true rfl) dL_law_1516 ?_
  refine g_topi (fun v384 e385 => ?_)
  have h := bnd_e e385 h
  refine g_istore XU (lv' := [(6, .int v384), (5, .int v378), (0, .ref b9), (1, .ref (gad (xz x) 0)), (2, .ref (gad (xz x) 122)), (3, .ref (gad (xz x) 162)), (4, .int a373)]) dL_law_1519 (by decide) rfl ?_
  refine g_aload_n XU (j := 4) dL_law_1521 rfl rfl ?_
  refine gc_L_116 XU gT_c122 (ct_X11_thrown XU.htr ) (by decide) (Nat.le_of_ble_eq_true rfl) dL_law_1522 ?_
  refine g_iload XU (j := 1) dL_law_1525 rfl ?_
  refine g_icmp_eq XU (tgt := 1532) dL_law_1527 (by decide) (fun hb => ?_) (fun hb => ?_)
  · have h := ite_t hb h
    refine g_iload XU (j := 1) dL_law_1532 rfl ?_
    refine g_if_ne XU (tgt := 1549) dL_law_1534 (by decide) (fun hb => ?_) (fun hb => ?_)
    · have h := ite_f hb h
      refine g_goto XU (tgt := 2434) dL_law_1549 (by decide) ?_
      refine g_iinc XU (j := 6) (w := a373 + (7 : Int32)) (lv' := [(6, .int v384), (5, .int v378), (0, .ref b9), (1, .ref (gad (xz x) 0)), (2, .ref (gad (xz x) 122)), (3, .ref (gad (xz x) 162))]) dL_law_2434 rfl (by rw [ii_7]) (by decide) (fun _ => rfl) (fun v386 e387 => ?_)
      have h := bnd_e e387 h
      refine g_goto XU (tgt := 23) dL_law_2437 (by decide) ?_
      refine g_lv [3, 4, 5, 6, 0] rfl ?_
      exact hrec v386 M383 h
    · have h := ite_t hb h
      refine g_aload_n XU (j := 5) dL_law_1537 rfl rfl ?_
      refine g_iconst XU (v := 0) dL_law_1538 (by decide) ?_
      refine g_lald XU gT_c162 (by decide +kernel) dL_law_1539 ?_
      rw [tn_0]
      refine g_iload XU (j := 0) dL_law_1540 rfl ?_
      refine g_i2l XU dL_law_1542 ?_
      refine g_lcmp XU dL_law_1543 ?_
      refine g_if_eq XU (tgt := 1549) dL_law_1544 (by decide) (fun hb => ?_) (fun hb => ?_)
      · have h := ite_t hb h
        refine g_goto XU (tgt := 2434) dL_law_1549 (by decide) ?_
        refine g_iinc XU (j := 6) (w := a373 + (7 : Int32)) (lv' := [(6, .int v384), (5, .int v378), (0, .ref b9), (1, .ref (gad (xz x) 0)), (2, .ref (gad (xz x) 122)), (3, .ref (gad (xz x) 162))]) dL_law_2434 rfl (by rw [ii_7]) (by decide) (fun _ => rfl) (fun v388 e389 => ?_)
        have h := bnd_e e389 h
        refine g_goto XU (tgt := 23) dL_law_2437 (by decide) ?_
        refine g_lv [3, 4, 5, 6, 0] rfl ?_
        exact hrec v388 M383 h
      · have h := ite_f hb h
        refine g_iconst XU (v := 0) dL_law_1547 (by decide) ?_
        exact absurd (Option.some.inj h).symm (hno _ _)
  · have h := ite_f hb h
    refine g_iconst XU (v := 0) dL_law_1530 (by decide) ?_
    exact absurd (Option.some.inj h).symm (hno _ _)
def bk_L_law_1552_23 (F : Nat) (L9 : Nat) (xs9 : Nat → Int32) (rec : Int32 → GM → Option (GM ⊕ (Int32 × GM))) (a390 : Int32) (M : GM) : Option (GM ⊕ (Int32 × GM)) := grd (gIn (a390 + (1 : Int32)) L9) (grd (gIn (a390 + (2 : Int32)) L9) (grd (gIn (a390 + (3 : Int32)) L9) (bndO (f_L_liesIn F (xs9 (a390 + (1 : Int32)).toNatClampNeg) (xs9 (a390 + (2 : Int32)).toNatClampNeg) (xs9 (a390 + (3 : Int32)).toNatClampNeg) M) (fun (v395, M396) => bnd v395 (fun v397 => grd (gIn (a390 + (1 : Int32)) L9) (grd (gIn (a390 + (2 : Int32)) L9) (grd (gIn (a390 + (3 : Int32)) L9) (bndO (f_X11_liesIn F (xs9 (a390 + (1 : Int32)).toNatClampNeg) (xs9 (a390 + (2 : Int32)).toNatClampNeg) (xs9 (a390 + (3 : Int32)).toNatClampNeg) M396) (fun (v403, M404) => bnd v403 (fun v405 => if (f_X11_thrown M404) = v397 then (if v397 = 0 then (if v405 = 0 then (if (lg_cmp (gL M404 162 0) (0 : Int64)) = 0 then (bnd (a390 + (7 : Int32)) (fun v409 => rec v409 M404)) else (some (Sum.inr ((0 : Int32), M404)))) else (if (lg_cmp (gL M404 162 0) (1 : Int64)) = 0 then (bnd (a390 + (7 : Int32)) (fun v411 => rec v411 M404)) else (some (Sum.inr ((0 : Int32), M404))))) else (bnd (a390 + (7 : Int32)) (fun v407 => rec v407 M404))) else (some (Sum.inr ((0 : Int32), M404)))))))))))))
set_option maxHeartbeats 4000000 in
set_option maxRecDepth 100000 in
theorem bw_L_law_1552_23 {x : GX} (X : GC x cL_law 9 RL 11) {a390 : Int32}   {F : Nat} {b9 L9 : Nat} {xs9 : Nat → Int32} {rec : Int32 → GM → Option (GM ⊕ (Int32 × GM))} {M : GM} {r9 : (GM ⊕ (Int32 × GM))} (XU : GC (xup x) cL_law 9 RL 11) (hroom : xcells x + 1 ≤ (xR x).cells ∧ xslots x + 6 ≤ (xR x).slots) (hsc : gScr x b9 L9 xs9) (hnc : gNcs (xs x)) (hno : ∀ (v8 : Int32) (M8 : GM), r9 ≠ Sum.inr (v8, M8)) (hE : ∀  (M9 : GM), r9 = Sum.inl M9 → WG x M9 [] 2440 []) (hrec : ∀ (a4_9 : Int32) (M9 : GM), rec a4_9 M9 = some r9 → WG (xup x) M9 [(0, .ref b9), (1, .ref (gad (xz x) 0)), (2, .ref (gad (xz x) 122)), (3, .ref (gad (xz x) 162)), (4, .int a4_9)] 23 []) (h : bk_L_law_1552_23 F L9 xs9 rec a390 M = some r9) : WG x M [(0, .ref b9), (1, .ref (gad (xz x) 0)), (2, .ref (gad (xz x) 122)), (3, .ref (gad (xz x) 162)), (4, .int a390)] 1552 [] := by
  unfold bk_L_law_1552_23 at h
  refine g_aload_n X (j := 1) dL_law_1552 rfl rfl ?_
  refine g_aload_n X (j := 0) dL_law_1553 rfl rfl ?_
  refine g_iload X (j := 4) dL_law_1554 rfl ?_
  refine g_iconst X (v := 1) dL_law_1556 (by decide) ?_
  refine g_iadd X dL_law_1557 ?_
  obtain ⟨hg391, h⟩ := grd_e h
  refine g_sld X hsc hg391 dL_law_1558 ?_
  refine g_aload_n X (j := 0) dL_law_1559 rfl rfl ?_
  refine g_iload X (j := 4) dL_law_1560 rfl ?_
  refine g_iconst X (v := 2) dL_law_1562 (by decide) ?_
  refine g_iadd X dL_law_1563 ?_
  obtain ⟨hg392, h⟩ := grd_e h
  refine g_sld X hsc hg392 dL_law_1564 ?_
  refine g_aload_n X (j := 0) dL_law_1565 rfl rfl ?_
  refine g_iload X (j := 4) dL_law_1566 rfl ?_
  refine g_iconst X (v := 3) dL_law_1568 (by decide) ?_
  refine g_iadd X dL_law_1569 ?_
  obtain ⟨hg393, h⟩ := grd_e h
  refine g_sld X hsc hg393 dL_law_1570 ?_
  refine g_aload_n X (j := 3) dL_law_1571 rfl rfl ?_
  obtain ⟨⟨v395, M396⟩, hc394, h⟩ := bndO_e h
  refine gw_L_180 X (ct_L_liesIn X.htr hc394) hnc (by decide) (Nat.le_of_ble_eq_true rfl) hroom dL_law_1572 ?_
  refine g_topi (fun v397 e398 => ?_)
  have h := bnd_e e398 h
  refine g_istore XU (lv' := [(5, .int v397), (0, .ref b9), (1, .ref (gad (xz x) 0)), (2, .ref (gad (xz x) 122)), (3, .ref (gad (xz x) 162)), (4, .int a390)]) dL_law_1575 (by decide) rfl ?_
  refine g_aload_n XU (j := 3) dL_law_1577 rfl rfl ?_
  refine g_aload_n XU (j := 1) dL_law_1578 rfl rfl ?_
  refine g_iload XU (j := 5) dL_law_1579 rfl ?_
  refine g_iconst XU (v := 1) dL_law_1581 (by decide) ?_
  refine g_iadd XU dL_law_1582 ?_
  obtain ⟨hg399, h⟩ := grd_e h
  refine g_sld XU hsc hg399 dL_law_1583 ?_
  refine g_aload_n XU (j := 1) dL_law_1584 rfl rfl ?_
  refine g_iload XU (j := 5) dL_law_1585 rfl ?_
  refine g_iconst XU (v := 2) dL_law_1587 (by decide) ?_
  refine g_iadd XU dL_law_1588 ?_
  obtain ⟨hg400, h⟩ := grd_e h
  refine g_sld XU hsc hg400 dL_law_1589 ?_
  refine g_aload_n XU (j := 1) dL_law_1590 rfl rfl ?_
  refine g_iload XU (j := 5) dL_law_1591 rfl ?_
  refine g_iconst XU (v := 3) dL_law_1593 (by decide) ?_
  refine g_iadd XU dL_law_1594 ?_
  obtain ⟨hg401, h⟩ := grd_e h
  refine g_sld XU hsc hg401 dL_law_1595 ?_
  obtain ⟨⟨v403, M404⟩, hc402, h⟩ := bndO_e h
  refine gc_L_182 XU gT_c122 (ct_X11_liesIn XU.htr  hc402) (by decide) (Nat.le_of_ble_eq_true rfl) dL_law_1596 ?_
  refine g_topi (fun v405 e406 => ?_)
  have h := bnd_e e406 h
  refine g_istore XU (lv' := [(6, .int v405), (5, .int v397), (0, .ref b9), (1, .ref (gad (xz x) 0)), (2, .ref (gad (xz x) 122)), (3, .ref (gad (xz x) 162)), (4, .int a390)]) dL_law_1599 (by decide) rfl ?_
  refine g_aload_n XU (j := 4) dL_law_1601 rfl rfl ?_
  refine gc_L_116 XU gT_c122 (ct_X11_thrown XU.htr ) (by decide) (Nat.le_of_ble_eq_true rfl) dL_law_1602 ?_
  refine g_iload XU (j := 1) dL_law_1605 rfl ?_
  refine g_icmp_eq XU (tgt := 1612) dL_law_1607 (by decide) (fun hb => ?_) (fun hb => ?_)
  · have h := ite_t hb h
    refine g_iload XU (j := 1) dL_law_1612 rfl ?_
    refine g_if_ne XU (tgt := 1636) dL_law_1614 (by decide) (fun hb => ?_) (fun hb => ?_)
    · have h := ite_f hb h
      refine g_goto XU (tgt := 2434) dL_law_1636 (by decide) ?_
      refine g_iinc XU (j := 6) (w := a390 + (7 : Int32)) (lv' := [(6, .int v405), (5, .int v397), (0, .ref b9), (1, .ref (gad (xz x) 0)), (2, .ref (gad (xz x) 122)), (3, .ref (gad (xz x) 162))]) dL_law_2434 rfl (by rw [ii_7]) (by decide) (fun _ => rfl) (fun v407 e408 => ?_)
      have h := bnd_e e408 h
      refine g_goto XU (tgt := 23) dL_law_2437 (by decide) ?_
      refine g_lv [3, 4, 5, 6, 0] rfl ?_
      exact hrec v407 M404 h
    · have h := ite_t hb h
      refine g_aload_n XU (j := 5) dL_law_1617 rfl rfl ?_
      refine g_iconst XU (v := 0) dL_law_1618 (by decide) ?_
      refine g_lald XU gT_c162 (by decide +kernel) dL_law_1619 ?_
      rw [tn_0]
      refine g_iload XU (j := 0) dL_law_1620 rfl ?_
      refine g_if_eq XU (tgt := 1629) dL_law_1622 (by decide) (fun hb => ?_) (fun hb => ?_)
      · have h := ite_t hb h
        refine g_lconst XU (v := 0) dL_law_1629 (by decide) ?_
        refine g_lcmp XU dL_law_1630 ?_
        refine g_if_eq XU (tgt := 1636) dL_law_1631 (by decide) (fun hb => ?_) (fun hb => ?_)
        · have h := ite_t hb h
          refine g_goto XU (tgt := 2434) dL_law_1636 (by decide) ?_
          refine g_iinc XU (j := 6) (w := a390 + (7 : Int32)) (lv' := [(6, .int v405), (5, .int v397), (0, .ref b9), (1, .ref (gad (xz x) 0)), (2, .ref (gad (xz x) 122)), (3, .ref (gad (xz x) 162))]) dL_law_2434 rfl (by rw [ii_7]) (by decide) (fun _ => rfl) (fun v409 e410 => ?_)
          have h := bnd_e e410 h
          refine g_goto XU (tgt := 23) dL_law_2437 (by decide) ?_
          refine g_lv [3, 4, 5, 6, 0] rfl ?_
          exact hrec v409 M404 h
        · have h := ite_f hb h
          refine g_iconst XU (v := 0) dL_law_1634 (by decide) ?_
          exact absurd (Option.some.inj h).symm (hno _ _)
      · have h := ite_f hb h
        refine g_lconst XU (v := 1) dL_law_1625 (by decide) ?_
        refine g_goto XU (tgt := 1630) dL_law_1626 (by decide) ?_
        refine g_lcmp XU dL_law_1630 ?_
        refine g_if_eq XU (tgt := 1636) dL_law_1631 (by decide) (fun hb => ?_) (fun hb => ?_)
        · have h := ite_t hb h
          refine g_goto XU (tgt := 2434) dL_law_1636 (by decide) ?_
          refine g_iinc XU (j := 6) (w := a390 + (7 : Int32)) (lv' := [(6, .int v405), (5, .int v397), (0, .ref b9), (1, .ref (gad (xz x) 0)), (2, .ref (gad (xz x) 122)), (3, .ref (gad (xz x) 162))]) dL_law_2434 rfl (by rw [ii_7]) (by decide) (fun _ => rfl) (fun v411 e412 => ?_)
          have h := bnd_e e412 h
          refine g_goto XU (tgt := 23) dL_law_2437 (by decide) ?_
          refine g_lv [3, 4, 5, 6, 0] rfl ?_
          exact hrec v411 M404 h
        · have h := ite_f hb h
          refine g_iconst XU (v := 0) dL_law_1634 (by decide) ?_
          exact absurd (Option.some.inj h).symm (hno _ _)
  · have h := ite_f hb h
    refine g_iconst XU (v := 0) dL_law_1610 (by decide) ?_
    exact absurd (Option.some.inj h).symm (hno _ _)
def bk_L_law_1639_23 (F : Nat) (L9 : Nat) (xs9 : Nat → Int32) (rec : Int32 → GM → Option (GM ⊕ (Int32 × GM))) (a413 : Int32) (M : GM) : Option (GM ⊕ (Int32 × GM)) := grd (gIn (a413 + (1 : Int32)) L9) (grd (gIn (a413 + (2 : Int32)) L9) (grd (gIn (a413 + (3 : Int32)) L9) (bndO (f_L_depthOf F (xs9 (a413 + (1 : Int32)).toNatClampNeg) (xs9 (a413 + (2 : Int32)).toNatClampNeg) (xs9 (a413 + (3 : Int32)).toNatClampNeg) M) (fun (v418, M419) => bnd v418 (fun v420 => grd (gIn (a413 + (1 : Int32)) L9) (grd (gIn (a413 + (2 : Int32)) L9) (grd (gIn (a413 + (3 : Int32)) L9) (bndO (f_X11_depthOf F (xs9 (a413 + (1 : Int32)).toNatClampNeg) (xs9 (a413 + (2 : Int32)).toNatClampNeg) (xs9 (a413 + (3 : Int32)).toNatClampNeg) M419) (fun (v426, M427) => bnd v426 (fun v428 => if (f_X11_thrown M427) = v420 then (if v420 = 0 then (if (lg_cmp (gL M427 162 0) v428.toInt64) = 0 then (bnd (a413 + (7 : Int32)) (fun v432 => rec v432 M427)) else (some (Sum.inr ((0 : Int32), M427)))) else (bnd (a413 + (7 : Int32)) (fun v430 => rec v430 M427))) else (some (Sum.inr ((0 : Int32), M427)))))))))))))
set_option maxHeartbeats 4000000 in
set_option maxRecDepth 100000 in
theorem bw_L_law_1639_23 {x : GX} (X : GC x cL_law 9 RL 11) {a413 : Int32}   {F : Nat} {b9 L9 : Nat} {xs9 : Nat → Int32} {rec : Int32 → GM → Option (GM ⊕ (Int32 × GM))} {M : GM} {r9 : (GM ⊕ (Int32 × GM))} (XU : GC (xup x) cL_law 9 RL 11) (hroom : xcells x + 1 ≤ (xR x).cells ∧ xslots x + 6 ≤ (xR x).slots) (hsc : gScr x b9 L9 xs9) (hnc : gNcs (xs x)) (hno : ∀ (v8 : Int32) (M8 : GM), r9 ≠ Sum.inr (v8, M8)) (hE : ∀  (M9 : GM), r9 = Sum.inl M9 → WG x M9 [] 2440 []) (hrec : ∀ (a4_9 : Int32) (M9 : GM), rec a4_9 M9 = some r9 → WG (xup x) M9 [(0, .ref b9), (1, .ref (gad (xz x) 0)), (2, .ref (gad (xz x) 122)), (3, .ref (gad (xz x) 162)), (4, .int a4_9)] 23 []) (h : bk_L_law_1639_23 F L9 xs9 rec a413 M = some r9) : WG x M [(0, .ref b9), (1, .ref (gad (xz x) 0)), (2, .ref (gad (xz x) 122)), (3, .ref (gad (xz x) 162)), (4, .int a413)] 1639 [] := by
  unfold bk_L_law_1639_23 at h
  refine g_aload_n X (j := 1) dL_law_1639 rfl rfl ?_
  refine g_aload_n X (j := 0) dL_law_1640 rfl rfl ?_
  refine g_iload X (j := 4) dL_law_1641 rfl ?_
  refine g_iconst X (v := 1) dL_law_1643 (by decide) ?_
  refine g_iadd X dL_law_1644 ?_
  obtain ⟨hg414, h⟩ := grd_e h
  refine g_sld X hsc hg414 dL_law_1645 ?_
  refine g_aload_n X (j := 0) dL_law_1646 rfl rfl ?_
  refine g_iload X (j := 4) dL_law_1647 rfl ?_
  refine g_iconst X (v := 2) dL_law_1649 (by decide) ?_
  refine g_iadd X dL_law_1650 ?_
  obtain ⟨hg415, h⟩ := grd_e h
  refine g_sld X hsc hg415 dL_law_1651 ?_
  refine g_aload_n X (j := 0) dL_law_1652 rfl rfl ?_
  refine g_iload X (j := 4) dL_law_1653 rfl ?_
  refine g_iconst X (v := 3) dL_law_1655 (by decide) ?_
  refine g_iadd X dL_law_1656 ?_
  obtain ⟨hg416, h⟩ := grd_e h
  refine g_sld X hsc hg416 dL_law_1657 ?_
  refine g_aload_n X (j := 3) dL_law_1658 rfl rfl ?_
  obtain ⟨⟨v418, M419⟩, hc417, h⟩ := bndO_e h
  refine gw_L_183 X (ct_L_depthOf X.htr hc417) hnc (by decide) (Nat.le_of_ble_eq_true rfl) hroom dL_law_1659 ?_
  refine g_topi (fun v420 e421 => ?_)
  have h := bnd_e e421 h
  refine g_istore XU (lv' := [(5, .int v420), (0, .ref b9), (1, .ref (gad (xz x) 0)), (2, .ref (gad (xz x) 122)), (3, .ref (gad (xz x) 162)), (4, .int a413)]) dL_law_1662 (by decide) rfl ?_
  refine g_aload_n XU (j := 3) dL_law_1664 rfl rfl ?_
  refine g_aload_n XU (j := 1) dL_law_1665 rfl rfl ?_
  refine g_iload XU (j := 5) dL_law_1666 rfl ?_
  refine g_iconst XU (v := 1) dL_law_1668 (by decide) ?_
  refine g_iadd XU dL_law_1669 ?_
  obtain ⟨hg422, h⟩ := grd_e h
  refine g_sld XU hsc hg422 dL_law_1670 ?_
  refine g_aload_n XU (j := 1) dL_law_1671 rfl rfl ?_
  refine g_iload XU (j := 5) dL_law_1672 rfl ?_
  refine g_iconst XU (v := 2) dL_law_1674 (by decide) ?_
  refine g_iadd XU dL_law_1675 ?_
  obtain ⟨hg423, h⟩ := grd_e h
  refine g_sld XU hsc hg423 dL_law_1676 ?_
  refine g_aload_n XU (j := 1) dL_law_1677 rfl rfl ?_
  refine g_iload XU (j := 5) dL_law_1678 rfl ?_
  refine g_iconst XU (v := 3) dL_law_1680 (by decide) ?_
  refine g_iadd XU dL_law_1681 ?_
  obtain ⟨hg424, h⟩ := grd_e h
  refine g_sld XU hsc hg424 dL_law_1682 ?_
  obtain ⟨⟨v426, M427⟩, hc425, h⟩ := bndO_e h
  refine gc_L_185 XU gT_c122 (ct_X11_depthOf XU.htr  hc425) (by decide) (Nat.le_of_ble_eq_true rfl) dL_law_1683 ?_
  refine g_topi (fun v428 e429 => ?_)
  have h := bnd_e e429 h
  refine g_istore XU (lv' := [(6, .int v428), (5, .int v420), (0, .ref b9), (1, .ref (gad (xz x) 0)), (2, .ref (gad (xz x) 122)), (3, .ref (gad (xz x) 162)), (4, .int a413)]) dL_law_1686 (by decide) rfl ?_
  refine g_aload_n XU (j := 4) dL_law_1688 rfl rfl ?_
  refine gc_L_116 XU gT_c122 (ct_X11_thrown XU.htr ) (by decide) (Nat.le_of_ble_eq_true rfl) dL_law_1689 ?_
  refine g_iload XU (j := 1) dL_law_1692 rfl ?_
  refine g_icmp_eq XU (tgt := 1699) dL_law_1694 (by decide) (fun hb => ?_) (fun hb => ?_)
  · have h := ite_t hb h
    refine g_iload XU (j := 1) dL_law_1699 rfl ?_
    refine g_if_ne XU (tgt := 1716) dL_law_1701 (by decide) (fun hb => ?_) (fun hb => ?_)
    · have h := ite_f hb h
      refine g_goto XU (tgt := 2434) dL_law_1716 (by decide) ?_
      refine g_iinc XU (j := 6) (w := a413 + (7 : Int32)) (lv' := [(6, .int v428), (5, .int v420), (0, .ref b9), (1, .ref (gad (xz x) 0)), (2, .ref (gad (xz x) 122)), (3, .ref (gad (xz x) 162))]) dL_law_2434 rfl (by rw [ii_7]) (by decide) (fun _ => rfl) (fun v430 e431 => ?_)
      have h := bnd_e e431 h
      refine g_goto XU (tgt := 23) dL_law_2437 (by decide) ?_
      refine g_lv [3, 4, 5, 6, 0] rfl ?_
      exact hrec v430 M427 h
    · have h := ite_t hb h
      refine g_aload_n XU (j := 5) dL_law_1704 rfl rfl ?_
      refine g_iconst XU (v := 0) dL_law_1705 (by decide) ?_
      refine g_lald XU gT_c162 (by decide +kernel) dL_law_1706 ?_
      rw [tn_0]
      refine g_iload XU (j := 0) dL_law_1707 rfl ?_
      refine g_i2l XU dL_law_1709 ?_
      refine g_lcmp XU dL_law_1710 ?_
      refine g_if_eq XU (tgt := 1716) dL_law_1711 (by decide) (fun hb => ?_) (fun hb => ?_)
      · have h := ite_t hb h
        refine g_goto XU (tgt := 2434) dL_law_1716 (by decide) ?_
        refine g_iinc XU (j := 6) (w := a413 + (7 : Int32)) (lv' := [(6, .int v428), (5, .int v420), (0, .ref b9), (1, .ref (gad (xz x) 0)), (2, .ref (gad (xz x) 122)), (3, .ref (gad (xz x) 162))]) dL_law_2434 rfl (by rw [ii_7]) (by decide) (fun _ => rfl) (fun v432 e433 => ?_)
        have h := bnd_e e433 h
        refine g_goto XU (tgt := 23) dL_law_2437 (by decide) ?_
        refine g_lv [3, 4, 5, 6, 0] rfl ?_
        exact hrec v432 M427 h
      · have h := ite_f hb h
        refine g_iconst XU (v := 0) dL_law_1714 (by decide) ?_
        exact absurd (Option.some.inj h).symm (hno _ _)
  · have h := ite_f hb h
    refine g_iconst XU (v := 0) dL_law_1697 (by decide) ?_
    exact absurd (Option.some.inj h).symm (hno _ _)
def bk_L_law_1719_23 (F : Nat) (L9 : Nat) (xs9 : Nat → Int32) (rec : Int32 → GM → Option (GM ⊕ (Int32 × GM))) (a434 : Int32) (M : GM) : Option (GM ⊕ (Int32 × GM)) := grd (gIn (a434 + (1 : Int32)) L9) (grd (gIn (a434 + (2 : Int32)) L9) (grd (gIn (a434 + (3 : Int32)) L9) (bndO (f_L_colourOf F (xs9 (a434 + (1 : Int32)).toNatClampNeg) (xs9 (a434 + (2 : Int32)).toNatClampNeg) (xs9 (a434 + (3 : Int32)).toNatClampNeg) M) (fun (v439, M440) => bnd v439 (fun v441 => grd (gIn (a434 + (1 : Int32)) L9) (grd (gIn (a434 + (2 : Int32)) L9) (grd (gIn (a434 + (3 : Int32)) L9) (bndO (f_X11_colourOf F (xs9 (a434 + (1 : Int32)).toNatClampNeg) (xs9 (a434 + (2 : Int32)).toNatClampNeg) (xs9 (a434 + (3 : Int32)).toNatClampNeg) M440) (fun (v447, M448) => bnd v447 (fun v449 => if (f_X11_thrown M448) = v441 then (if v441 = 0 then (if (lg_cmp (gL M448 162 0) v449.toInt64) = 0 then (bnd (a434 + (7 : Int32)) (fun v453 => rec v453 M448)) else (some (Sum.inr ((0 : Int32), M448)))) else (bnd (a434 + (7 : Int32)) (fun v451 => rec v451 M448))) else (some (Sum.inr ((0 : Int32), M448)))))))))))))
set_option maxHeartbeats 4000000 in
set_option maxRecDepth 100000 in
theorem bw_L_law_1719_23 {x : GX} (X : GC x cL_law 9 RL 11) {a434 : Int32}   {F : Nat} {b9 L9 : Nat} {xs9 : Nat → Int32} {rec : Int32 → GM → Option (GM ⊕ (Int32 × GM))} {M : GM} {r9 : (GM ⊕ (Int32 × GM))} (XU : GC (xup x) cL_law 9 RL 11) (hroom : xcells x + 1 ≤ (xR x).cells ∧ xslots x + 6 ≤ (xR x).slots) (hsc : gScr x b9 L9 xs9) (hnc : gNcs (xs x)) (hno : ∀ (v8 : Int32) (M8 : GM), r9 ≠ Sum.inr (v8, M8)) (hE : ∀  (M9 : GM), r9 = Sum.inl M9 → WG x M9 [] 2440 []) (hrec : ∀ (a4_9 : Int32) (M9 : GM), rec a4_9 M9 = some r9 → WG (xup x) M9 [(0, .ref b9), (1, .ref (gad (xz x) 0)), (2, .ref (gad (xz x) 122)), (3, .ref (gad (xz x) 162)), (4, .int a4_9)] 23 []) (h : bk_L_law_1719_23 F L9 xs9 rec a434 M = some r9) : WG x M [(0, .ref b9), (1, .ref (gad (xz x) 0)), (2, .ref (gad (xz x) 122)), (3, .ref (gad (xz x) 162)), (4, .int a434)] 1719 [] := by
  unfold bk_L_law_1719_23 at h
  refine g_aload_n X (j := 1) dL_law_1719 rfl rfl ?_
  refine g_aload_n X (j := 0) dL_law_1720 rfl rfl ?_
  refine g_iload X (j := 4) dL_law_1721 rfl ?_
  refine g_iconst X (v := 1) dL_law_1723 (by decide) ?_
  refine g_iadd X dL_law_1724 ?_
  obtain ⟨hg435, h⟩ := grd_e h
  refine g_sld X hsc hg435 dL_law_1725 ?_
  refine g_aload_n X (j := 0) dL_law_1726 rfl rfl ?_
  refine g_iload X (j := 4) dL_law_1727 rfl ?_
  refine g_iconst X (v := 2) dL_law_1729 (by decide) ?_
  refine g_iadd X dL_law_1730 ?_
  obtain ⟨hg436, h⟩ := grd_e h
  refine g_sld X hsc hg436 dL_law_1731 ?_
  refine g_aload_n X (j := 0) dL_law_1732 rfl rfl ?_
  refine g_iload X (j := 4) dL_law_1733 rfl ?_
  refine g_iconst X (v := 3) dL_law_1735 (by decide) ?_
  refine g_iadd X dL_law_1736 ?_
  obtain ⟨hg437, h⟩ := grd_e h
  refine g_sld X hsc hg437 dL_law_1737 ?_
  refine g_aload_n X (j := 3) dL_law_1738 rfl rfl ?_
  obtain ⟨⟨v439, M440⟩, hc438, h⟩ := bndO_e h
  refine gw_L_186 X (ct_L_colourOf X.htr hc438) hnc (by decide) (Nat.le_of_ble_eq_true rfl) hroom dL_law_1739 ?_
  refine g_topi (fun v441 e442 => ?_)
  have h := bnd_e e442 h
  refine g_istore XU (lv' := [(5, .int v441), (0, .ref b9), (1, .ref (gad (xz x) 0)), (2, .ref (gad (xz x) 122)), (3, .ref (gad (xz x) 162)), (4, .int a434)]) dL_law_1742 (by decide) rfl ?_
  refine g_aload_n XU (j := 3) dL_law_1744 rfl rfl ?_
  refine g_aload_n XU (j := 1) dL_law_1745 rfl rfl ?_
  refine g_iload XU (j := 5) dL_law_1746 rfl ?_
  refine g_iconst XU (v := 1) dL_law_1748 (by decide) ?_
  refine g_iadd XU dL_law_1749 ?_
  obtain ⟨hg443, h⟩ := grd_e h
  refine g_sld XU hsc hg443 dL_law_1750 ?_
  refine g_aload_n XU (j := 1) dL_law_1751 rfl rfl ?_
  refine g_iload XU (j := 5) dL_law_1752 rfl ?_
  refine g_iconst XU (v := 2) dL_law_1754 (by decide) ?_
  refine g_iadd XU dL_law_1755 ?_
  obtain ⟨hg444, h⟩ := grd_e h
  refine g_sld XU hsc hg444 dL_law_1756 ?_
  refine g_aload_n XU (j := 1) dL_law_1757 rfl rfl ?_
  refine g_iload XU (j := 5) dL_law_1758 rfl ?_
  refine g_iconst XU (v := 3) dL_law_1760 (by decide) ?_
  refine g_iadd XU dL_law_1761 ?_
  obtain ⟨hg445, h⟩ := grd_e h
  refine g_sld XU hsc hg445 dL_law_1762 ?_
  obtain ⟨⟨v447, M448⟩, hc446, h⟩ := bndO_e h
  refine gc_L_188 XU gT_c122 (ct_X11_colourOf XU.htr  hc446) (by decide) (Nat.le_of_ble_eq_true rfl) dL_law_1763 ?_
  refine g_topi (fun v449 e450 => ?_)
  have h := bnd_e e450 h
  refine g_istore XU (lv' := [(6, .int v449), (5, .int v441), (0, .ref b9), (1, .ref (gad (xz x) 0)), (2, .ref (gad (xz x) 122)), (3, .ref (gad (xz x) 162)), (4, .int a434)]) dL_law_1766 (by decide) rfl ?_
  refine g_aload_n XU (j := 4) dL_law_1768 rfl rfl ?_
  refine gc_L_116 XU gT_c122 (ct_X11_thrown XU.htr ) (by decide) (Nat.le_of_ble_eq_true rfl) dL_law_1769 ?_
  refine g_iload XU (j := 1) dL_law_1772 rfl ?_
  refine g_icmp_eq XU (tgt := 1779) dL_law_1774 (by decide) (fun hb => ?_) (fun hb => ?_)
  · have h := ite_t hb h
    refine g_iload XU (j := 1) dL_law_1779 rfl ?_
    refine g_if_ne XU (tgt := 1796) dL_law_1781 (by decide) (fun hb => ?_) (fun hb => ?_)
    · have h := ite_f hb h
      refine g_goto XU (tgt := 2434) dL_law_1796 (by decide) ?_
      refine g_iinc XU (j := 6) (w := a434 + (7 : Int32)) (lv' := [(6, .int v449), (5, .int v441), (0, .ref b9), (1, .ref (gad (xz x) 0)), (2, .ref (gad (xz x) 122)), (3, .ref (gad (xz x) 162))]) dL_law_2434 rfl (by rw [ii_7]) (by decide) (fun _ => rfl) (fun v451 e452 => ?_)
      have h := bnd_e e452 h
      refine g_goto XU (tgt := 23) dL_law_2437 (by decide) ?_
      refine g_lv [3, 4, 5, 6, 0] rfl ?_
      exact hrec v451 M448 h
    · have h := ite_t hb h
      refine g_aload_n XU (j := 5) dL_law_1784 rfl rfl ?_
      refine g_iconst XU (v := 0) dL_law_1785 (by decide) ?_
      refine g_lald XU gT_c162 (by decide +kernel) dL_law_1786 ?_
      rw [tn_0]
      refine g_iload XU (j := 0) dL_law_1787 rfl ?_
      refine g_i2l XU dL_law_1789 ?_
      refine g_lcmp XU dL_law_1790 ?_
      refine g_if_eq XU (tgt := 1796) dL_law_1791 (by decide) (fun hb => ?_) (fun hb => ?_)
      · have h := ite_t hb h
        refine g_goto XU (tgt := 2434) dL_law_1796 (by decide) ?_
        refine g_iinc XU (j := 6) (w := a434 + (7 : Int32)) (lv' := [(6, .int v449), (5, .int v441), (0, .ref b9), (1, .ref (gad (xz x) 0)), (2, .ref (gad (xz x) 122)), (3, .ref (gad (xz x) 162))]) dL_law_2434 rfl (by rw [ii_7]) (by decide) (fun _ => rfl) (fun v453 e454 => ?_)
        have h := bnd_e e454 h
        refine g_goto XU (tgt := 23) dL_law_2437 (by decide) ?_
        refine g_lv [3, 4, 5, 6, 0] rfl ?_
        exact hrec v453 M448 h
      · have h := ite_f hb h
        refine g_iconst XU (v := 0) dL_law_1794 (by decide) ?_
        exact absurd (Option.some.inj h).symm (hno _ _)
  · have h := ite_f hb h
    refine g_iconst XU (v := 0) dL_law_1777 (by decide) ?_
    exact absurd (Option.some.inj h).symm (hno _ _)
def bk_L_law_1799_23 (F : Nat) (L9 : Nat) (xs9 : Nat → Int32) (rec : Int32 → GM → Option (GM ⊕ (Int32 × GM))) (a455 : Int32) (M : GM) : Option (GM ⊕ (Int32 × GM)) := bndO (f_X10_clear F M) (fun (v457, M458) => bndO (f_X11_clear F M458) (fun (v460, M461) => if v457 = v460 then (bnd (a455 + (7 : Int32)) (fun v462 => rec v462 M461)) else (some (Sum.inr ((0 : Int32), M461)))))
set_option maxHeartbeats 4000000 in
set_option maxRecDepth 100000 in
theorem bw_L_law_1799_23 {x : GX} (X : GC x cL_law 9 RL 11) {a455 : Int32}   {F : Nat} {b9 L9 : Nat} {xs9 : Nat → Int32} {rec : Int32 → GM → Option (GM ⊕ (Int32 × GM))} {M : GM} {r9 : (GM ⊕ (Int32 × GM))} (XU : GC (xup x) cL_law 9 RL 11) (hroom : xcells x + 1 ≤ (xR x).cells ∧ xslots x + 6 ≤ (xR x).slots) (hsc : gScr x b9 L9 xs9) (hnc : gNcs (xs x)) (hno : ∀ (v8 : Int32) (M8 : GM), r9 ≠ Sum.inr (v8, M8)) (hE : ∀  (M9 : GM), r9 = Sum.inl M9 → WG x M9 [] 2440 []) (hrec : ∀ (a4_9 : Int32) (M9 : GM), rec a4_9 M9 = some r9 → WG (xup x) M9 [(0, .ref b9), (1, .ref (gad (xz x) 0)), (2, .ref (gad (xz x) 122)), (3, .ref (gad (xz x) 162)), (4, .int a4_9)] 23 []) (h : bk_L_law_1799_23 F L9 xs9 rec a455 M = some r9) : WG x M [(0, .ref b9), (1, .ref (gad (xz x) 0)), (2, .ref (gad (xz x) 122)), (3, .ref (gad (xz x) 162)), (4, .int a455)] 1799 [] := by
  unfold bk_L_law_1799_23 at h
  refine g_aload_n X (j := 1) dL_law_1799 rfl rfl ?_
  obtain ⟨⟨v457, M458⟩, hc456, h⟩ := bndO_e h
  refine gc_L_189 X gT_c0 (ct_X10_clear X.htr  hc456) (by decide) (Nat.le_of_ble_eq_true rfl) dL_law_1800 ?_
  refine g_aload_n X (j := 2) dL_law_1803 rfl rfl ?_
  obtain ⟨⟨v460, M461⟩, hc459, h⟩ := bndO_e h
  refine gc_L_192 X gT_c122 (ct_X11_clear X.htr  hc459) (by decide) (Nat.le_of_ble_eq_true rfl) dL_law_1804 ?_
  refine g_icmp_eq X (tgt := 2434) dL_law_1807 (by decide) (fun hb => ?_) (fun hb => ?_)
  · have h := ite_t hb h
    refine g_iinc X (j := 4) (w := a455 + (7 : Int32)) (lv' := [(0, .ref b9), (1, .ref (gad (xz x) 0)), (2, .ref (gad (xz x) 122)), (3, .ref (gad (xz x) 162))]) dL_law_2434 rfl (by rw [ii_7]) (by decide) (fun _ => rfl) (fun v462 e463 => ?_)
    have h := bnd_e e463 h
    refine g_goto X (tgt := 23) dL_law_2437 (by decide) ?_
    refine g_lv [1, 2, 3, 4, 0] rfl ?_
    refine g_up ?_
    exact hrec v462 M461 h
  · have h := ite_f hb h
    refine g_iconst X (v := 0) dL_law_1810 (by decide) ?_
    exact absurd (Option.some.inj h).symm (hno _ _)
def bk_L_law_1812_23 (F : Nat) (L9 : Nat) (xs9 : Nat → Int32) (rec : Int32 → GM → Option (GM ⊕ (Int32 × GM))) (a464 : Int32) (M : GM) : Option (GM ⊕ (Int32 × GM)) := bndO (f_X10_paint F M) (fun (v466, M467) => bndO (f_X11_paint F M467) (fun (v469, M470) => if v466 = v469 then (bnd (a464 + (7 : Int32)) (fun v471 => rec v471 M470)) else (some (Sum.inr ((0 : Int32), M470)))))
set_option maxHeartbeats 4000000 in
set_option maxRecDepth 100000 in
theorem bw_L_law_1812_23 {x : GX} (X : GC x cL_law 9 RL 11) {a464 : Int32}   {F : Nat} {b9 L9 : Nat} {xs9 : Nat → Int32} {rec : Int32 → GM → Option (GM ⊕ (Int32 × GM))} {M : GM} {r9 : (GM ⊕ (Int32 × GM))} (XU : GC (xup x) cL_law 9 RL 11) (hroom : xcells x + 1 ≤ (xR x).cells ∧ xslots x + 6 ≤ (xR x).slots) (hsc : gScr x b9 L9 xs9) (hnc : gNcs (xs x)) (hno : ∀ (v8 : Int32) (M8 : GM), r9 ≠ Sum.inr (v8, M8)) (hE : ∀  (M9 : GM), r9 = Sum.inl M9 → WG x M9 [] 2440 []) (hrec : ∀ (a4_9 : Int32) (M9 : GM), rec a4_9 M9 = some r9 → WG (xup x) M9 [(0, .ref b9), (1, .ref (gad (xz x) 0)), (2, .ref (gad (xz x) 122)), (3, .ref (gad (xz x) 162)), (4, .int a4_9)] 23 []) (h : bk_L_law_1812_23 F L9 xs9 rec a464 M = some r9) : WG x M [(0, .ref b9), (1, .ref (gad (xz x) 0)), (2, .ref (gad (xz x) 122)), (3, .ref (gad (xz x) 162)), (4, .int a464)] 1812 [] := by
  unfold bk_L_law_1812_23 at h
  refine g_aload_n X (j := 1) dL_law_1812 rfl rfl ?_
  obtain ⟨⟨v466, M467⟩, hc465, h⟩ := bndO_e h
  refine gc_L_193 X gT_c0 (ct_X10_paint X.htr  hc465) (by decide) (Nat.le_of_ble_eq_true rfl) dL_law_1813 ?_
  refine g_aload_n X (j := 2) dL_law_1816 rfl rfl ?_
  obtain ⟨⟨v469, M470⟩, hc468, h⟩ := bndO_e h
  refine gc_L_196 X gT_c122 (ct_X11_paint X.htr  hc468) (by decide) (Nat.le_of_ble_eq_true rfl) dL_law_1817 ?_
  refine g_icmp_eq X (tgt := 2434) dL_law_1820 (by decide) (fun hb => ?_) (fun hb => ?_)
  · have h := ite_t hb h
    refine g_iinc X (j := 4) (w := a464 + (7 : Int32)) (lv' := [(0, .ref b9), (1, .ref (gad (xz x) 0)), (2, .ref (gad (xz x) 122)), (3, .ref (gad (xz x) 162))]) dL_law_2434 rfl (by rw [ii_7]) (by decide) (fun _ => rfl) (fun v471 e472 => ?_)
    have h := bnd_e e472 h
    refine g_goto X (tgt := 23) dL_law_2437 (by decide) ?_
    refine g_lv [1, 2, 3, 4, 0] rfl ?_
    refine g_up ?_
    exact hrec v471 M470 h
  · have h := ite_f hb h
    refine g_iconst X (v := 0) dL_law_1823 (by decide) ?_
    exact absurd (Option.some.inj h).symm (hno _ _)
def bk_L_law_1825_23 (F : Nat) (L9 : Nat) (xs9 : Nat → Int32) (rec : Int32 → GM → Option (GM ⊕ (Int32 × GM))) (a473 : Int32) (M : GM) : Option (GM ⊕ (Int32 × GM)) := bndO (f_X10_stale F M) (fun (v475, M476) => bndO (f_X11_stale F M476) (fun (v478, M479) => if v475 = v478 then (bnd (a473 + (7 : Int32)) (fun v480 => rec v480 M479)) else (some (Sum.inr ((0 : Int32), M479)))))
set_option maxHeartbeats 4000000 in
set_option maxRecDepth 100000 in
theorem bw_L_law_1825_23 {x : GX} (X : GC x cL_law 9 RL 11) {a473 : Int32}   {F : Nat} {b9 L9 : Nat} {xs9 : Nat → Int32} {rec : Int32 → GM → Option (GM ⊕ (Int32 × GM))} {M : GM} {r9 : (GM ⊕ (Int32 × GM))} (XU : GC (xup x) cL_law 9 RL 11) (hroom : xcells x + 1 ≤ (xR x).cells ∧ xslots x + 6 ≤ (xR x).slots) (hsc : gScr x b9 L9 xs9) (hnc : gNcs (xs x)) (hno : ∀ (v8 : Int32) (M8 : GM), r9 ≠ Sum.inr (v8, M8)) (hE : ∀  (M9 : GM), r9 = Sum.inl M9 → WG x M9 [] 2440 []) (hrec : ∀ (a4_9 : Int32) (M9 : GM), rec a4_9 M9 = some r9 → WG (xup x) M9 [(0, .ref b9), (1, .ref (gad (xz x) 0)), (2, .ref (gad (xz x) 122)), (3, .ref (gad (xz x) 162)), (4, .int a4_9)] 23 []) (h : bk_L_law_1825_23 F L9 xs9 rec a473 M = some r9) : WG x M [(0, .ref b9), (1, .ref (gad (xz x) 0)), (2, .ref (gad (xz x) 122)), (3, .ref (gad (xz x) 162)), (4, .int a473)] 1825 [] := by
  unfold bk_L_law_1825_23 at h
  refine g_aload_n X (j := 1) dL_law_1825 rfl rfl ?_
  obtain ⟨⟨v475, M476⟩, hc474, h⟩ := bndO_e h
  refine gc_L_197 X gT_c0 (ct_X10_stale X.htr  hc474) (by decide) (Nat.le_of_ble_eq_true rfl) dL_law_1826 ?_
  refine g_aload_n X (j := 2) dL_law_1829 rfl rfl ?_
  obtain ⟨⟨v478, M479⟩, hc477, h⟩ := bndO_e h
  refine gc_L_200 X gT_c122 (ct_X11_stale X.htr  hc477) (by decide) (Nat.le_of_ble_eq_true rfl) dL_law_1830 ?_
  refine g_icmp_eq X (tgt := 2434) dL_law_1833 (by decide) (fun hb => ?_) (fun hb => ?_)
  · have h := ite_t hb h
    refine g_iinc X (j := 4) (w := a473 + (7 : Int32)) (lv' := [(0, .ref b9), (1, .ref (gad (xz x) 0)), (2, .ref (gad (xz x) 122)), (3, .ref (gad (xz x) 162))]) dL_law_2434 rfl (by rw [ii_7]) (by decide) (fun _ => rfl) (fun v480 e481 => ?_)
    have h := bnd_e e481 h
    refine g_goto X (tgt := 23) dL_law_2437 (by decide) ?_
    refine g_lv [1, 2, 3, 4, 0] rfl ?_
    refine g_up ?_
    exact hrec v480 M479 h
  · have h := ite_f hb h
    refine g_iconst X (v := 0) dL_law_1836 (by decide) ?_
    exact absurd (Option.some.inj h).symm (hno _ _)
def bk_L_law_1838_23 (F : Nat) (L9 : Nat) (xs9 : Nat → Int32) (rec : Int32 → GM → Option (GM ⊕ (Int32 × GM))) (a482 : Int32) (M : GM) : Option (GM ⊕ (Int32 × GM)) := grd (gIn (a482 + (1 : Int32)) L9) (bndO (f_L_isStale F (xs9 (a482 + (1 : Int32)).toNatClampNeg) M) (fun (v485, M486) => bnd v485 (fun v487 => grd (gIn (a482 + (1 : Int32)) L9) (bndO (f_X11_isStale F (xs9 (a482 + (1 : Int32)).toNatClampNeg) M486) (fun (v491, M492) => bnd v491 (fun v493 => if (f_X11_thrown M492) = v487 then (if v487 = 0 then (if v493 = 0 then (if (lg_cmp (gL M492 162 0) (0 : Int64)) = 0 then (bnd (a482 + (7 : Int32)) (fun v497 => rec v497 M492)) else (some (Sum.inr ((0 : Int32), M492)))) else (if (lg_cmp (gL M492 162 0) (1 : Int64)) = 0 then (bnd (a482 + (7 : Int32)) (fun v499 => rec v499 M492)) else (some (Sum.inr ((0 : Int32), M492))))) else (bnd (a482 + (7 : Int32)) (fun v495 => rec v495 M492))) else (some (Sum.inr ((0 : Int32), M492)))))))))
set_option maxHeartbeats 4000000 in
set_option maxRecDepth 100000 in
theorem bw_L_law_1838_23 {x : GX} (X : GC x cL_law 9 RL 11) {a482 : Int32}   {F : Nat} {b9 L9 : Nat} {xs9 : Nat → Int32} {rec : Int32 → GM → Option (GM ⊕ (Int32 × GM))} {M : GM} {r9 : (GM ⊕ (Int32 × GM))} (XU : GC (xup x) cL_law 9 RL 11) (hroom : xcells x + 1 ≤ (xR x).cells ∧ xslots x + 6 ≤ (xR x).slots) (hsc : gScr x b9 L9 xs9) (hnc : gNcs (xs x)) (hno : ∀ (v8 : Int32) (M8 : GM), r9 ≠ Sum.inr (v8, M8)) (hE : ∀  (M9 : GM), r9 = Sum.inl M9 → WG x M9 [] 2440 []) (hrec : ∀ (a4_9 : Int32) (M9 : GM), rec a4_9 M9 = some r9 → WG (xup x) M9 [(0, .ref b9), (1, .ref (gad (xz x) 0)), (2, .ref (gad (xz x) 122)), (3, .ref (gad (xz x) 162)), (4, .int a4_9)] 23 []) (h : bk_L_law_1838_23 F L9 xs9 rec a482 M = some r9) : WG x M [(0, .ref b9), (1, .ref (gad (xz x) 0)), (2, .ref (gad (xz x) 122)), (3, .ref (gad (xz x) 162)), (4, .int a482)] 1838 [] := by
  unfold bk_L_law_1838_23 at h
  refine g_aload_n X (j := 1) dL_law_1838 rfl rfl ?_
  refine g_aload_n X (j := 0) dL_law_1839 rfl rfl ?_
  refine g_iload X (j := 4) dL_law_1840 rfl ?_
  refine g_iconst X (v := 1) dL_law_1842 (by decide) ?_
  refine g_iadd X dL_law_1843 ?_
  obtain ⟨hg483, h⟩ := grd_e h
  refine g_sld X hsc hg483 dL_law_1844 ?_
  refine g_aload_n X (j := 3) dL_law_1845 rfl rfl ?_
  obtain ⟨⟨v485, M486⟩, hc484, h⟩ := bndO_e h
  refine gw_L_201 X (ct_L_isStale X.htr hc484) hnc (by decide) (Nat.le_of_ble_eq_true rfl) hroom dL_law_1846 ?_
  refine g_topi (fun v487 e488 => ?_)
  have h := bnd_e e488 h
  refine g_istore XU (lv' := [(5, .int v487), (0, .ref b9), (1, .ref (gad (xz x) 0)), (2, .ref (gad (xz x) 122)), (3, .ref (gad (xz x) 162)), (4, .int a482)]) dL_law_1849 (by decide) rfl ?_
  refine g_aload_n XU (j := 3) dL_law_1851 rfl rfl ?_
  refine g_aload_n XU (j := 1) dL_law_1852 rfl rfl ?_
  refine g_iload XU (j := 5) dL_law_1853 rfl ?_
  refine g_iconst XU (v := 1) dL_law_1855 (by decide) ?_
  refine g_iadd XU dL_law_1856 ?_
  obtain ⟨hg489, h⟩ := grd_e h
  refine g_sld XU hsc hg489 dL_law_1857 ?_
  obtain ⟨⟨v491, M492⟩, hc490, h⟩ := bndO_e h
  refine gc_L_203 XU gT_c122 (ct_X11_isStale XU.htr  hc490) (by decide) (Nat.le_of_ble_eq_true rfl) dL_law_1858 ?_
  refine g_topi (fun v493 e494 => ?_)
  have h := bnd_e e494 h
  refine g_istore XU (lv' := [(6, .int v493), (5, .int v487), (0, .ref b9), (1, .ref (gad (xz x) 0)), (2, .ref (gad (xz x) 122)), (3, .ref (gad (xz x) 162)), (4, .int a482)]) dL_law_1861 (by decide) rfl ?_
  refine g_aload_n XU (j := 4) dL_law_1863 rfl rfl ?_
  refine gc_L_116 XU gT_c122 (ct_X11_thrown XU.htr ) (by decide) (Nat.le_of_ble_eq_true rfl) dL_law_1864 ?_
  refine g_iload XU (j := 1) dL_law_1867 rfl ?_
  refine g_icmp_eq XU (tgt := 1874) dL_law_1869 (by decide) (fun hb => ?_) (fun hb => ?_)
  · have h := ite_t hb h
    refine g_iload XU (j := 1) dL_law_1874 rfl ?_
    refine g_if_ne XU (tgt := 1898) dL_law_1876 (by decide) (fun hb => ?_) (fun hb => ?_)
    · have h := ite_f hb h
      refine g_goto XU (tgt := 2434) dL_law_1898 (by decide) ?_
      refine g_iinc XU (j := 6) (w := a482 + (7 : Int32)) (lv' := [(6, .int v493), (5, .int v487), (0, .ref b9), (1, .ref (gad (xz x) 0)), (2, .ref (gad (xz x) 122)), (3, .ref (gad (xz x) 162))]) dL_law_2434 rfl (by rw [ii_7]) (by decide) (fun _ => rfl) (fun v495 e496 => ?_)
      have h := bnd_e e496 h
      refine g_goto XU (tgt := 23) dL_law_2437 (by decide) ?_
      refine g_lv [3, 4, 5, 6, 0] rfl ?_
      exact hrec v495 M492 h
    · have h := ite_t hb h
      refine g_aload_n XU (j := 5) dL_law_1879 rfl rfl ?_
      refine g_iconst XU (v := 0) dL_law_1880 (by decide) ?_
      refine g_lald XU gT_c162 (by decide +kernel) dL_law_1881 ?_
      rw [tn_0]
      refine g_iload XU (j := 0) dL_law_1882 rfl ?_
      refine g_if_eq XU (tgt := 1891) dL_law_1884 (by decide) (fun hb => ?_) (fun hb => ?_)
      · have h := ite_t hb h
        refine g_lconst XU (v := 0) dL_law_1891 (by decide) ?_
        refine g_lcmp XU dL_law_1892 ?_
        refine g_if_eq XU (tgt := 1898) dL_law_1893 (by decide) (fun hb => ?_) (fun hb => ?_)
        · have h := ite_t hb h
          refine g_goto XU (tgt := 2434) dL_law_1898 (by decide) ?_
          refine g_iinc XU (j := 6) (w := a482 + (7 : Int32)) (lv' := [(6, .int v493), (5, .int v487), (0, .ref b9), (1, .ref (gad (xz x) 0)), (2, .ref (gad (xz x) 122)), (3, .ref (gad (xz x) 162))]) dL_law_2434 rfl (by rw [ii_7]) (by decide) (fun _ => rfl) (fun v497 e498 => ?_)
          have h := bnd_e e498 h
          refine g_goto XU (tgt := 23) dL_law_2437 (by decide) ?_
          refine g_lv [3, 4, 5, 6, 0] rfl ?_
          exact hrec v497 M492 h
        · have h := ite_f hb h
          refine g_iconst XU (v := 0) dL_law_1896 (by decide) ?_
          exact absurd (Option.some.inj h).symm (hno _ _)
      · have h := ite_f hb h
        refine g_lconst XU (v := 1) dL_law_1887 (by decide) ?_
        refine g_goto XU (tgt := 1892) dL_law_1888 (by decide) ?_
        refine g_lcmp XU dL_law_1892 ?_
        refine g_if_eq XU (tgt := 1898) dL_law_1893 (by decide) (fun hb => ?_) (fun hb => ?_)
        · have h := ite_t hb h
          refine g_goto XU (tgt := 2434) dL_law_1898 (by decide) ?_
          refine g_iinc XU (j := 6) (w := a482 + (7 : Int32)) (lv' := [(6, .int v493), (5, .int v487), (0, .ref b9), (1, .ref (gad (xz x) 0)), (2, .ref (gad (xz x) 122)), (3, .ref (gad (xz x) 162))]) dL_law_2434 rfl (by rw [ii_7]) (by decide) (fun _ => rfl) (fun v499 e500 => ?_)
          have h := bnd_e e500 h
          refine g_goto XU (tgt := 23) dL_law_2437 (by decide) ?_
          refine g_lv [3, 4, 5, 6, 0] rfl ?_
          exact hrec v499 M492 h
        · have h := ite_f hb h
          refine g_iconst XU (v := 0) dL_law_1896 (by decide) ?_
          exact absurd (Option.some.inj h).symm (hno _ _)
  · have h := ite_f hb h
    refine g_iconst XU (v := 0) dL_law_1872 (by decide) ?_
    exact absurd (Option.some.inj h).symm (hno _ _)
def bk_L_law_1901_23 (F : Nat) (L9 : Nat) (xs9 : Nat → Int32) (rec : Int32 → GM → Option (GM ⊕ (Int32 × GM))) (a501 : Int32) (M : GM) : Option (GM ⊕ (Int32 × GM)) := grd (gIn (a501 + (1 : Int32)) L9) (grd (gIn (a501 + (2 : Int32)) L9) (bndO (f_L_colourAt F (xs9 (a501 + (1 : Int32)).toNatClampNeg) (xs9 (a501 + (2 : Int32)).toNatClampNeg) M) (fun (v505, M506) => bnd v505 (fun v507 => grd (gIn (a501 + (1 : Int32)) L9) (grd (gIn (a501 + (2 : Int32)) L9) (bndO (f_X11_colourAt F (xs9 (a501 + (1 : Int32)).toNatClampNeg) (xs9 (a501 + (2 : Int32)).toNatClampNeg) M506) (fun (v512, M513) => bnd v512 (fun v514 => if (f_X11_thrown M513) = v507 then (if v507 = 0 then (if (lg_cmp (gL M513 162 0) v514.toInt64) = 0 then (bnd (a501 + (7 : Int32)) (fun v518 => rec v518 M513)) else (some (Sum.inr ((0 : Int32), M513)))) else (bnd (a501 + (7 : Int32)) (fun v516 => rec v516 M513))) else (some (Sum.inr ((0 : Int32), M513)))))))))))
set_option maxHeartbeats 4000000 in
set_option maxRecDepth 100000 in
theorem bw_L_law_1901_23 {x : GX} (X : GC x cL_law 9 RL 11) {a501 : Int32}   {F : Nat} {b9 L9 : Nat} {xs9 : Nat → Int32} {rec : Int32 → GM → Option (GM ⊕ (Int32 × GM))} {M : GM} {r9 : (GM ⊕ (Int32 × GM))} (XU : GC (xup x) cL_law 9 RL 11) (hroom : xcells x + 1 ≤ (xR x).cells ∧ xslots x + 6 ≤ (xR x).slots) (hsc : gScr x b9 L9 xs9) (hnc : gNcs (xs x)) (hno : ∀ (v8 : Int32) (M8 : GM), r9 ≠ Sum.inr (v8, M8)) (hE : ∀  (M9 : GM), r9 = Sum.inl M9 → WG x M9 [] 2440 []) (hrec : ∀ (a4_9 : Int32) (M9 : GM), rec a4_9 M9 = some r9 → WG (xup x) M9 [(0, .ref b9), (1, .ref (gad (xz x) 0)), (2, .ref (gad (xz x) 122)), (3, .ref (gad (xz x) 162)), (4, .int a4_9)] 23 []) (h : bk_L_law_1901_23 F L9 xs9 rec a501 M = some r9) : WG x M [(0, .ref b9), (1, .ref (gad (xz x) 0)), (2, .ref (gad (xz x) 122)), (3, .ref (gad (xz x) 162)), (4, .int a501)] 1901 [] := by
  unfold bk_L_law_1901_23 at h
  refine g_aload_n X (j := 1) dL_law_1901 rfl rfl ?_
  refine g_aload_n X (j := 0) dL_law_1902 rfl rfl ?_
  refine g_iload X (j := 4) dL_law_1903 rfl ?_
  refine g_iconst X (v := 1) dL_law_1905 (by decide) ?_
  refine g_iadd X dL_law_1906 ?_
  obtain ⟨hg502, h⟩ := grd_e h
  refine g_sld X hsc hg502 dL_law_1907 ?_
  refine g_aload_n X (j := 0) dL_law_1908 rfl rfl ?_
  refine g_iload X (j := 4) dL_law_1909 rfl ?_
  refine g_iconst X (v := 2) dL_law_1911 (by decide) ?_
  refine g_iadd X dL_law_1912 ?_
  obtain ⟨hg503, h⟩ := grd_e h
  refine g_sld X hsc hg503 dL_law_1913 ?_
  refine g_aload_n X (j := 3) dL_law_1914 rfl rfl ?_
  obtain ⟨⟨v505, M506⟩, hc504, h⟩ := bndO_e h
  refine gw_L_204 X (ct_L_colourAt X.htr hc504) hnc (by decide) (Nat.le_of_ble_eq_true rfl) hroom dL_law_1915 ?_
  refine g_topi (fun v507 e508 => ?_)
  have h := bnd_e e508 h
  refine g_istore XU (lv' := [(5, .int v507), (0, .ref b9), (1, .ref (gad (xz x) 0)), (2, .ref (gad (xz x) 122)), (3, .ref (gad (xz x) 162)), (4, .int a501)]) dL_law_1918 (by decide) rfl ?_
  refine g_aload_n XU (j := 3) dL_law_1920 rfl rfl ?_
  refine g_aload_n XU (j := 1) dL_law_1921 rfl rfl ?_
  refine g_iload XU (j := 5) dL_law_1922 rfl ?_
  refine g_iconst XU (v := 1) dL_law_1924 (by decide) ?_
  refine g_iadd XU dL_law_1925 ?_
  obtain ⟨hg509, h⟩ := grd_e h
  refine g_sld XU hsc hg509 dL_law_1926 ?_
  refine g_aload_n XU (j := 1) dL_law_1927 rfl rfl ?_
  refine g_iload XU (j := 5) dL_law_1928 rfl ?_
  refine g_iconst XU (v := 2) dL_law_1930 (by decide) ?_
  refine g_iadd XU dL_law_1931 ?_
  obtain ⟨hg510, h⟩ := grd_e h
  refine g_sld XU hsc hg510 dL_law_1932 ?_
  obtain ⟨⟨v512, M513⟩, hc511, h⟩ := bndO_e h
  refine gc_L_206 XU gT_c122 (ct_X11_colourAt XU.htr  hc511) (by decide) (Nat.le_of_ble_eq_true rfl) dL_law_1933 ?_
  refine g_topi (fun v514 e515 => ?_)
  have h := bnd_e e515 h
  refine g_istore XU (lv' := [(6, .int v514), (5, .int v507), (0, .ref b9), (1, .ref (gad (xz x) 0)), (2, .ref (gad (xz x) 122)), (3, .ref (gad (xz x) 162)), (4, .int a501)]) dL_law_1936 (by decide) rfl ?_
  refine g_aload_n XU (j := 4) dL_law_1938 rfl rfl ?_
  refine gc_L_116 XU gT_c122 (ct_X11_thrown XU.htr ) (by decide) (Nat.le_of_ble_eq_true rfl) dL_law_1939 ?_
  refine g_iload XU (j := 1) dL_law_1942 rfl ?_
  refine g_icmp_eq XU (tgt := 1949) dL_law_1944 (by decide) (fun hb => ?_) (fun hb => ?_)
  · have h := ite_t hb h
    refine g_iload XU (j := 1) dL_law_1949 rfl ?_
    refine g_if_ne XU (tgt := 1966) dL_law_1951 (by decide) (fun hb => ?_) (fun hb => ?_)
    · have h := ite_f hb h
      refine g_goto XU (tgt := 2434) dL_law_1966 (by decide) ?_
      refine g_iinc XU (j := 6) (w := a501 + (7 : Int32)) (lv' := [(6, .int v514), (5, .int v507), (0, .ref b9), (1, .ref (gad (xz x) 0)), (2, .ref (gad (xz x) 122)), (3, .ref (gad (xz x) 162))]) dL_law_2434 rfl (by rw [ii_7]) (by decide) (fun _ => rfl) (fun v516 e517 => ?_)
      have h := bnd_e e517 h
      refine g_goto XU (tgt := 23) dL_law_2437 (by decide) ?_
      refine g_lv [3, 4, 5, 6, 0] rfl ?_
      exact hrec v516 M513 h
    · have h := ite_t hb h
      refine g_aload_n XU (j := 5) dL_law_1954 rfl rfl ?_
      refine g_iconst XU (v := 0) dL_law_1955 (by decide) ?_
      refine g_lald XU gT_c162 (by decide +kernel) dL_law_1956 ?_
      rw [tn_0]
      refine g_iload XU (j := 0) dL_law_1957 rfl ?_
      refine g_i2l XU dL_law_1959 ?_
      refine g_lcmp XU dL_law_1960 ?_
      refine g_if_eq XU (tgt := 1966) dL_law_1961 (by decide) (fun hb => ?_) (fun hb => ?_)
      · have h := ite_t hb h
        refine g_goto XU (tgt := 2434) dL_law_1966 (by decide) ?_
        refine g_iinc XU (j := 6) (w := a501 + (7 : Int32)) (lv' := [(6, .int v514), (5, .int v507), (0, .ref b9), (1, .ref (gad (xz x) 0)), (2, .ref (gad (xz x) 122)), (3, .ref (gad (xz x) 162))]) dL_law_2434 rfl (by rw [ii_7]) (by decide) (fun _ => rfl) (fun v518 e519 => ?_)
        have h := bnd_e e519 h
        refine g_goto XU (tgt := 23) dL_law_2437 (by decide) ?_
        refine g_lv [3, 4, 5, 6, 0] rfl ?_
        exact hrec v518 M513 h
      · have h := ite_f hb h
        refine g_iconst XU (v := 0) dL_law_1964 (by decide) ?_
        exact absurd (Option.some.inj h).symm (hno _ _)
  · have h := ite_f hb h
    refine g_iconst XU (v := 0) dL_law_1947 (by decide) ?_
    exact absurd (Option.some.inj h).symm (hno _ _)
def bk_L_law_1969_23 (F : Nat) (L9 : Nat) (xs9 : Nat → Int32) (rec : Int32 → GM → Option (GM ⊕ (Int32 × GM))) (a520 : Int32) (M : GM) : Option (GM ⊕ (Int32 × GM)) := grd (gIn (a520 + (1 : Int32)) L9) (grd (gIn (a520 + (2 : Int32)) L9) (bndO (f_L_depthAt F (xs9 (a520 + (1 : Int32)).toNatClampNeg) (xs9 (a520 + (2 : Int32)).toNatClampNeg) M) (fun (v524, M525) => bnd v524 (fun v526 => grd (gIn (a520 + (1 : Int32)) L9) (grd (gIn (a520 + (2 : Int32)) L9) (bndO (f_X11_depthAt_ F (xs9 (a520 + (1 : Int32)).toNatClampNeg) (xs9 (a520 + (2 : Int32)).toNatClampNeg) M525) (fun (v531, M532) => bnd v531 (fun v533 => if (f_X11_thrown M532) = v526 then (if v526 = 0 then (if (lg_cmp (gL M532 162 0) v533.toInt64) = 0 then (bnd (a520 + (7 : Int32)) (fun v537 => rec v537 M532)) else (some (Sum.inr ((0 : Int32), M532)))) else (bnd (a520 + (7 : Int32)) (fun v535 => rec v535 M532))) else (some (Sum.inr ((0 : Int32), M532)))))))))))
set_option maxHeartbeats 4000000 in
set_option maxRecDepth 100000 in
theorem bw_L_law_1969_23 {x : GX} (X : GC x cL_law 9 RL 11) {a520 : Int32}   {F : Nat} {b9 L9 : Nat} {xs9 : Nat → Int32} {rec : Int32 → GM → Option (GM ⊕ (Int32 × GM))} {M : GM} {r9 : (GM ⊕ (Int32 × GM))} (XU : GC (xup x) cL_law 9 RL 11) (hroom : xcells x + 1 ≤ (xR x).cells ∧ xslots x + 6 ≤ (xR x).slots) (hsc : gScr x b9 L9 xs9) (hnc : gNcs (xs x)) (hno : ∀ (v8 : Int32) (M8 : GM), r9 ≠ Sum.inr (v8, M8)) (hE : ∀  (M9 : GM), r9 = Sum.inl M9 → WG x M9 [] 2440 []) (hrec : ∀ (a4_9 : Int32) (M9 : GM), rec a4_9 M9 = some r9 → WG (xup x) M9 [(0, .ref b9), (1, .ref (gad (xz x) 0)), (2, .ref (gad (xz x) 122)), (3, .ref (gad (xz x) 162)), (4, .int a4_9)] 23 []) (h : bk_L_law_1969_23 F L9 xs9 rec a520 M = some r9) : WG x M [(0, .ref b9), (1, .ref (gad (xz x) 0)), (2, .ref (gad (xz x) 122)), (3, .ref (gad (xz x) 162)), (4, .int a520)] 1969 [] := by
  unfold bk_L_law_1969_23 at h
  refine g_aload_n X (j := 1) dL_law_1969 rfl rfl ?_
  refine g_aload_n X (j := 0) dL_law_1970 rfl rfl ?_
  refine g_iload X (j := 4) dL_law_1971 rfl ?_
  refine g_iconst X (v := 1) dL_law_1973 (by decide) ?_
  refine g_iadd X dL_law_1974 ?_
  obtain ⟨hg521, h⟩ := grd_e h
  refine g_sld X hsc hg521 dL_law_1975 ?_
  refine g_aload_n X (j := 0) dL_law_1976 rfl rfl ?_
  refine g_iload X (j := 4) dL_law_1977 rfl ?_
  refine g_iconst X (v := 2) dL_law_1979 (by decide) ?_
  refine g_iadd X dL_law_1980 ?_
  obtain ⟨hg522, h⟩ := grd_e h
  refine g_sld X hsc hg522 dL_law_1981 ?_
  refine g_aload_n X (j := 3) dL_law_1982 rfl rfl ?_
  obtain ⟨⟨v524, M525⟩, hc523, h⟩ := bndO_e h
  refine gw_L_207 X (ct_L_depthAt X.htr hc523) hnc (by decide) (Nat.le_of_ble_eq_true rfl) hroom dL_law_1983 ?_
  refine g_topi (fun v526 e527 => ?_)
  have h := bnd_e e527 h
  refine g_istore XU (lv' := [(5, .int v526), (0, .ref b9), (1, .ref (gad (xz x) 0)), (2, .ref (gad (xz x) 122)), (3, .ref (gad (xz x) 162)), (4, .int a520)]) dL_law_1986 (by decide) rfl ?_
  refine g_aload_n XU (j := 3) dL_law_1988 rfl rfl ?_
  refine g_aload_n XU (j := 1) dL_law_1989 rfl rfl ?_
  refine g_iload XU (j := 5) dL_law_1990 rfl ?_
  refine g_iconst XU (v := 1) dL_law_1992 (by decide) ?_
  refine g_iadd XU dL_law_1993 ?_
  obtain ⟨hg528, h⟩ := grd_e h
  refine g_sld XU hsc hg528 dL_law_1994 ?_
  refine g_aload_n XU (j := 1) dL_law_1995 rfl rfl ?_
  refine g_iload XU (j := 5) dL_law_1996 rfl ?_
  refine g_iconst XU (v := 2) dL_law_1998 (by decide) ?_
  refine g_iadd XU dL_law_1999 ?_
  obtain ⟨hg529, h⟩ := grd_e h
  refine g_sld XU hsc hg529 dL_law_2000 ?_
  obtain ⟨⟨v531, M532⟩, hc530, h⟩ := bndO_e h
  refine gc_L_209 XU gT_c122 (ct_X11_depthAt_ XU.htr  hc530) (by decide) (Nat.le_of_ble_eq_true rfl) dL_law_2001 ?_
  refine g_topi (fun v533 e534 => ?_)
  have h := bnd_e e534 h
  refine g_istore XU (lv' := [(6, .int v533), (5, .int v526), (0, .ref b9), (1, .ref (gad (xz x) 0)), (2, .ref (gad (xz x) 122)), (3, .ref (gad (xz x) 162)), (4, .int a520)]) dL_law_2004 (by decide) rfl ?_
  refine g_aload_n XU (j := 4) dL_law_2006 rfl rfl ?_
  refine gc_L_116 XU gT_c122 (ct_X11_thrown XU.htr ) (by decide) (Nat.le_of_ble_eq_true rfl) dL_law_2007 ?_
  refine g_iload XU (j := 1) dL_law_2010 rfl ?_
  refine g_icmp_eq XU (tgt := 2017) dL_law_2012 (by decide) (fun hb => ?_) (fun hb => ?_)
  · have h := ite_t hb h
    refine g_iload XU (j := 1) dL_law_2017 rfl ?_
    refine g_if_ne XU (tgt := 2034) dL_law_2019 (by decide) (fun hb => ?_) (fun hb => ?_)
    · have h := ite_f hb h
      refine g_goto XU (tgt := 2434) dL_law_2034 (by decide) ?_
      refine g_iinc XU (j := 6) (w := a520 + (7 : Int32)) (lv' := [(6, .int v533), (5, .int v526), (0, .ref b9), (1, .ref (gad (xz x) 0)), (2, .ref (gad (xz x) 122)), (3, .ref (gad (xz x) 162))]) dL_law_2434 rfl (by rw [ii_7]) (by decide) (fun _ => rfl) (fun v535 e536 => ?_)
      have h := bnd_e e536 h
      refine g_goto XU (tgt := 23) dL_law_2437 (by decide) ?_
      refine g_lv [3, 4, 5, 6, 0] rfl ?_
      exact hrec v535 M532 h
    · have h := ite_t hb h
      refine g_aload_n XU (j := 5) dL_law_2022 rfl rfl ?_
      refine g_iconst XU (v := 0) dL_law_2023 (by decide) ?_
      refine g_lald XU gT_c162 (by decide +kernel) dL_law_2024 ?_
      rw [tn_0]
      refine g_iload XU (j := 0) dL_law_2025 rfl ?_
      refine g_i2l XU dL_law_2027 ?_
      refine g_lcmp XU dL_law_2028 ?_
      refine g_if_eq XU (tgt := 2034) dL_law_2029 (by decide) (fun hb => ?_) (fun hb => ?_)
      · have h := ite_t hb h
        refine g_goto XU (tgt := 2434) dL_law_2034 (by decide) ?_
        refine g_iinc XU (j := 6) (w := a520 + (7 : Int32)) (lv' := [(6, .int v533), (5, .int v526), (0, .ref b9), (1, .ref (gad (xz x) 0)), (2, .ref (gad (xz x) 122)), (3, .ref (gad (xz x) 162))]) dL_law_2434 rfl (by rw [ii_7]) (by decide) (fun _ => rfl) (fun v537 e538 => ?_)
        have h := bnd_e e538 h
        refine g_goto XU (tgt := 23) dL_law_2437 (by decide) ?_
        refine g_lv [3, 4, 5, 6, 0] rfl ?_
        exact hrec v537 M532 h
      · have h := ite_f hb h
        refine g_iconst XU (v := 0) dL_law_2032 (by decide) ?_
        exact absurd (Option.some.inj h).symm (hno _ _)
  · have h := ite_f hb h
    refine g_iconst XU (v := 0) dL_law_2015 (by decide) ?_
    exact absurd (Option.some.inj h).symm (hno _ _)
def bk_L_law_2037_23 (F : Nat) (L9 : Nat) (xs9 : Nat → Int32) (rec : Int32 → GM → Option (GM ⊕ (Int32 × GM))) (a539 : Int32) (M : GM) : Option (GM ⊕ (Int32 × GM)) := grd (gIn (a539 + (1 : Int32)) L9) (grd (gIn (a539 + (2 : Int32)) L9) (bndO (f_L_paneAt F (xs9 (a539 + (1 : Int32)).toNatClampNeg) (xs9 (a539 + (2 : Int32)).toNatClampNeg) M) (fun (v543, M544) => bnd v543 (fun v545 => grd (gIn (a539 + (1 : Int32)) L9) (grd (gIn (a539 + (2 : Int32)) L9) (bndO (f_X11_paneAt F (xs9 (a539 + (1 : Int32)).toNatClampNeg) (xs9 (a539 + (2 : Int32)).toNatClampNeg) M544) (fun (v550, M551) => bnd v550 (fun v552 => if (f_X11_thrown M551) = v545 then (if v545 = 0 then (if (lg_cmp (gL M551 162 0) v552.toInt64) = 0 then (bnd (a539 + (7 : Int32)) (fun v556 => rec v556 M551)) else (some (Sum.inr ((0 : Int32), M551)))) else (bnd (a539 + (7 : Int32)) (fun v554 => rec v554 M551))) else (some (Sum.inr ((0 : Int32), M551)))))))))))
set_option maxHeartbeats 4000000 in
set_option maxRecDepth 100000 in
theorem bw_L_law_2037_23 {x : GX} (X : GC x cL_law 9 RL 11) {a539 : Int32}   {F : Nat} {b9 L9 : Nat} {xs9 : Nat → Int32} {rec : Int32 → GM → Option (GM ⊕ (Int32 × GM))} {M : GM} {r9 : (GM ⊕ (Int32 × GM))} (XU : GC (xup x) cL_law 9 RL 11) (hroom : xcells x + 1 ≤ (xR x).cells ∧ xslots x + 6 ≤ (xR x).slots) (hsc : gScr x b9 L9 xs9) (hnc : gNcs (xs x)) (hno : ∀ (v8 : Int32) (M8 : GM), r9 ≠ Sum.inr (v8, M8)) (hE : ∀  (M9 : GM), r9 = Sum.inl M9 → WG x M9 [] 2440 []) (hrec : ∀ (a4_9 : Int32) (M9 : GM), rec a4_9 M9 = some r9 → WG (xup x) M9 [(0, .ref b9), (1, .ref (gad (xz x) 0)), (2, .ref (gad (xz x) 122)), (3, .ref (gad (xz x) 162)), (4, .int a4_9)] 23 []) (h : bk_L_law_2037_23 F L9 xs9 rec a539 M = some r9) : WG x M [(0, .ref b9), (1, .ref (gad (xz x) 0)), (2, .ref (gad (xz x) 122)), (3, .ref (gad (xz x) 162)), (4, .int a539)] 2037 [] := by
  unfold bk_L_law_2037_23 at h
  refine g_aload_n X (j := 1) dL_law_2037 rfl rfl ?_
  refine g_aload_n X (j := 0) dL_law_2038 rfl rfl ?_
  refine g_iload X (j := 4) dL_law_2039 rfl ?_
  refine g_iconst X (v := 1) dL_law_2041 (by decide) ?_
  refine g_iadd X dL_law_2042 ?_
  obtain ⟨hg540, h⟩ := grd_e h
  refine g_sld X hsc hg540 dL_law_2043 ?_
  refine g_aload_n X (j := 0) dL_law_2044 rfl rfl ?_
  refine g_iload X (j := 4) dL_law_2045 rfl ?_
  refine g_iconst X (v := 2) dL_law_2047 (by decide) ?_
  refine g_iadd X dL_law_2048 ?_
  obtain ⟨hg541, h⟩ := grd_e h
  refine g_sld X hsc hg541 dL_law_2049 ?_
  refine g_aload_n X (j := 3) dL_law_2050 rfl rfl ?_
  obtain ⟨⟨v543, M544⟩, hc542, h⟩ := bndO_e h
  refine gw_L_210 X (ct_L_paneAt X.htr hc542) hnc (by decide) (Nat.le_of_ble_eq_true rfl) hroom dL_law_2051 ?_
  refine g_topi (fun v545 e546 => ?_)
  have h := bnd_e e546 h
  refine g_istore XU (lv' := [(5, .int v545), (0, .ref b9), (1, .ref (gad (xz x) 0)), (2, .ref (gad (xz x) 122)), (3, .ref (gad (xz x) 162)), (4, .int a539)]) dL_law_2054 (by decide) rfl ?_
  refine g_aload_n XU (j := 3) dL_law_2056 rfl rfl ?_
  refine g_aload_n XU (j := 1) dL_law_2057 rfl rfl ?_
  refine g_iload XU (j := 5) dL_law_2058 rfl ?_
  refine g_iconst XU (v := 1) dL_law_2060 (by decide) ?_
  refine g_iadd XU dL_law_2061 ?_
  obtain ⟨hg547, h⟩ := grd_e h
  refine g_sld XU hsc hg547 dL_law_2062 ?_
  refine g_aload_n XU (j := 1) dL_law_2063 rfl rfl ?_
  refine g_iload XU (j := 5) dL_law_2064 rfl ?_
  refine g_iconst XU (v := 2) dL_law_2066 (by decide) ?_
  refine g_iadd XU dL_law_2067 ?_
  obtain ⟨hg548, h⟩ := grd_e h
  refine g_sld XU hsc hg548 dL_law_2068 ?_
  obtain ⟨⟨v550, M551⟩, hc549, h⟩ := bndO_e h
  refine gc_L_212 XU gT_c122 (ct_X11_paneAt XU.htr  hc549) (by decide) (Nat.le_of_ble_eq_true rfl) dL_law_2069 ?_
  refine g_topi (fun v552 e553 => ?_)
  have h := bnd_e e553 h
  refine g_istore XU (lv' := [(6, .int v552), (5, .int v545), (0, .ref b9), (1, .ref (gad (xz x) 0)), (2, .ref (gad (xz x) 122)), (3, .ref (gad (xz x) 162)), (4, .int a539)]) dL_law_2072 (by decide) rfl ?_
  refine g_aload_n XU (j := 4) dL_law_2074 rfl rfl ?_
  refine gc_L_116 XU gT_c122 (ct_X11_thrown XU.htr ) (by decide) (Nat.le_of_ble_eq_true rfl) dL_law_2075 ?_
  refine g_iload XU (j := 1) dL_law_2078 rfl ?_
  refine g_icmp_eq XU (tgt := 2085) dL_law_2080 (by decide) (fun hb => ?_) (fun hb => ?_)
  · have h := ite_t hb h
    refine g_iload XU (j := 1) dL_law_2085 rfl ?_
    refine g_if_ne XU (tgt := 2102) dL_law_2087 (by decide) (fun hb => ?_) (fun hb => ?_)
    · have h := ite_f hb h
      refine g_goto XU (tgt := 2434) dL_law_2102 (by decide) ?_
      refine g_iinc XU (j := 6) (w := a539 + (7 : Int32)) (lv' := [(6, .int v552), (5, .int v545), (0, .ref b9), (1, .ref (gad (xz x) 0)), (2, .ref (gad (xz x) 122)), (3, .ref (gad (xz x) 162))]) dL_law_2434 rfl (by rw [ii_7]) (by decide) (fun _ => rfl) (fun v554 e555 => ?_)
      have h := bnd_e e555 h
      refine g_goto XU (tgt := 23) dL_law_2437 (by decide) ?_
      refine g_lv [3, 4, 5, 6, 0] rfl ?_
      exact hrec v554 M551 h
    · have h := ite_t hb h
      refine g_aload_n XU (j := 5) dL_law_2090 rfl rfl ?_
      refine g_iconst XU (v := 0) dL_law_2091 (by decide) ?_
      refine g_lald XU gT_c162 (by decide +kernel) dL_law_2092 ?_
      rw [tn_0]
      refine g_iload XU (j := 0) dL_law_2093 rfl ?_
      refine g_i2l XU dL_law_2095 ?_
      refine g_lcmp XU dL_law_2096 ?_
      refine g_if_eq XU (tgt := 2102) dL_law_2097 (by decide) (fun hb => ?_) (fun hb => ?_)
      · have h := ite_t hb h
        refine g_goto XU (tgt := 2434) dL_law_2102 (by decide) ?_
        refine g_iinc XU (j := 6) (w := a539 + (7 : Int32)) (lv' := [(6, .int v552), (5, .int v545), (0, .ref b9), (1, .ref (gad (xz x) 0)), (2, .ref (gad (xz x) 122)), (3, .ref (gad (xz x) 162))]) dL_law_2434 rfl (by rw [ii_7]) (by decide) (fun _ => rfl) (fun v556 e557 => ?_)
        have h := bnd_e e557 h
        refine g_goto XU (tgt := 23) dL_law_2437 (by decide) ?_
        refine g_lv [3, 4, 5, 6, 0] rfl ?_
        exact hrec v556 M551 h
      · have h := ite_f hb h
        refine g_iconst XU (v := 0) dL_law_2100 (by decide) ?_
        exact absurd (Option.some.inj h).symm (hno _ _)
  · have h := ite_f hb h
    refine g_iconst XU (v := 0) dL_law_2083 (by decide) ?_
    exact absurd (Option.some.inj h).symm (hno _ _)
def bk_L_law_2105_23 (F : Nat) (L9 : Nat) (xs9 : Nat → Int32) (rec : Int32 → GM → Option (GM ⊕ (Int32 × GM))) (a558 : Int32) (M : GM) : Option (GM ⊕ (Int32 × GM)) := grd (gIn (a558 + (1 : Int32)) L9) (bndO (f_L_pointsWith F (xs9 (a558 + (1 : Int32)).toNatClampNeg) M) (fun (v561, M562) => bnd v561 (fun v563 => grd (gIn (a558 + (1 : Int32)) L9) (bndO (f_X11_pointsWith F (xs9 (a558 + (1 : Int32)).toNatClampNeg) M562) (fun (v567, M568) => bnd v567 (fun v569 => if (f_X11_thrown M568) = v563 then (if v563 = 0 then (if (lg_cmp (gL M568 162 0) v569.toInt64) = 0 then (bnd (a558 + (7 : Int32)) (fun v573 => rec v573 M568)) else (some (Sum.inr ((0 : Int32), M568)))) else (bnd (a558 + (7 : Int32)) (fun v571 => rec v571 M568))) else (some (Sum.inr ((0 : Int32), M568)))))))))
set_option maxHeartbeats 4000000 in
set_option maxRecDepth 100000 in
theorem bw_L_law_2105_23 {x : GX} (X : GC x cL_law 9 RL 11) {a558 : Int32}   {F : Nat} {b9 L9 : Nat} {xs9 : Nat → Int32} {rec : Int32 → GM → Option (GM ⊕ (Int32 × GM))} {M : GM} {r9 : (GM ⊕ (Int32 × GM))} (XU : GC (xup x) cL_law 9 RL 11) (hroom : xcells x + 1 ≤ (xR x).cells ∧ xslots x + 6 ≤ (xR x).slots) (hsc : gScr x b9 L9 xs9) (hnc : gNcs (xs x)) (hno : ∀ (v8 : Int32) (M8 : GM), r9 ≠ Sum.inr (v8, M8)) (hE : ∀  (M9 : GM), r9 = Sum.inl M9 → WG x M9 [] 2440 []) (hrec : ∀ (a4_9 : Int32) (M9 : GM), rec a4_9 M9 = some r9 → WG (xup x) M9 [(0, .ref b9), (1, .ref (gad (xz x) 0)), (2, .ref (gad (xz x) 122)), (3, .ref (gad (xz x) 162)), (4, .int a4_9)] 23 []) (h : bk_L_law_2105_23 F L9 xs9 rec a558 M = some r9) : WG x M [(0, .ref b9), (1, .ref (gad (xz x) 0)), (2, .ref (gad (xz x) 122)), (3, .ref (gad (xz x) 162)), (4, .int a558)] 2105 [] := by
  unfold bk_L_law_2105_23 at h
  refine g_aload_n X (j := 1) dL_law_2105 rfl rfl ?_
  refine g_aload_n X (j := 0) dL_law_2106 rfl rfl ?_
  refine g_iload X (j := 4) dL_law_2107 rfl ?_
  refine g_iconst X (v := 1) dL_law_2109 (by decide) ?_
  refine g_iadd X dL_law_2110 ?_
  obtain ⟨hg559, h⟩ := grd_e h
  refine g_sld X hsc hg559 dL_law_2111 ?_
  refine g_aload_n X (j := 3) dL_law_2112 rfl rfl ?_
  obtain ⟨⟨v561, M562⟩, hc560, h⟩ := bndO_e h
  refine gw_L_213 X (ct_L_pointsWith X.htr hc560) hnc (by decide) (Nat.le_of_ble_eq_true rfl) hroom dL_law_2113 ?_
  refine g_topi (fun v563 e564 => ?_)
  have h := bnd_e e564 h
  refine g_istore XU (lv' := [(5, .int v563), (0, .ref b9), (1, .ref (gad (xz x) 0)), (2, .ref (gad (xz x) 122)), (3, .ref (gad (xz x) 162)), (4, .int a558)]) dL_law_2116 (by decide) rfl ?_
  refine g_aload_n XU (j := 3) dL_law_2118 rfl rfl ?_
  refine g_aload_n XU (j := 1) dL_law_2119 rfl rfl ?_
  refine g_iload XU (j := 5) dL_law_2120 rfl ?_
  refine g_iconst XU (v := 1) dL_law_2122 (by decide) ?_
  refine g_iadd XU dL_law_2123 ?_
  obtain ⟨hg565, h⟩ := grd_e h
  refine g_sld XU hsc hg565 dL_law_2124 ?_
  obtain ⟨⟨v567, M568⟩, hc566, h⟩ := bndO_e h
  refine gc_L_215 XU gT_c122 (ct_X11_pointsWith XU.htr  hc566) (by decide) (Nat.le_of_ble_eq_true rfl) dL_law_2125 ?_
  refine g_topi (fun v569 e570 => ?_)
  have h := bnd_e e570 h
  refine g_istore XU (lv' := [(6, .int v569), (5, .int v563), (0, .ref b9), (1, .ref (gad (xz x) 0)), (2, .ref (gad (xz x) 122)), (3, .ref (gad (xz x) 162)), (4, .int a558)]) dL_law_2128 (by decide) rfl ?_
  refine g_aload_n XU (j := 4) dL_law_2130 rfl rfl ?_
  refine gc_L_116 XU gT_c122 (ct_X11_thrown XU.htr ) (by decide) (Nat.le_of_ble_eq_true rfl) dL_law_2131 ?_
  refine g_iload XU (j := 1) dL_law_2134 rfl ?_
  refine g_icmp_eq XU (tgt := 2141) dL_law_2136 (by decide) (fun hb => ?_) (fun hb => ?_)
  · have h := ite_t hb h
    refine g_iload XU (j := 1) dL_law_2141 rfl ?_
    refine g_if_ne XU (tgt := 2158) dL_law_2143 (by decide) (fun hb => ?_) (fun hb => ?_)
    · have h := ite_f hb h
      refine g_goto XU (tgt := 2434) dL_law_2158 (by decide) ?_
      refine g_iinc XU (j := 6) (w := a558 + (7 : Int32)) (lv' := [(6, .int v569), (5, .int v563), (0, .ref b9), (1, .ref (gad (xz x) 0)), (2, .ref (gad (xz x) 122)), (3, .ref (gad (xz x) 162))]) dL_law_2434 rfl (by rw [ii_7]) (by decide) (fun _ => rfl) (fun v571 e572 => ?_)
      have h := bnd_e e572 h
      refine g_goto XU (tgt := 23) dL_law_2437 (by decide) ?_
      refine g_lv [3, 4, 5, 6, 0] rfl ?_
      exact hrec v571 M568 h
    · have h := ite_t hb h
      refine g_aload_n XU (j := 5) dL_law_2146 rfl rfl ?_
      refine g_iconst XU (v := 0) dL_law_2147 (by decide) ?_
      refine g_lald XU gT_c162 (by decide +kernel) dL_law_2148 ?_
      rw [tn_0]
      refine g_iload XU (j := 0) dL_law_2149 rfl ?_
      refine g_i2l XU dL_law_2151 ?_
      refine g_lcmp XU dL_law_2152 ?_
      refine g_if_eq XU (tgt := 2158) dL_law_2153 (by decide) (fun hb => ?_) (fun hb => ?_)
      · have h := ite_t hb h
        refine g_goto XU (tgt := 2434) dL_law_2158 (by decide) ?_
        refine g_iinc XU (j := 6) (w := a558 + (7 : Int32)) (lv' := [(6, .int v569), (5, .int v563), (0, .ref b9), (1, .ref (gad (xz x) 0)), (2, .ref (gad (xz x) 122)), (3, .ref (gad (xz x) 162))]) dL_law_2434 rfl (by rw [ii_7]) (by decide) (fun _ => rfl) (fun v573 e574 => ?_)
        have h := bnd_e e574 h
        refine g_goto XU (tgt := 23) dL_law_2437 (by decide) ?_
        refine g_lv [3, 4, 5, 6, 0] rfl ?_
        exact hrec v573 M568 h
      · have h := ite_f hb h
        refine g_iconst XU (v := 0) dL_law_2156 (by decide) ?_
        exact absurd (Option.some.inj h).symm (hno _ _)
  · have h := ite_f hb h
    refine g_iconst XU (v := 0) dL_law_2139 (by decide) ?_
    exact absurd (Option.some.inj h).symm (hno _ _)
def bk_L_law_2161_23 (F : Nat) (L9 : Nat) (xs9 : Nat → Int32) (rec : Int32 → GM → Option (GM ⊕ (Int32 × GM))) (a575 : Int32) (M : GM) : Option (GM ⊕ (Int32 × GM)) := bndO (f_X10_colours F M) (fun (v577, M578) => bndO (f_X11_colours F M578) (fun (v580, M581) => if v577 = v580 then (bnd (a575 + (7 : Int32)) (fun v582 => rec v582 M581)) else (some (Sum.inr ((0 : Int32), M581)))))
set_option maxHeartbeats 4000000 in
set_option maxRecDepth 100000 in
theorem bw_L_law_2161_23 {x : GX} (X : GC x cL_law 9 RL 11) {a575 : Int32}   {F : Nat} {b9 L9 : Nat} {xs9 : Nat → Int32} {rec : Int32 → GM → Option (GM ⊕ (Int32 × GM))} {M : GM} {r9 : (GM ⊕ (Int32 × GM))} (XU : GC (xup x) cL_law 9 RL 11) (hroom : xcells x + 1 ≤ (xR x).cells ∧ xslots x + 6 ≤ (xR x).slots) (hsc : gScr x b9 L9 xs9) (hnc : gNcs (xs x)) (hno : ∀ (v8 : Int32) (M8 : GM), r9 ≠ Sum.inr (v8, M8)) (hE : ∀  (M9 : GM), r9 = Sum.inl M9 → WG x M9 [] 2440 []) (hrec : ∀ (a4_9 : Int32) (M9 : GM), rec a4_9 M9 = some r9 → WG (xup x) M9 [(0, .ref b9), (1, .ref (gad (xz x) 0)), (2, .ref (gad (xz x) 122)), (3, .ref (gad (xz x) 162)), (4, .int a4_9)] 23 []) (h : bk_L_law_2161_23 F L9 xs9 rec a575 M = some r9) : WG x M [(0, .ref b9), (1, .ref (gad (xz x) 0)), (2, .ref (gad (xz x) 122)), (3, .ref (gad (xz x) 162)), (4, .int a575)] 2161 [] := by
  unfold bk_L_law_2161_23 at h
  refine g_aload_n X (j := 1) dL_law_2161 rfl rfl ?_
  obtain ⟨⟨v577, M578⟩, hc576, h⟩ := bndO_e h
  refine gc_L_216 X gT_c0 (ct_X10_colours X.htr  hc576) (by decide) (Nat.le_of_ble_eq_true rfl) dL_law_2162 ?_
  refine g_aload_n X (j := 2) dL_law_2165 rfl rfl ?_
  obtain ⟨⟨v580, M581⟩, hc579, h⟩ := bndO_e h
  refine gc_L_219 X gT_c122 (ct_X11_colours X.htr  hc579) (by decide) (Nat.le_of_ble_eq_true rfl) dL_law_2166 ?_
  refine g_icmp_eq X (tgt := 2434) dL_law_2169 (by decide) (fun hb => ?_) (fun hb => ?_)
  · have h := ite_t hb h
    refine g_iinc X (j := 4) (w := a575 + (7 : Int32)) (lv' := [(0, .ref b9), (1, .ref (gad (xz x) 0)), (2, .ref (gad (xz x) 122)), (3, .ref (gad (xz x) 162))]) dL_law_2434 rfl (by rw [ii_7]) (by decide) (fun _ => rfl) (fun v582 e583 => ?_)
    have h := bnd_e e583 h
    refine g_goto X (tgt := 23) dL_law_2437 (by decide) ?_
    refine g_lv [1, 2, 3, 4, 0] rfl ?_
    refine g_up ?_
    exact hrec v582 M581 h
  · have h := ite_f hb h
    refine g_iconst X (v := 0) dL_law_2172 (by decide) ?_
    exact absurd (Option.some.inj h).symm (hno _ _)
def bk_L_law_2174_23 (F : Nat) (L9 : Nat) (xs9 : Nat → Int32) (rec : Int32 → GM → Option (GM ⊕ (Int32 × GM))) (a584 : Int32) (M : GM) : Option (GM ⊕ (Int32 × GM)) := grd (gIn (a584 + (1 : Int32)) L9) (grd (gIn (a584 + (2 : Int32)) L9) (bndO (f_L_colourNow F (xs9 (a584 + (1 : Int32)).toNatClampNeg) (xs9 (a584 + (2 : Int32)).toNatClampNeg) M) (fun (v588, M589) => bnd v588 (fun v590 => grd (gIn (a584 + (1 : Int32)) L9) (grd (gIn (a584 + (2 : Int32)) L9) (bndO (f_X11_colourNow F (xs9 (a584 + (1 : Int32)).toNatClampNeg) (xs9 (a584 + (2 : Int32)).toNatClampNeg) M589) (fun (v595, M596) => bnd v595 (fun v597 => if (f_X11_thrown M596) = v590 then (if v590 = 0 then (if (lg_cmp (gL M596 162 0) v597.toInt64) = 0 then (bnd (a584 + (7 : Int32)) (fun v601 => rec v601 M596)) else (some (Sum.inr ((0 : Int32), M596)))) else (bnd (a584 + (7 : Int32)) (fun v599 => rec v599 M596))) else (some (Sum.inr ((0 : Int32), M596)))))))))))
set_option maxHeartbeats 4000000 in
set_option maxRecDepth 100000 in
theorem bw_L_law_2174_23 {x : GX} (X : GC x cL_law 9 RL 11) {a584 : Int32}   {F : Nat} {b9 L9 : Nat} {xs9 : Nat → Int32} {rec : Int32 → GM → Option (GM ⊕ (Int32 × GM))} {M : GM} {r9 : (GM ⊕ (Int32 × GM))} (XU : GC (xup x) cL_law 9 RL 11) (hroom : xcells x + 1 ≤ (xR x).cells ∧ xslots x + 6 ≤ (xR x).slots) (hsc : gScr x b9 L9 xs9) (hnc : gNcs (xs x)) (hno : ∀ (v8 : Int32) (M8 : GM), r9 ≠ Sum.inr (v8, M8)) (hE : ∀  (M9 : GM), r9 = Sum.inl M9 → WG x M9 [] 2440 []) (hrec : ∀ (a4_9 : Int32) (M9 : GM), rec a4_9 M9 = some r9 → WG (xup x) M9 [(0, .ref b9), (1, .ref (gad (xz x) 0)), (2, .ref (gad (xz x) 122)), (3, .ref (gad (xz x) 162)), (4, .int a4_9)] 23 []) (h : bk_L_law_2174_23 F L9 xs9 rec a584 M = some r9) : WG x M [(0, .ref b9), (1, .ref (gad (xz x) 0)), (2, .ref (gad (xz x) 122)), (3, .ref (gad (xz x) 162)), (4, .int a584)] 2174 [] := by
  unfold bk_L_law_2174_23 at h
  refine g_aload_n X (j := 1) dL_law_2174 rfl rfl ?_
  refine g_aload_n X (j := 0) dL_law_2175 rfl rfl ?_
  refine g_iload X (j := 4) dL_law_2176 rfl ?_
  refine g_iconst X (v := 1) dL_law_2178 (by decide) ?_
  refine g_iadd X dL_law_2179 ?_
  obtain ⟨hg585, h⟩ := grd_e h
  refine g_sld X hsc hg585 dL_law_2180 ?_
  refine g_aload_n X (j := 0) dL_law_2181 rfl rfl ?_
  refine g_iload X (j := 4) dL_law_2182 rfl ?_
  refine g_iconst X (v := 2) dL_law_2184 (by decide) ?_
  refine g_iadd X dL_law_2185 ?_
  obtain ⟨hg586, h⟩ := grd_e h
  refine g_sld X hsc hg586 dL_law_2186 ?_
  refine g_aload_n X (j := 3) dL_law_2187 rfl rfl ?_
  obtain ⟨⟨v588, M589⟩, hc587, h⟩ := bndO_e h
  refine gw_L_220 X (ct_L_colourNow X.htr hc587) hnc (by decide) (Nat.le_of_ble_eq_true rfl) hroom dL_law_2188 ?_
  refine g_topi (fun v590 e591 => ?_)
  have h := bnd_e e591 h
  refine g_istore XU (lv' := [(5, .int v590), (0, .ref b9), (1, .ref (gad (xz x) 0)), (2, .ref (gad (xz x) 122)), (3, .ref (gad (xz x) 162)), (4, .int a584)]) dL_law_2191 (by decide) rfl ?_
  refine g_aload_n XU (j := 3) dL_law_2193 rfl rfl ?_
  refine g_aload_n XU (j := 1) dL_law_2194 rfl rfl ?_
  refine g_iload XU (j := 5) dL_law_2195 rfl ?_
  refine g_iconst XU (v := 1) dL_law_2197 (by decide) ?_
  refine g_iadd XU dL_law_2198 ?_
  obtain ⟨hg592, h⟩ := grd_e h
  refine g_sld XU hsc hg592 dL_law_2199 ?_
  refine g_aload_n XU (j := 1) dL_law_2200 rfl rfl ?_
  refine g_iload XU (j := 5) dL_law_2201 rfl ?_
  refine g_iconst XU (v := 2) dL_law_2203 (by decide) ?_
  refine g_iadd XU dL_law_2204 ?_
  obtain ⟨hg593, h⟩ := grd_e h
  refine g_sld XU hsc hg593 dL_law_2205 ?_
  obtain ⟨⟨v595, M596⟩, hc594, h⟩ := bndO_e h
  refine gc_L_222 XU gT_c122 (ct_X11_colourNow XU.htr  hc594) (by decide) (Nat.le_of_ble_eq_true rfl) dL_law_2206 ?_
  refine g_topi (fun v597 e598 => ?_)
  have h := bnd_e e598 h
  refine g_istore XU (lv' := [(6, .int v597), (5, .int v590), (0, .ref b9), (1, .ref (gad (xz x) 0)), (2, .ref (gad (xz x) 122)), (3, .ref (gad (xz x) 162)), (4, .int a584)]) dL_law_2209 (by decide) rfl ?_
  refine g_aload_n XU (j := 4) dL_law_2211 rfl rfl ?_
  refine gc_L_116 XU gT_c122 (ct_X11_thrown XU.htr ) (by decide) (Nat.le_of_ble_eq_true rfl) dL_law_2212 ?_
  refine g_iload XU (j := 1) dL_law_2215 rfl ?_
  refine g_icmp_eq XU (tgt := 2222) dL_law_2217 (by decide) (fun hb => ?_) (fun hb => ?_)
  · have h := ite_t hb h
    refine g_iload XU (j := 1) dL_law_2222 rfl ?_
    refine g_if_ne XU (tgt := 2239) dL_law_2224 (by decide) (fun hb => ?_) (fun hb => ?_)
    · have h := ite_f hb h
      refine g_goto XU (tgt := 2434) dL_law_2239 (by decide) ?_
      refine g_iinc XU (j := 6) (w := a584 + (7 : Int32)) (lv' := [(6, .int v597), (5, .int v590), (0, .ref b9), (1, .ref (gad (xz x) 0)), (2, .ref (gad (xz x) 122)), (3, .ref (gad (xz x) 162))]) dL_law_2434 rfl (by rw [ii_7]) (by decide) (fun _ => rfl) (fun v599 e600 => ?_)
      have h := bnd_e e600 h
      refine g_goto XU (tgt := 23) dL_law_2437 (by decide) ?_
      refine g_lv [3, 4, 5, 6, 0] rfl ?_
      exact hrec v599 M596 h
    · have h := ite_t hb h
      refine g_aload_n XU (j := 5) dL_law_2227 rfl rfl ?_
      refine g_iconst XU (v := 0) dL_law_2228 (by decide) ?_
      refine g_lald XU gT_c162 (by decide +kernel) dL_law_2229 ?_
      rw [tn_0]
      refine g_iload XU (j := 0) dL_law_2230 rfl ?_
      refine g_i2l XU dL_law_2232 ?_
      refine g_lcmp XU dL_law_2233 ?_
      refine g_if_eq XU (tgt := 2239) dL_law_2234 (by decide) (fun hb => ?_) (fun hb => ?_)
      · have h := ite_t hb h
        refine g_goto XU (tgt := 2434) dL_law_2239 (by decide) ?_
        refine g_iinc XU (j := 6) (w := a584 + (7 : Int32)) (lv' := [(6, .int v597), (5, .int v590), (0, .ref b9), (1, .ref (gad (xz x) 0)), (2, .ref (gad (xz x) 122)), (3, .ref (gad (xz x) 162))]) dL_law_2434 rfl (by rw [ii_7]) (by decide) (fun _ => rfl) (fun v601 e602 => ?_)
        have h := bnd_e e602 h
        refine g_goto XU (tgt := 23) dL_law_2437 (by decide) ?_
        refine g_lv [3, 4, 5, 6, 0] rfl ?_
        exact hrec v601 M596 h
      · have h := ite_f hb h
        refine g_iconst XU (v := 0) dL_law_2237 (by decide) ?_
        exact absurd (Option.some.inj h).symm (hno _ _)
  · have h := ite_f hb h
    refine g_iconst XU (v := 0) dL_law_2220 (by decide) ?_
    exact absurd (Option.some.inj h).symm (hno _ _)
def bk_L_law_2242_23 (F : Nat) (L9 : Nat) (xs9 : Nat → Int32) (rec : Int32 → GM → Option (GM ⊕ (Int32 × GM))) (a603 : Int32) (M : GM) : Option (GM ⊕ (Int32 × GM)) := grd (gIn (a603 + (1 : Int32)) L9) (bndO (f_L_seenOf F (xs9 (a603 + (1 : Int32)).toNatClampNeg) M) (fun (v606, M607) => bnd v606 (fun v608 => grd (gIn (a603 + (1 : Int32)) L9) (bndO (f_X11_seenOf F (xs9 (a603 + (1 : Int32)).toNatClampNeg) M607) (fun (v612, M613) => bnd v612 (fun v614 => if (f_X11_thrown M613) = v608 then (if v608 = 0 then (if (lg_cmp (gL M613 162 0) v614.toInt64) = 0 then (bnd (a603 + (7 : Int32)) (fun v618 => rec v618 M613)) else (some (Sum.inr ((0 : Int32), M613)))) else (bnd (a603 + (7 : Int32)) (fun v616 => rec v616 M613))) else (some (Sum.inr ((0 : Int32), M613)))))))))
set_option maxHeartbeats 4000000 in
set_option maxRecDepth 100000 in
theorem bw_L_law_2242_23 {x : GX} (X : GC x cL_law 9 RL 11) {a603 : Int32}   {F : Nat} {b9 L9 : Nat} {xs9 : Nat → Int32} {rec : Int32 → GM → Option (GM ⊕ (Int32 × GM))} {M : GM} {r9 : (GM ⊕ (Int32 × GM))} (XU : GC (xup x) cL_law 9 RL 11) (hroom : xcells x + 1 ≤ (xR x).cells ∧ xslots x + 6 ≤ (xR x).slots) (hsc : gScr x b9 L9 xs9) (hnc : gNcs (xs x)) (hno : ∀ (v8 : Int32) (M8 : GM), r9 ≠ Sum.inr (v8, M8)) (hE : ∀  (M9 : GM), r9 = Sum.inl M9 → WG x M9 [] 2440 []) (hrec : ∀ (a4_9 : Int32) (M9 : GM), rec a4_9 M9 = some r9 → WG (xup x) M9 [(0, .ref b9), (1, .ref (gad (xz x) 0)), (2, .ref (gad (xz x) 122)), (3, .ref (gad (xz x) 162)), (4, .int a4_9)] 23 []) (h : bk_L_law_2242_23 F L9 xs9 rec a603 M = some r9) : WG x M [(0, .ref b9), (1, .ref (gad (xz x) 0)), (2, .ref (gad (xz x) 122)), (3, .ref (gad (xz x) 162)), (4, .int a603)] 2242 [] := by
  unfold bk_L_law_2242_23 at h
  refine g_aload_n X (j := 1) dL_law_2242 rfl rfl ?_
  refine g_aload_n X (j := 0) dL_law_2243 rfl rfl ?_
  refine g_iload X (j := 4) dL_law_2244 rfl ?_
  refine g_iconst X (v := 1) dL_law_2246 (by decide) ?_
  refine g_iadd X dL_law_2247 ?_
  obtain ⟨hg604, h⟩ := grd_e h
  refine g_sld X hsc hg604 dL_law_2248 ?_
  refine g_aload_n X (j := 3) dL_law_2249 rfl rfl ?_
  obtain ⟨⟨v606, M607⟩, hc605, h⟩ := bndO_e h
  refine gw_L_223 X (ct_L_seenOf X.htr hc605) hnc (by decide) (Nat.le_of_ble_eq_true rfl) hroom dL_law_2250 ?_
  refine g_topi (fun v608 e609 => ?_)
  have h := bnd_e e609 h
  refine g_istore XU (lv' := [(5, .int v608), (0, .ref b9), (1, .ref (gad (xz x) 0)), (2, .ref (gad (xz x) 122)), (3, .ref (gad (xz x) 162)), (4, .int a603)]) dL_law_2253 (by decide) rfl ?_
  refine g_aload_n XU (j := 3) dL_law_2255 rfl rfl ?_
  refine g_aload_n XU (j := 1) dL_law_2256 rfl rfl ?_
  refine g_iload XU (j := 5) dL_law_2257 rfl ?_
  refine g_iconst XU (v := 1) dL_law_2259 (by decide) ?_
  refine g_iadd XU dL_law_2260 ?_
  obtain ⟨hg610, h⟩ := grd_e h
  refine g_sld XU hsc hg610 dL_law_2261 ?_
  obtain ⟨⟨v612, M613⟩, hc611, h⟩ := bndO_e h
  refine gc_L_225 XU gT_c122 (ct_X11_seenOf XU.htr  hc611) (by decide) (Nat.le_of_ble_eq_true rfl) dL_law_2262 ?_
  refine g_topi (fun v614 e615 => ?_)
  have h := bnd_e e615 h
  refine g_istore XU (lv' := [(6, .int v614), (5, .int v608), (0, .ref b9), (1, .ref (gad (xz x) 0)), (2, .ref (gad (xz x) 122)), (3, .ref (gad (xz x) 162)), (4, .int a603)]) dL_law_2265 (by decide) rfl ?_
  refine g_aload_n XU (j := 4) dL_law_2267 rfl rfl ?_
  refine gc_L_116 XU gT_c122 (ct_X11_thrown XU.htr ) (by decide) (Nat.le_of_ble_eq_true rfl) dL_law_2268 ?_
  refine g_iload XU (j := 1) dL_law_2271 rfl ?_
  refine g_icmp_eq XU (tgt := 2278) dL_law_2273 (by decide) (fun hb => ?_) (fun hb => ?_)
  · have h := ite_t hb h
    refine g_iload XU (j := 1) dL_law_2278 rfl ?_
    refine g_if_ne XU (tgt := 2295) dL_law_2280 (by decide) (fun hb => ?_) (fun hb => ?_)
    · have h := ite_f hb h
      refine g_goto XU (tgt := 2434) dL_law_2295 (by decide) ?_
      refine g_iinc XU (j := 6) (w := a603 + (7 : Int32)) (lv' := [(6, .int v614), (5, .int v608), (0, .ref b9), (1, .ref (gad (xz x) 0)), (2, .ref (gad (xz x) 122)), (3, .ref (gad (xz x) 162))]) dL_law_2434 rfl (by rw [ii_7]) (by decide) (fun _ => rfl) (fun v616 e617 => ?_)
      have h := bnd_e e617 h
      refine g_goto XU (tgt := 23) dL_law_2437 (by decide) ?_
      refine g_lv [3, 4, 5, 6, 0] rfl ?_
      exact hrec v616 M613 h
    · have h := ite_t hb h
      refine g_aload_n XU (j := 5) dL_law_2283 rfl rfl ?_
      refine g_iconst XU (v := 0) dL_law_2284 (by decide) ?_
      refine g_lald XU gT_c162 (by decide +kernel) dL_law_2285 ?_
      rw [tn_0]
      refine g_iload XU (j := 0) dL_law_2286 rfl ?_
      refine g_i2l XU dL_law_2288 ?_
      refine g_lcmp XU dL_law_2289 ?_
      refine g_if_eq XU (tgt := 2295) dL_law_2290 (by decide) (fun hb => ?_) (fun hb => ?_)
      · have h := ite_t hb h
        refine g_goto XU (tgt := 2434) dL_law_2295 (by decide) ?_
        refine g_iinc XU (j := 6) (w := a603 + (7 : Int32)) (lv' := [(6, .int v614), (5, .int v608), (0, .ref b9), (1, .ref (gad (xz x) 0)), (2, .ref (gad (xz x) 122)), (3, .ref (gad (xz x) 162))]) dL_law_2434 rfl (by rw [ii_7]) (by decide) (fun _ => rfl) (fun v618 e619 => ?_)
        have h := bnd_e e619 h
        refine g_goto XU (tgt := 23) dL_law_2437 (by decide) ?_
        refine g_lv [3, 4, 5, 6, 0] rfl ?_
        exact hrec v618 M613 h
      · have h := ite_f hb h
        refine g_iconst XU (v := 0) dL_law_2293 (by decide) ?_
        exact absurd (Option.some.inj h).symm (hno _ _)
  · have h := ite_f hb h
    refine g_iconst XU (v := 0) dL_law_2276 (by decide) ?_
    exact absurd (Option.some.inj h).symm (hno _ _)
def bk_L_law_2298_23 (F : Nat) (L9 : Nat) (xs9 : Nat → Int32) (rec : Int32 → GM → Option (GM ⊕ (Int32 × GM))) (a620 : Int32) (M : GM) : Option (GM ⊕ (Int32 × GM)) := bndO (f_X10_greatest F M) (fun (v622, M623) => bndO (f_X11_greatest F M623) (fun (v625, M626) => if v622 = v625 then (bnd (a620 + (7 : Int32)) (fun v627 => rec v627 M626)) else (some (Sum.inr ((0 : Int32), M626)))))
set_option maxHeartbeats 4000000 in
set_option maxRecDepth 100000 in
theorem bw_L_law_2298_23 {x : GX} (X : GC x cL_law 9 RL 11) {a620 : Int32}   {F : Nat} {b9 L9 : Nat} {xs9 : Nat → Int32} {rec : Int32 → GM → Option (GM ⊕ (Int32 × GM))} {M : GM} {r9 : (GM ⊕ (Int32 × GM))} (XU : GC (xup x) cL_law 9 RL 11) (hroom : xcells x + 1 ≤ (xR x).cells ∧ xslots x + 6 ≤ (xR x).slots) (hsc : gScr x b9 L9 xs9) (hnc : gNcs (xs x)) (hno : ∀ (v8 : Int32) (M8 : GM), r9 ≠ Sum.inr (v8, M8)) (hE : ∀  (M9 : GM), r9 = Sum.inl M9 → WG x M9 [] 2440 []) (hrec : ∀ (a4_9 : Int32) (M9 : GM), rec a4_9 M9 = some r9 → WG (xup x) M9 [(0, .ref b9), (1, .ref (gad (xz x) 0)), (2, .ref (gad (xz x) 122)), (3, .ref (gad (xz x) 162)), (4, .int a4_9)] 23 []) (h : bk_L_law_2298_23 F L9 xs9 rec a620 M = some r9) : WG x M [(0, .ref b9), (1, .ref (gad (xz x) 0)), (2, .ref (gad (xz x) 122)), (3, .ref (gad (xz x) 162)), (4, .int a620)] 2298 [] := by
  unfold bk_L_law_2298_23 at h
  refine g_aload_n X (j := 1) dL_law_2298 rfl rfl ?_
  obtain ⟨⟨v622, M623⟩, hc621, h⟩ := bndO_e h
  refine gc_L_226 X gT_c0 (ct_X10_greatest X.htr  hc621) (by decide) (Nat.le_of_ble_eq_true rfl) dL_law_2299 ?_
  refine g_aload_n X (j := 2) dL_law_2302 rfl rfl ?_
  obtain ⟨⟨v625, M626⟩, hc624, h⟩ := bndO_e h
  refine gc_L_229 X gT_c122 (ct_X11_greatest X.htr  hc624) (by decide) (Nat.le_of_ble_eq_true rfl) dL_law_2303 ?_
  refine g_icmp_eq X (tgt := 2434) dL_law_2306 (by decide) (fun hb => ?_) (fun hb => ?_)
  · have h := ite_t hb h
    refine g_iinc X (j := 4) (w := a620 + (7 : Int32)) (lv' := [(0, .ref b9), (1, .ref (gad (xz x) 0)), (2, .ref (gad (xz x) 122)), (3, .ref (gad (xz x) 162))]) dL_law_2434 rfl (by rw [ii_7]) (by decide) (fun _ => rfl) (fun v627 e628 => ?_)
    have h := bnd_e e628 h
    refine g_goto X (tgt := 23) dL_law_2437 (by decide) ?_
    refine g_lv [1, 2, 3, 4, 0] rfl ?_
    refine g_up ?_
    exact hrec v627 M626 h
  · have h := ite_f hb h
    refine g_iconst X (v := 0) dL_law_2309 (by decide) ?_
    exact absurd (Option.some.inj h).symm (hno _ _)
def bk_L_law_2311_23 (F : Nat) (L9 : Nat) (xs9 : Nat → Int32) (rec : Int32 → GM → Option (GM ⊕ (Int32 × GM))) (a629 : Int32) (M : GM) : Option (GM ⊕ (Int32 × GM)) := grd (gIn (a629 + (1 : Int32)) L9) (grd (gIn (a629 + (2 : Int32)) L9) (bndO (f_L_glassAt F (xs9 (a629 + (1 : Int32)).toNatClampNeg) (xs9 (a629 + (2 : Int32)).toNatClampNeg) M) (fun (v633, M634) => bnd v633 (fun v635 => grd (gIn (a629 + (1 : Int32)) L9) (grd (gIn (a629 + (2 : Int32)) L9) (bndO (f_X11_glassAt F (xs9 (a629 + (1 : Int32)).toNatClampNeg) (xs9 (a629 + (2 : Int32)).toNatClampNeg) M634) (fun (v640, M641) => bnd v640 (fun v642 => if (f_X11_thrown M641) = v635 then (if v635 = 0 then (if (lg_cmp (gL M641 162 0) v642.toInt64) = 0 then (bnd (a629 + (7 : Int32)) (fun v646 => rec v646 M641)) else (some (Sum.inr ((0 : Int32), M641)))) else (bnd (a629 + (7 : Int32)) (fun v644 => rec v644 M641))) else (some (Sum.inr ((0 : Int32), M641)))))))))))
set_option maxHeartbeats 4000000 in
set_option maxRecDepth 100000 in
theorem bw_L_law_2311_23 {x : GX} (X : GC x cL_law 9 RL 11) {a629 : Int32}   {F : Nat} {b9 L9 : Nat} {xs9 : Nat → Int32} {rec : Int32 → GM → Option (GM ⊕ (Int32 × GM))} {M : GM} {r9 : (GM ⊕ (Int32 × GM))} (XU : GC (xup x) cL_law 9 RL 11) (hroom : xcells x + 1 ≤ (xR x).cells ∧ xslots x + 6 ≤ (xR x).slots) (hsc : gScr x b9 L9 xs9) (hnc : gNcs (xs x)) (hno : ∀ (v8 : Int32) (M8 : GM), r9 ≠ Sum.inr (v8, M8)) (hE : ∀  (M9 : GM), r9 = Sum.inl M9 → WG x M9 [] 2440 []) (hrec : ∀ (a4_9 : Int32) (M9 : GM), rec a4_9 M9 = some r9 → WG (xup x) M9 [(0, .ref b9), (1, .ref (gad (xz x) 0)), (2, .ref (gad (xz x) 122)), (3, .ref (gad (xz x) 162)), (4, .int a4_9)] 23 []) (h : bk_L_law_2311_23 F L9 xs9 rec a629 M = some r9) : WG x M [(0, .ref b9), (1, .ref (gad (xz x) 0)), (2, .ref (gad (xz x) 122)), (3, .ref (gad (xz x) 162)), (4, .int a629)] 2311 [] := by
  unfold bk_L_law_2311_23 at h
  refine g_aload_n X (j := 1) dL_law_2311 rfl rfl ?_
  refine g_aload_n X (j := 0) dL_law_2312 rfl rfl ?_
  refine g_iload X (j := 4) dL_law_2313 rfl ?_
  refine g_iconst X (v := 1) dL_law_2315 (by decide) ?_
  refine g_iadd X dL_law_2316 ?_
  obtain ⟨hg630, h⟩ := grd_e h
  refine g_sld X hsc hg630 dL_law_2317 ?_
  refine g_aload_n X (j := 0) dL_law_2318 rfl rfl ?_
  refine g_iload X (j := 4) dL_law_2319 rfl ?_
  refine g_iconst X (v := 2) dL_law_2321 (by decide) ?_
  refine g_iadd X dL_law_2322 ?_
  obtain ⟨hg631, h⟩ := grd_e h
  refine g_sld X hsc hg631 dL_law_2323 ?_
  refine g_aload_n X (j := 3) dL_law_2324 rfl rfl ?_
  obtain ⟨⟨v633, M634⟩, hc632, h⟩ := bndO_e h
  refine gw_L_230 X (ct_L_glassAt X.htr hc632) hnc (by decide) (Nat.le_of_ble_eq_true rfl) hroom dL_law_2325 ?_
  refine g_topi (fun v635 e636 => ?_)
  have h := bnd_e e636 h
  refine g_istore XU (lv' := [(5, .int v635), (0, .ref b9), (1, .ref (gad (xz x) 0)), (2, .ref (gad (xz x) 122)), (3, .ref (gad (xz x) 162)), (4, .int a629)]) dL_law_2328 (by decide) rfl ?_
  refine g_aload_n XU (j := 3) dL_law_2330 rfl rfl ?_
  refine g_aload_n XU (j := 1) dL_law_2331 rfl rfl ?_
  refine g_iload XU (j := 5) dL_law_2332 rfl ?_
  refine g_iconst XU (v := 1) dL_law_2334 (by decide) ?_
  refine g_iadd XU dL_law_2335 ?_
  obtain ⟨hg637, h⟩ := grd_e h
  refine g_sld XU hsc hg637 dL_law_2336 ?_
  refine g_aload_n XU (j := 1) dL_law_2337 rfl rfl ?_
  refine g_iload XU (j := 5) dL_law_2338 rfl ?_
  refine g_iconst XU (v := 2) dL_law_2340 (by decide) ?_
  refine g_iadd XU dL_law_2341 ?_
  obtain ⟨hg638, h⟩ := grd_e h
  refine g_sld XU hsc hg638 dL_law_2342 ?_
  obtain ⟨⟨v640, M641⟩, hc639, h⟩ := bndO_e h
  refine gc_L_232 XU gT_c122 (ct_X11_glassAt XU.htr  hc639) (by decide) (Nat.le_of_ble_eq_true rfl) dL_law_2343 ?_
  refine g_topi (fun v642 e643 => ?_)
  have h := bnd_e e643 h
  refine g_istore XU (lv' := [(6, .int v642), (5, .int v635), (0, .ref b9), (1, .ref (gad (xz x) 0)), (2, .ref (gad (xz x) 122)), (3, .ref (gad (xz x) 162)), (4, .int a629)]) dL_law_2346 (by decide) rfl ?_
  refine g_aload_n XU (j := 4) dL_law_2348 rfl rfl ?_
  refine gc_L_116 XU gT_c122 (ct_X11_thrown XU.htr ) (by decide) (Nat.le_of_ble_eq_true rfl) dL_law_2349 ?_
  refine g_iload XU (j := 1) dL_law_2352 rfl ?_
  refine g_icmp_eq XU (tgt := 2359) dL_law_2354 (by decide) (fun hb => ?_) (fun hb => ?_)
  · have h := ite_t hb h
    refine g_iload XU (j := 1) dL_law_2359 rfl ?_
    refine g_if_ne XU (tgt := 2376) dL_law_2361 (by decide) (fun hb => ?_) (fun hb => ?_)
    · have h := ite_f hb h
      refine g_goto XU (tgt := 2434) dL_law_2376 (by decide) ?_
      refine g_iinc XU (j := 6) (w := a629 + (7 : Int32)) (lv' := [(6, .int v642), (5, .int v635), (0, .ref b9), (1, .ref (gad (xz x) 0)), (2, .ref (gad (xz x) 122)), (3, .ref (gad (xz x) 162))]) dL_law_2434 rfl (by rw [ii_7]) (by decide) (fun _ => rfl) (fun v644 e645 => ?_)
      have h := bnd_e e645 h
      refine g_goto XU (tgt := 23) dL_law_2437 (by decide) ?_
      refine g_lv [3, 4, 5, 6, 0] rfl ?_
      exact hrec v644 M641 h
    · have h := ite_t hb h
      refine g_aload_n XU (j := 5) dL_law_2364 rfl rfl ?_
      refine g_iconst XU (v := 0) dL_law_2365 (by decide) ?_
      refine g_lald XU gT_c162 (by decide +kernel) dL_law_2366 ?_
      rw [tn_0]
      refine g_iload XU (j := 0) dL_law_2367 rfl ?_
      refine g_i2l XU dL_law_2369 ?_
      refine g_lcmp XU dL_law_2370 ?_
      refine g_if_eq XU (tgt := 2376) dL_law_2371 (by decide) (fun hb => ?_) (fun hb => ?_)
      · have h := ite_t hb h
        refine g_goto XU (tgt := 2434) dL_law_2376 (by decide) ?_
        refine g_iinc XU (j := 6) (w := a629 + (7 : Int32)) (lv' := [(6, .int v642), (5, .int v635), (0, .ref b9), (1, .ref (gad (xz x) 0)), (2, .ref (gad (xz x) 122)), (3, .ref (gad (xz x) 162))]) dL_law_2434 rfl (by rw [ii_7]) (by decide) (fun _ => rfl) (fun v646 e647 => ?_)
        have h := bnd_e e647 h
        refine g_goto XU (tgt := 23) dL_law_2437 (by decide) ?_
        refine g_lv [3, 4, 5, 6, 0] rfl ?_
        exact hrec v646 M641 h
      · have h := ite_f hb h
        refine g_iconst XU (v := 0) dL_law_2374 (by decide) ?_
        exact absurd (Option.some.inj h).symm (hno _ _)
  · have h := ite_f hb h
    refine g_iconst XU (v := 0) dL_law_2357 (by decide) ?_
    exact absurd (Option.some.inj h).symm (hno _ _)
def bk_L_law_2379_23 (F : Nat) (L9 : Nat) (xs9 : Nat → Int32) (rec : Int32 → GM → Option (GM ⊕ (Int32 × GM))) (a648 : Int32) (M : GM) : Option (GM ⊕ (Int32 × GM)) := bndO (f_X10_brightness F M) (fun y650 => bnd y650 (fun y651 => bndO (f_X11_brightness F M) (fun (y654, M655) => bnd y654 (fun y656 => if (Op.cmpValue (FP.dcmp y651 y656) CmpOp.l) = 0 then (bnd (a648 + (7 : Int32)) (fun v658 => rec v658 M655)) else (if (Op.cmpValue (FP.dcmp y651 y651) CmpOp.l) = 0 then (some (Sum.inr ((0 : Int32), M655))) else (if (Op.cmpValue (FP.dcmp y656 y656) CmpOp.l) = 0 then (some (Sum.inr ((0 : Int32), M655))) else (bnd (a648 + (7 : Int32)) (fun v660 => rec v660 M655))))))))
set_option maxHeartbeats 4000000 in
set_option maxRecDepth 100000 in
theorem bw_L_law_2379_23 {x : GX} (X : GC x cL_law 9 RL 11) {a648 : Int32}   {F : Nat} {b9 L9 : Nat} {xs9 : Nat → Int32} {rec : Int32 → GM → Option (GM ⊕ (Int32 × GM))} {M : GM} {r9 : (GM ⊕ (Int32 × GM))} (XU : GC (xup x) cL_law 9 RL 11) (hroom : xcells x + 1 ≤ (xR x).cells ∧ xslots x + 6 ≤ (xR x).slots) (hsc : gScr x b9 L9 xs9) (hnc : gNcs (xs x)) (hno : ∀ (v8 : Int32) (M8 : GM), r9 ≠ Sum.inr (v8, M8)) (hE : ∀  (M9 : GM), r9 = Sum.inl M9 → WG x M9 [] 2440 []) (hrec : ∀ (a4_9 : Int32) (M9 : GM), rec a4_9 M9 = some r9 → WG (xup x) M9 [(0, .ref b9), (1, .ref (gad (xz x) 0)), (2, .ref (gad (xz x) 122)), (3, .ref (gad (xz x) 162)), (4, .int a4_9)] 23 []) (h : bk_L_law_2379_23 F L9 xs9 rec a648 M = some r9) : WG x M [(0, .ref b9), (1, .ref (gad (xz x) 0)), (2, .ref (gad (xz x) 122)), (3, .ref (gad (xz x) 162)), (4, .int a648)] 2379 [] := by
  unfold bk_L_law_2379_23 at h
  refine g_aload_n X (j := 1) dL_law_2379 rfl rfl ?_
  obtain ⟨y650, hc649, h⟩ := bndO_e h
  refine gc_L_233 X gT_c0 (ct_X10_brightness X.htr  hc649) (by decide) (Nat.le_of_ble_eq_true rfl) dL_law_2380 ?_
  refine g_topd (fun y651 e652 => ?_)
  have h := bnd_e e652 h
  refine g_dstore X (lv' := [(5, .double y651), (0, .ref b9), (1, .ref (gad (xz x) 0)), (2, .ref (gad (xz x) 122)), (3, .ref (gad (xz x) 162)), (4, .int a648)]) dL_law_2383 (by decide) rfl ?_
  refine g_aload_n X (j := 3) dL_law_2385 rfl rfl ?_
  obtain ⟨⟨y654, M655⟩, hc653, h⟩ := bndO_e h
  refine gc_L_237 X gT_c122 (ct_X11_brightness X.htr  hc653) (by decide) (Nat.le_of_ble_eq_true rfl) dL_law_2386 ?_
  refine g_topd (fun y656 e657 => ?_)
  have h := bnd_e e657 h
  refine g_dstore X (lv' := [(7, .double y656), (5, .double y651), (0, .ref b9), (1, .ref (gad (xz x) 0)), (2, .ref (gad (xz x) 122)), (3, .ref (gad (xz x) 162)), (4, .int a648)]) dL_law_2389 (by decide) rfl ?_
  refine g_dload X (j := 1) dL_law_2391 rfl ?_
  refine g_dload X (j := 0) dL_law_2393 rfl ?_
  refine g_dcmp X dL_law_2395 ?_
  refine g_if_eq X (tgt := 2417) dL_law_2396 (by decide) (fun hb => ?_) (fun hb => ?_)
  · have h := ite_t hb h
    refine g_goto X (tgt := 2434) dL_law_2417 (by decide) ?_
    refine g_iinc X (j := 6) (w := a648 + (7 : Int32)) (lv' := [(7, .double y656), (5, .double y651), (0, .ref b9), (1, .ref (gad (xz x) 0)), (2, .ref (gad (xz x) 122)), (3, .ref (gad (xz x) 162))]) dL_law_2434 rfl (by rw [ii_7]) (by decide) (fun _ => rfl) (fun v658 e659 => ?_)
    have h := bnd_e e659 h
    refine g_goto X (tgt := 23) dL_law_2437 (by decide) ?_
    refine g_lv [3, 4, 5, 6, 0] rfl ?_
    refine g_up ?_
    exact hrec v658 M655 h
  · have h := ite_f hb h
    refine g_dload X (j := 1) dL_law_2399 rfl ?_
    refine g_dload X (j := 1) dL_law_2401 rfl ?_
    refine g_dcmp X dL_law_2403 ?_
    refine g_if_eq X (tgt := 2415) dL_law_2404 (by decide) (fun hb => ?_) (fun hb => ?_)
    · have h := ite_t hb h
      refine g_iconst X (v := 0) dL_law_2415 (by decide) ?_
      exact absurd (Option.some.inj h).symm (hno _ _)
    · have h := ite_f hb h
      refine g_dload X (j := 0) dL_law_2407 rfl ?_
      refine g_dload X (j := 0) dL_law_2409 rfl ?_
      refine g_dcmp X dL_law_2411 ?_
      refine g_if_ne X (tgt := 2417) dL_law_2412 (by decide) (fun hb => ?_) (fun hb => ?_)
      · have h := ite_f hb h
        refine g_goto X (tgt := 2434) dL_law_2417 (by decide) ?_
        refine g_iinc X (j := 6) (w := a648 + (7 : Int32)) (lv' := [(7, .double y656), (5, .double y651), (0, .ref b9), (1, .ref (gad (xz x) 0)), (2, .ref (gad (xz x) 122)), (3, .ref (gad (xz x) 162))]) dL_law_2434 rfl (by rw [ii_7]) (by decide) (fun _ => rfl) (fun v660 e661 => ?_)
        have h := bnd_e e661 h
        refine g_goto X (tgt := 23) dL_law_2437 (by decide) ?_
        refine g_lv [3, 4, 5, 6, 0] rfl ?_
        refine g_up ?_
        exact hrec v660 M655 h
      · have h := ite_t hb h
        refine g_iconst X (v := 0) dL_law_2415 (by decide) ?_
        exact absurd (Option.some.inj h).symm (hno _ _)
def bk_L_law_2420_23 (F : Nat) (L9 : Nat) (xs9 : Nat → Int32) (rec : Int32 → GM → Option (GM ⊕ (Int32 × GM))) (a662 : Int32) (M : GM) : Option (GM ⊕ (Int32 × GM)) := bndT (f_X10_digest F M) (fun _ => none) (fun (w664, M665) => bndO (f_X11_digest F M665) (fun (w667, M668) => if (lg_cmp w664 w667) = 0 then (bnd (a662 + (7 : Int32)) (fun v669 => rec v669 M668)) else (some (Sum.inr ((0 : Int32), M668)))))
set_option maxHeartbeats 4000000 in
set_option maxRecDepth 100000 in
theorem bw_L_law_2420_23 {x : GX} (X : GC x cL_law 9 RL 11) {a662 : Int32}   {F : Nat} {b9 L9 : Nat} {xs9 : Nat → Int32} {rec : Int32 → GM → Option (GM ⊕ (Int32 × GM))} {M : GM} {r9 : (GM ⊕ (Int32 × GM))} (XU : GC (xup x) cL_law 9 RL 11) (hroom : xcells x + 1 ≤ (xR x).cells ∧ xslots x + 6 ≤ (xR x).slots) (hsc : gScr x b9 L9 xs9) (hnc : gNcs (xs x)) (hno : ∀ (v8 : Int32) (M8 : GM), r9 ≠ Sum.inr (v8, M8)) (hE : ∀  (M9 : GM), r9 = Sum.inl M9 → WG x M9 [] 2440 []) (hrec : ∀ (a4_9 : Int32) (M9 : GM), rec a4_9 M9 = some r9 → WG (xup x) M9 [(0, .ref b9), (1, .ref (gad (xz x) 0)), (2, .ref (gad (xz x) 122)), (3, .ref (gad (xz x) 162)), (4, .int a4_9)] 23 []) (h : bk_L_law_2420_23 F L9 xs9 rec a662 M = some r9) : WG x M [(0, .ref b9), (1, .ref (gad (xz x) 0)), (2, .ref (gad (xz x) 122)), (3, .ref (gad (xz x) 162)), (4, .int a662)] 2420 [] := by
  unfold bk_L_law_2420_23 at h
  refine g_aload_n X (j := 1) dL_law_2420 rfl rfl ?_
  rcases bndT_e h with ⟨_, hc663, h⟩ | ⟨⟨w664, M665⟩, hc663, h⟩
  · cases h
  refine gc_L_238 X gT_c0 (ct_X10_digest X.htr  hc663) (by decide) (Nat.le_of_ble_eq_true rfl) dL_law_2421 ?_
  refine g_aload_n X (j := 2) dL_law_2424 rfl rfl ?_
  obtain ⟨⟨w667, M668⟩, hc666, h⟩ := bndO_e h
  refine gc_L_242 X gT_c122 (ct_X11_digest X.htr  hc666) (by decide) (Nat.le_of_ble_eq_true rfl) dL_law_2425 ?_
  refine g_lcmp X dL_law_2428 ?_
  refine g_if_eq X (tgt := 2434) dL_law_2429 (by decide) (fun hb => ?_) (fun hb => ?_)
  · have h := ite_t hb h
    refine g_iinc X (j := 4) (w := a662 + (7 : Int32)) (lv' := [(0, .ref b9), (1, .ref (gad (xz x) 0)), (2, .ref (gad (xz x) 122)), (3, .ref (gad (xz x) 162))]) dL_law_2434 rfl (by rw [ii_7]) (by decide) (fun _ => rfl) (fun v669 e670 => ?_)
    have h := bnd_e e670 h
    refine g_goto X (tgt := 23) dL_law_2437 (by decide) ?_
    refine g_lv [1, 2, 3, 4, 0] rfl ?_
    refine g_up ?_
    exact hrec v669 M668 h
  · have h := ite_f hb h
    refine g_iconst X (v := 0) dL_law_2432 (by decide) ?_
    exact absurd (Option.some.inj h).symm (hno _ _)
def st_L_law (F : Nat) (L9 : Nat) (xs9 : Nat → Int32) (rec : Int32 → GM → Option (GM ⊕ (Int32 × GM))) (a4 : Int32) (M : GM) : Option (GM ⊕ (Int32 × GM)) := if ((Int32.ofNat L9) - (7 : Int32)) < a4 then (some (Sum.inl M)) else (grd (gIn a4 L9) (if (xs9 a4.toNatClampNeg) &&& (63 : Int32) = (0 : Int32) then (bk_L_law_200_23 F L9 xs9 rec a4 M) else if (xs9 a4.toNatClampNeg) &&& (63 : Int32) = (1 : Int32) then (bk_L_law_318_23 F L9 xs9 rec a4 M) else if (xs9 a4.toNatClampNeg) &&& (63 : Int32) = (2 : Int32) then (bk_L_law_410_23 F L9 xs9 rec a4 M) else if (xs9 a4.toNatClampNeg) &&& (63 : Int32) = (3 : Int32) then (bk_L_law_478_23 F L9 xs9 rec a4 M) else if (xs9 a4.toNatClampNeg) &&& (63 : Int32) = (4 : Int32) then (bk_L_law_628_23 F L9 xs9 rec a4 M) else if (xs9 a4.toNatClampNeg) &&& (63 : Int32) = (5 : Int32) then (bk_L_law_719_23 F L9 xs9 rec a4 M) else if (xs9 a4.toNatClampNeg) &&& (63 : Int32) = (6 : Int32) then (bk_L_law_811_23 F L9 xs9 rec a4 M) else if (xs9 a4.toNatClampNeg) &&& (63 : Int32) = (7 : Int32) then (bk_L_law_902_23 F L9 xs9 rec a4 M) else if (xs9 a4.toNatClampNeg) &&& (63 : Int32) = (8 : Int32) then (bk_L_law_1006_23 F L9 xs9 rec a4 M) else if (xs9 a4.toNatClampNeg) &&& (63 : Int32) = (9 : Int32) then (bk_L_law_1074_23 F L9 xs9 rec a4 M) else if (xs9 a4.toNatClampNeg) &&& (63 : Int32) = (10 : Int32) then (bk_L_law_1130_23 F L9 xs9 rec a4 M) else if (xs9 a4.toNatClampNeg) &&& (63 : Int32) = (11 : Int32) then (bk_L_law_1143_23 F L9 xs9 rec a4 M) else if (xs9 a4.toNatClampNeg) &&& (63 : Int32) = (12 : Int32) then (bk_L_law_1156_23 F L9 xs9 rec a4 M) else if (xs9 a4.toNatClampNeg) &&& (63 : Int32) = (13 : Int32) then (bk_L_law_1224_23 F L9 xs9 rec a4 M) else if (xs9 a4.toNatClampNeg) &&& (63 : Int32) = (14 : Int32) then (bk_L_law_1280_23 F L9 xs9 rec a4 M) else if (xs9 a4.toNatClampNeg) &&& (63 : Int32) = (15 : Int32) then (bk_L_law_1360_23 F L9 xs9 rec a4 M) else if (xs9 a4.toNatClampNeg) &&& (63 : Int32) = (16 : Int32) then (bk_L_law_1440_23 F L9 xs9 rec a4 M) else if (xs9 a4.toNatClampNeg) &&& (63 : Int32) = (17 : Int32) then (bk_L_law_1496_23 F L9 xs9 rec a4 M) else if (xs9 a4.toNatClampNeg) &&& (63 : Int32) = (18 : Int32) then (bk_L_law_1552_23 F L9 xs9 rec a4 M) else if (xs9 a4.toNatClampNeg) &&& (63 : Int32) = (19 : Int32) then (bk_L_law_1639_23 F L9 xs9 rec a4 M) else if (xs9 a4.toNatClampNeg) &&& (63 : Int32) = (20 : Int32) then (bk_L_law_1719_23 F L9 xs9 rec a4 M) else if (xs9 a4.toNatClampNeg) &&& (63 : Int32) = (21 : Int32) then (bk_L_law_1799_23 F L9 xs9 rec a4 M) else if (xs9 a4.toNatClampNeg) &&& (63 : Int32) = (22 : Int32) then (bk_L_law_1812_23 F L9 xs9 rec a4 M) else if (xs9 a4.toNatClampNeg) &&& (63 : Int32) = (23 : Int32) then (bk_L_law_1825_23 F L9 xs9 rec a4 M) else if (xs9 a4.toNatClampNeg) &&& (63 : Int32) = (24 : Int32) then (bk_L_law_1838_23 F L9 xs9 rec a4 M) else if (xs9 a4.toNatClampNeg) &&& (63 : Int32) = (25 : Int32) then (bk_L_law_1901_23 F L9 xs9 rec a4 M) else if (xs9 a4.toNatClampNeg) &&& (63 : Int32) = (26 : Int32) then (bk_L_law_1969_23 F L9 xs9 rec a4 M) else if (xs9 a4.toNatClampNeg) &&& (63 : Int32) = (27 : Int32) then (bk_L_law_2037_23 F L9 xs9 rec a4 M) else if (xs9 a4.toNatClampNeg) &&& (63 : Int32) = (28 : Int32) then (bk_L_law_2105_23 F L9 xs9 rec a4 M) else if (xs9 a4.toNatClampNeg) &&& (63 : Int32) = (29 : Int32) then (bk_L_law_2161_23 F L9 xs9 rec a4 M) else if (xs9 a4.toNatClampNeg) &&& (63 : Int32) = (30 : Int32) then (bk_L_law_2174_23 F L9 xs9 rec a4 M) else if (xs9 a4.toNatClampNeg) &&& (63 : Int32) = (31 : Int32) then (bk_L_law_2242_23 F L9 xs9 rec a4 M) else if (xs9 a4.toNatClampNeg) &&& (63 : Int32) = (32 : Int32) then (bk_L_law_2298_23 F L9 xs9 rec a4 M) else if (xs9 a4.toNatClampNeg) &&& (63 : Int32) = (33 : Int32) then (bk_L_law_2311_23 F L9 xs9 rec a4 M) else if (xs9 a4.toNatClampNeg) &&& (63 : Int32) = (34 : Int32) then (bk_L_law_2379_23 F L9 xs9 rec a4 M) else if (xs9 a4.toNatClampNeg) &&& (63 : Int32) = (35 : Int32) then (bk_L_law_2420_23 F L9 xs9 rec a4 M) else (bnd (a4 + (7 : Int32)) (fun v671 => rec v671 M))))
def lp_L_law (F : Nat) (L9 : Nat) (xs9 : Nat → Int32) : Nat → Int32 → GM → Option (GM ⊕ (Int32 × GM))
  | 0 => fun _ _ => none
  | f + 1 => fun a4 M => st_L_law F L9 xs9 (lp_L_law F L9 xs9 f) a4 M
set_option maxHeartbeats 4000000 in
set_option maxRecDepth 100000 in
theorem sw_L_law {x : GX} (X : GC x cL_law 9 RL 11) {F : Nat} {b9 L9 : Nat} {xs9 : Nat → Int32} {rec : Int32 → GM → Option (GM ⊕ (Int32 × GM))} {r9 : (GM ⊕ (Int32 × GM))} (XU : GC (xup x) cL_law 9 RL 11) (hroom : xcells x + 1 ≤ (xR x).cells ∧ xslots x + 6 ≤ (xR x).slots) (hsc : gScr x b9 L9 xs9) (hnc : gNcs (xs x)) (hno : ∀ (v8 : Int32) (M8 : GM), r9 ≠ Sum.inr (v8, M8)) (hE : ∀  (M9 : GM), r9 = Sum.inl M9 → WG x M9 [] 2440 []) (hrec : ∀ (a4_9 : Int32) (M9 : GM), rec a4_9 M9 = some r9 → WG (xup x) M9 [(0, .ref b9), (1, .ref (gad (xz x) 0)), (2, .ref (gad (xz x) 122)), (3, .ref (gad (xz x) 162)), (4, .int a4_9)] 23 []) (a4 : Int32) (M : GM) (h : st_L_law F L9 xs9 rec a4 M = some r9) : WG x M [(0, .ref b9), (1, .ref (gad (xz x) 0)), (2, .ref (gad (xz x) 122)), (3, .ref (gad (xz x) 162)), (4, .int a4)] 23 [] := by
  unfold st_L_law at h
  refine g_iload X (j := 4) dL_law_23 rfl ?_
  refine g_aload_n X (j := 0) dL_law_25 rfl rfl ?_
  refine g_slen X hsc dL_law_26 ?_
  refine g_bipush X (v := 7) dL_law_27 (by decide) ?_
  refine g_isub X dL_law_29 ?_
  refine g_icmp_gt X (tgt := 2440) dL_law_30 (by decide) (fun hb => ?_) (fun hb => ?_)
  · have h := ite_t hb h
    refine g_lv [] rfl ?_
    exact hE M (Option.some.inj h).symm
  · have h := ite_f hb h
    refine g_aload_n X (j := 0) dL_law_33 rfl rfl ?_
    refine g_iload X (j := 4) dL_law_34 rfl ?_
    obtain ⟨hg1, h⟩ := grd_e h
    refine g_sld X hsc hg1 dL_law_36 ?_
    refine g_bipush X (v := 63) dL_law_37 (by decide) ?_
    refine g_iand X dL_law_39 ?_
    by_cases hs0 : (xs9 a4.toNatClampNeg) &&& (63 : Int32) = (0 : Int32)
    · have h := ite_t hs0 h
      refine g_swIn X (tgt := 200) dL_law_40 (by rw [hs0]; decide) (by rw [hs0]; decide) (by rw [hs0]; rfl) (by decide) ?_
      refine g_lv [0, 1, 2, 3, 4] rfl ?_
      exact bw_L_law_200_23 X  XU hroom hsc hnc hno hE hrec h
    have h := ite_f hs0 h
    by_cases hs1 : (xs9 a4.toNatClampNeg) &&& (63 : Int32) = (1 : Int32)
    · have h := ite_t hs1 h
      refine g_swIn X (tgt := 318) dL_law_40 (by rw [hs1]; decide) (by rw [hs1]; decide) (by rw [hs1]; rfl) (by decide) ?_
      refine g_lv [0, 1, 2, 3, 4] rfl ?_
      exact bw_L_law_318_23 X  XU hroom hsc hnc hno hE hrec h
    have h := ite_f hs1 h
    by_cases hs2 : (xs9 a4.toNatClampNeg) &&& (63 : Int32) = (2 : Int32)
    · have h := ite_t hs2 h
      refine g_swIn X (tgt := 410) dL_law_40 (by rw [hs2]; decide) (by rw [hs2]; decide) (by rw [hs2]; rfl) (by decide) ?_
      refine g_lv [0, 1, 2, 3, 4] rfl ?_
      exact bw_L_law_410_23 X  XU hroom hsc hnc hno hE hrec h
    have h := ite_f hs2 h
    by_cases hs3 : (xs9 a4.toNatClampNeg) &&& (63 : Int32) = (3 : Int32)
    · have h := ite_t hs3 h
      refine g_swIn X (tgt := 478) dL_law_40 (by rw [hs3]; decide) (by rw [hs3]; decide) (by rw [hs3]; rfl) (by decide) ?_
      refine g_lv [0, 1, 2, 3, 4] rfl ?_
      exact bw_L_law_478_23 X  XU hroom hsc hnc hno hE hrec h
    have h := ite_f hs3 h
    by_cases hs4 : (xs9 a4.toNatClampNeg) &&& (63 : Int32) = (4 : Int32)
    · have h := ite_t hs4 h
      refine g_swIn X (tgt := 628) dL_law_40 (by rw [hs4]; decide) (by rw [hs4]; decide) (by rw [hs4]; rfl) (by decide) ?_
      refine g_lv [0, 1, 2, 3, 4] rfl ?_
      exact bw_L_law_628_23 X  XU hroom hsc hnc hno hE hrec h
    have h := ite_f hs4 h
    by_cases hs5 : (xs9 a4.toNatClampNeg) &&& (63 : Int32) = (5 : Int32)
    · have h := ite_t hs5 h
      refine g_swIn X (tgt := 719) dL_law_40 (by rw [hs5]; decide) (by rw [hs5]; decide) (by rw [hs5]; rfl) (by decide) ?_
      refine g_lv [0, 1, 2, 3, 4] rfl ?_
      exact bw_L_law_719_23 X  XU hroom hsc hnc hno hE hrec h
    have h := ite_f hs5 h
    by_cases hs6 : (xs9 a4.toNatClampNeg) &&& (63 : Int32) = (6 : Int32)
    · have h := ite_t hs6 h
      refine g_swIn X (tgt := 811) dL_law_40 (by rw [hs6]; decide) (by rw [hs6]; decide) (by rw [hs6]; rfl) (by decide) ?_
      refine g_lv [0, 1, 2, 3, 4] rfl ?_
      exact bw_L_law_811_23 X  XU hroom hsc hnc hno hE hrec h
    have h := ite_f hs6 h
    by_cases hs7 : (xs9 a4.toNatClampNeg) &&& (63 : Int32) = (7 : Int32)
    · have h := ite_t hs7 h
      refine g_swIn X (tgt := 902) dL_law_40 (by rw [hs7]; decide) (by rw [hs7]; decide) (by rw [hs7]; rfl) (by decide) ?_
      refine g_lv [0, 1, 2, 3, 4] rfl ?_
      exact bw_L_law_902_23 X  XU hroom hsc hnc hno hE hrec h
    have h := ite_f hs7 h
    by_cases hs8 : (xs9 a4.toNatClampNeg) &&& (63 : Int32) = (8 : Int32)
    · have h := ite_t hs8 h
      refine g_swIn X (tgt := 1006) dL_law_40 (by rw [hs8]; decide) (by rw [hs8]; decide) (by rw [hs8]; rfl) (by decide) ?_
      refine g_lv [0, 1, 2, 3, 4] rfl ?_
      exact bw_L_law_1006_23 X  XU hroom hsc hnc hno hE hrec h
    have h := ite_f hs8 h
    by_cases hs9 : (xs9 a4.toNatClampNeg) &&& (63 : Int32) = (9 : Int32)
    · have h := ite_t hs9 h
      refine g_swIn X (tgt := 1074) dL_law_40 (by rw [hs9]; decide) (by rw [hs9]; decide) (by rw [hs9]; rfl) (by decide) ?_
      refine g_lv [0, 1, 2, 3, 4] rfl ?_
      exact bw_L_law_1074_23 X  XU hroom hsc hnc hno hE hrec h
    have h := ite_f hs9 h
    by_cases hs10 : (xs9 a4.toNatClampNeg) &&& (63 : Int32) = (10 : Int32)
    · have h := ite_t hs10 h
      refine g_swIn X (tgt := 1130) dL_law_40 (by rw [hs10]; decide) (by rw [hs10]; decide) (by rw [hs10]; rfl) (by decide) ?_
      refine g_lv [0, 1, 2, 3, 4] rfl ?_
      exact bw_L_law_1130_23 X  XU hroom hsc hnc hno hE hrec h
    have h := ite_f hs10 h
    by_cases hs11 : (xs9 a4.toNatClampNeg) &&& (63 : Int32) = (11 : Int32)
    · have h := ite_t hs11 h
      refine g_swIn X (tgt := 1143) dL_law_40 (by rw [hs11]; decide) (by rw [hs11]; decide) (by rw [hs11]; rfl) (by decide) ?_
      refine g_lv [0, 1, 2, 3, 4] rfl ?_
      exact bw_L_law_1143_23 X  XU hroom hsc hnc hno hE hrec h
    have h := ite_f hs11 h
    by_cases hs12 : (xs9 a4.toNatClampNeg) &&& (63 : Int32) = (12 : Int32)
    · have h := ite_t hs12 h
      refine g_swIn X (tgt := 1156) dL_law_40 (by rw [hs12]; decide) (by rw [hs12]; decide) (by rw [hs12]; rfl) (by decide) ?_
      refine g_lv [0, 1, 2, 3, 4] rfl ?_
      exact bw_L_law_1156_23 X  XU hroom hsc hnc hno hE hrec h
    have h := ite_f hs12 h
    by_cases hs13 : (xs9 a4.toNatClampNeg) &&& (63 : Int32) = (13 : Int32)
    · have h := ite_t hs13 h
      refine g_swIn X (tgt := 1224) dL_law_40 (by rw [hs13]; decide) (by rw [hs13]; decide) (by rw [hs13]; rfl) (by decide) ?_
      refine g_lv [0, 1, 2, 3, 4] rfl ?_
      exact bw_L_law_1224_23 X  XU hroom hsc hnc hno hE hrec h
    have h := ite_f hs13 h
    by_cases hs14 : (xs9 a4.toNatClampNeg) &&& (63 : Int32) = (14 : Int32)
    · have h := ite_t hs14 h
      refine g_swIn X (tgt := 1280) dL_law_40 (by rw [hs14]; decide) (by rw [hs14]; decide) (by rw [hs14]; rfl) (by decide) ?_
      refine g_lv [0, 1, 2, 3, 4] rfl ?_
      exact bw_L_law_1280_23 X  XU hroom hsc hnc hno hE hrec h
    have h := ite_f hs14 h
    by_cases hs15 : (xs9 a4.toNatClampNeg) &&& (63 : Int32) = (15 : Int32)
    · have h := ite_t hs15 h
      refine g_swIn X (tgt := 1360) dL_law_40 (by rw [hs15]; decide) (by rw [hs15]; decide) (by rw [hs15]; rfl) (by decide) ?_
      refine g_lv [0, 1, 2, 3, 4] rfl ?_
      exact bw_L_law_1360_23 X  XU hroom hsc hnc hno hE hrec h
    have h := ite_f hs15 h
    by_cases hs16 : (xs9 a4.toNatClampNeg) &&& (63 : Int32) = (16 : Int32)
    · have h := ite_t hs16 h
      refine g_swIn X (tgt := 1440) dL_law_40 (by rw [hs16]; decide) (by rw [hs16]; decide) (by rw [hs16]; rfl) (by decide) ?_
      refine g_lv [0, 1, 2, 3, 4] rfl ?_
      exact bw_L_law_1440_23 X  XU hroom hsc hnc hno hE hrec h
    have h := ite_f hs16 h
    by_cases hs17 : (xs9 a4.toNatClampNeg) &&& (63 : Int32) = (17 : Int32)
    · have h := ite_t hs17 h
      refine g_swIn X (tgt := 1496) dL_law_40 (by rw [hs17]; decide) (by rw [hs17]; decide) (by rw [hs17]; rfl) (by decide) ?_
      refine g_lv [0, 1, 2, 3, 4] rfl ?_
      exact bw_L_law_1496_23 X  XU hroom hsc hnc hno hE hrec h
    have h := ite_f hs17 h
    by_cases hs18 : (xs9 a4.toNatClampNeg) &&& (63 : Int32) = (18 : Int32)
    · have h := ite_t hs18 h
      refine g_swIn X (tgt := 1552) dL_law_40 (by rw [hs18]; decide) (by rw [hs18]; decide) (by rw [hs18]; rfl) (by decide) ?_
      refine g_lv [0, 1, 2, 3, 4] rfl ?_
      exact bw_L_law_1552_23 X  XU hroom hsc hnc hno hE hrec h
    have h := ite_f hs18 h
    by_cases hs19 : (xs9 a4.toNatClampNeg) &&& (63 : Int32) = (19 : Int32)
    · have h := ite_t hs19 h
      refine g_swIn X (tgt := 1639) dL_law_40 (by rw [hs19]; decide) (by rw [hs19]; decide) (by rw [hs19]; rfl) (by decide) ?_
      refine g_lv [0, 1, 2, 3, 4] rfl ?_
      exact bw_L_law_1639_23 X  XU hroom hsc hnc hno hE hrec h
    have h := ite_f hs19 h
    by_cases hs20 : (xs9 a4.toNatClampNeg) &&& (63 : Int32) = (20 : Int32)
    · have h := ite_t hs20 h
      refine g_swIn X (tgt := 1719) dL_law_40 (by rw [hs20]; decide) (by rw [hs20]; decide) (by rw [hs20]; rfl) (by decide) ?_
      refine g_lv [0, 1, 2, 3, 4] rfl ?_
      exact bw_L_law_1719_23 X  XU hroom hsc hnc hno hE hrec h
    have h := ite_f hs20 h
    by_cases hs21 : (xs9 a4.toNatClampNeg) &&& (63 : Int32) = (21 : Int32)
    · have h := ite_t hs21 h
      refine g_swIn X (tgt := 1799) dL_law_40 (by rw [hs21]; decide) (by rw [hs21]; decide) (by rw [hs21]; rfl) (by decide) ?_
      refine g_lv [0, 1, 2, 3, 4] rfl ?_
      exact bw_L_law_1799_23 X  XU hroom hsc hnc hno hE hrec h
    have h := ite_f hs21 h
    by_cases hs22 : (xs9 a4.toNatClampNeg) &&& (63 : Int32) = (22 : Int32)
    · have h := ite_t hs22 h
      refine g_swIn X (tgt := 1812) dL_law_40 (by rw [hs22]; decide) (by rw [hs22]; decide) (by rw [hs22]; rfl) (by decide) ?_
      refine g_lv [0, 1, 2, 3, 4] rfl ?_
      exact bw_L_law_1812_23 X  XU hroom hsc hnc hno hE hrec h
    have h := ite_f hs22 h
    by_cases hs23 : (xs9 a4.toNatClampNeg) &&& (63 : Int32) = (23 : Int32)
    · have h := ite_t hs23 h
      refine g_swIn X (tgt := 1825) dL_law_40 (by rw [hs23]; decide) (by rw [hs23]; decide) (by rw [hs23]; rfl) (by decide) ?_
      refine g_lv [0, 1, 2, 3, 4] rfl ?_
      exact bw_L_law_1825_23 X  XU hroom hsc hnc hno hE hrec h
    have h := ite_f hs23 h
    by_cases hs24 : (xs9 a4.toNatClampNeg) &&& (63 : Int32) = (24 : Int32)
    · have h := ite_t hs24 h
      refine g_swIn X (tgt := 1838) dL_law_40 (by rw [hs24]; decide) (by rw [hs24]; decide) (by rw [hs24]; rfl) (by decide) ?_
      refine g_lv [0, 1, 2, 3, 4] rfl ?_
      exact bw_L_law_1838_23 X  XU hroom hsc hnc hno hE hrec h
    have h := ite_f hs24 h
    by_cases hs25 : (xs9 a4.toNatClampNeg) &&& (63 : Int32) = (25 : Int32)
    · have h := ite_t hs25 h
      refine g_swIn X (tgt := 1901) dL_law_40 (by rw [hs25]; decide) (by rw [hs25]; decide) (by rw [hs25]; rfl) (by decide) ?_
      refine g_lv [0, 1, 2, 3, 4] rfl ?_
      exact bw_L_law_1901_23 X  XU hroom hsc hnc hno hE hrec h
    have h := ite_f hs25 h
    by_cases hs26 : (xs9 a4.toNatClampNeg) &&& (63 : Int32) = (26 : Int32)
    · have h := ite_t hs26 h
      refine g_swIn X (tgt := 1969) dL_law_40 (by rw [hs26]; decide) (by rw [hs26]; decide) (by rw [hs26]; rfl) (by decide) ?_
      refine g_lv [0, 1, 2, 3, 4] rfl ?_
      exact bw_L_law_1969_23 X  XU hroom hsc hnc hno hE hrec h
    have h := ite_f hs26 h
    by_cases hs27 : (xs9 a4.toNatClampNeg) &&& (63 : Int32) = (27 : Int32)
    · have h := ite_t hs27 h
      refine g_swIn X (tgt := 2037) dL_law_40 (by rw [hs27]; decide) (by rw [hs27]; decide) (by rw [hs27]; rfl) (by decide) ?_
      refine g_lv [0, 1, 2, 3, 4] rfl ?_
      exact bw_L_law_2037_23 X  XU hroom hsc hnc hno hE hrec h
    have h := ite_f hs27 h
    by_cases hs28 : (xs9 a4.toNatClampNeg) &&& (63 : Int32) = (28 : Int32)
    · have h := ite_t hs28 h
      refine g_swIn X (tgt := 2105) dL_law_40 (by rw [hs28]; decide) (by rw [hs28]; decide) (by rw [hs28]; rfl) (by decide) ?_
      refine g_lv [0, 1, 2, 3, 4] rfl ?_
      exact bw_L_law_2105_23 X  XU hroom hsc hnc hno hE hrec h
    have h := ite_f hs28 h
    by_cases hs29 : (xs9 a4.toNatClampNeg) &&& (63 : Int32) = (29 : Int32)
    · have h := ite_t hs29 h
      refine g_swIn X (tgt := 2161) dL_law_40 (by rw [hs29]; decide) (by rw [hs29]; decide) (by rw [hs29]; rfl) (by decide) ?_
      refine g_lv [0, 1, 2, 3, 4] rfl ?_
      exact bw_L_law_2161_23 X  XU hroom hsc hnc hno hE hrec h
    have h := ite_f hs29 h
    by_cases hs30 : (xs9 a4.toNatClampNeg) &&& (63 : Int32) = (30 : Int32)
    · have h := ite_t hs30 h
      refine g_swIn X (tgt := 2174) dL_law_40 (by rw [hs30]; decide) (by rw [hs30]; decide) (by rw [hs30]; rfl) (by decide) ?_
      refine g_lv [0, 1, 2, 3, 4] rfl ?_
      exact bw_L_law_2174_23 X  XU hroom hsc hnc hno hE hrec h
    have h := ite_f hs30 h
    by_cases hs31 : (xs9 a4.toNatClampNeg) &&& (63 : Int32) = (31 : Int32)
    · have h := ite_t hs31 h
      refine g_swIn X (tgt := 2242) dL_law_40 (by rw [hs31]; decide) (by rw [hs31]; decide) (by rw [hs31]; rfl) (by decide) ?_
      refine g_lv [0, 1, 2, 3, 4] rfl ?_
      exact bw_L_law_2242_23 X  XU hroom hsc hnc hno hE hrec h
    have h := ite_f hs31 h
    by_cases hs32 : (xs9 a4.toNatClampNeg) &&& (63 : Int32) = (32 : Int32)
    · have h := ite_t hs32 h
      refine g_swIn X (tgt := 2298) dL_law_40 (by rw [hs32]; decide) (by rw [hs32]; decide) (by rw [hs32]; rfl) (by decide) ?_
      refine g_lv [0, 1, 2, 3, 4] rfl ?_
      exact bw_L_law_2298_23 X  XU hroom hsc hnc hno hE hrec h
    have h := ite_f hs32 h
    by_cases hs33 : (xs9 a4.toNatClampNeg) &&& (63 : Int32) = (33 : Int32)
    · have h := ite_t hs33 h
      refine g_swIn X (tgt := 2311) dL_law_40 (by rw [hs33]; decide) (by rw [hs33]; decide) (by rw [hs33]; rfl) (by decide) ?_
      refine g_lv [0, 1, 2, 3, 4] rfl ?_
      exact bw_L_law_2311_23 X  XU hroom hsc hnc hno hE hrec h
    have h := ite_f hs33 h
    by_cases hs34 : (xs9 a4.toNatClampNeg) &&& (63 : Int32) = (34 : Int32)
    · have h := ite_t hs34 h
      refine g_swIn X (tgt := 2379) dL_law_40 (by rw [hs34]; decide) (by rw [hs34]; decide) (by rw [hs34]; rfl) (by decide) ?_
      refine g_lv [0, 1, 2, 3, 4] rfl ?_
      exact bw_L_law_2379_23 X  XU hroom hsc hnc hno hE hrec h
    have h := ite_f hs34 h
    by_cases hs35 : (xs9 a4.toNatClampNeg) &&& (63 : Int32) = (35 : Int32)
    · have h := ite_t hs35 h
      refine g_swIn X (tgt := 2420) dL_law_40 (by rw [hs35]; decide) (by rw [hs35]; decide) (by rw [hs35]; rfl) (by decide) ?_
      refine g_lv [0, 1, 2, 3, 4] rfl ?_
      exact bw_L_law_2420_23 X  XU hroom hsc hnc hno hE hrec h
    have h := ite_f hs35 h
    have hn0 := (lv_neT hs0 (by decide : Int32.toInt (0 : Int32) = 0))
    have hn1 := (lv_neT hs1 (by decide : Int32.toInt (1 : Int32) = 1))
    have hn2 := (lv_neT hs2 (by decide : Int32.toInt (2 : Int32) = 2))
    have hn3 := (lv_neT hs3 (by decide : Int32.toInt (3 : Int32) = 3))
    have hn4 := (lv_neT hs4 (by decide : Int32.toInt (4 : Int32) = 4))
    have hn5 := (lv_neT hs5 (by decide : Int32.toInt (5 : Int32) = 5))
    have hn6 := (lv_neT hs6 (by decide : Int32.toInt (6 : Int32) = 6))
    have hn7 := (lv_neT hs7 (by decide : Int32.toInt (7 : Int32) = 7))
    have hn8 := (lv_neT hs8 (by decide : Int32.toInt (8 : Int32) = 8))
    have hn9 := (lv_neT hs9 (by decide : Int32.toInt (9 : Int32) = 9))
    have hn10 := (lv_neT hs10 (by decide : Int32.toInt (10 : Int32) = 10))
    have hn11 := (lv_neT hs11 (by decide : Int32.toInt (11 : Int32) = 11))
    have hn12 := (lv_neT hs12 (by decide : Int32.toInt (12 : Int32) = 12))
    have hn13 := (lv_neT hs13 (by decide : Int32.toInt (13 : Int32) = 13))
    have hn14 := (lv_neT hs14 (by decide : Int32.toInt (14 : Int32) = 14))
    have hn15 := (lv_neT hs15 (by decide : Int32.toInt (15 : Int32) = 15))
    have hn16 := (lv_neT hs16 (by decide : Int32.toInt (16 : Int32) = 16))
    have hn17 := (lv_neT hs17 (by decide : Int32.toInt (17 : Int32) = 17))
    have hn18 := (lv_neT hs18 (by decide : Int32.toInt (18 : Int32) = 18))
    have hn19 := (lv_neT hs19 (by decide : Int32.toInt (19 : Int32) = 19))
    have hn20 := (lv_neT hs20 (by decide : Int32.toInt (20 : Int32) = 20))
    have hn21 := (lv_neT hs21 (by decide : Int32.toInt (21 : Int32) = 21))
    have hn22 := (lv_neT hs22 (by decide : Int32.toInt (22 : Int32) = 22))
    have hn23 := (lv_neT hs23 (by decide : Int32.toInt (23 : Int32) = 23))
    have hn24 := (lv_neT hs24 (by decide : Int32.toInt (24 : Int32) = 24))
    have hn25 := (lv_neT hs25 (by decide : Int32.toInt (25 : Int32) = 25))
    have hn26 := (lv_neT hs26 (by decide : Int32.toInt (26 : Int32) = 26))
    have hn27 := (lv_neT hs27 (by decide : Int32.toInt (27 : Int32) = 27))
    have hn28 := (lv_neT hs28 (by decide : Int32.toInt (28 : Int32) = 28))
    have hn29 := (lv_neT hs29 (by decide : Int32.toInt (29 : Int32) = 29))
    have hn30 := (lv_neT hs30 (by decide : Int32.toInt (30 : Int32) = 30))
    have hn31 := (lv_neT hs31 (by decide : Int32.toInt (31 : Int32) = 31))
    have hn32 := (lv_neT hs32 (by decide : Int32.toInt (32 : Int32) = 32))
    have hn33 := (lv_neT hs33 (by decide : Int32.toInt (33 : Int32) = 33))
    have hn34 := (lv_neT hs34 (by decide : Int32.toInt (34 : Int32) = 34))
    have hn35 := (lv_neT hs35 (by decide : Int32.toInt (35 : Int32) = 35))
    refine g_swOut X (tgt := 2434) dL_law_40 (by omega) (by decide) ?_
    refine g_iinc X (j := 4) (w := a4 + (7 : Int32)) (lv' := [(0, .ref b9), (1, .ref (gad (xz x) 0)), (2, .ref (gad (xz x) 122)), (3, .ref (gad (xz x) 162))]) dL_law_2434 rfl (by rw [ii_7]) (by decide) (fun _ => rfl) (fun v671 e672 => ?_)
    have h := bnd_e e672 h
    refine g_goto X (tgt := 23) dL_law_2437 (by decide) ?_
    refine g_lv [1, 2, 3, 4, 0] rfl ?_
    refine g_up ?_
    exact hrec v671 M h
