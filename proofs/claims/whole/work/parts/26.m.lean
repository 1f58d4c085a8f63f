/-! 26.m -/
theorem dX11_digest_0 : decode cX11_digest 0 = .ok (.aload_n 0, 1) := by decide +kernel
theorem dX11_digest_1 : decode cX11_digest 1 = .ok (.iconst 0, 1) := by decide +kernel
theorem dX11_digest_2 : decode cX11_digest 2 = .ok (.putfield 114, 3) := by decide +kernel
theorem dX11_digest_5 : decode cX11_digest 5 = .ok (.ldc2_w 359, 3) := by decide +kernel
theorem dX11_digest_8 : decode cX11_digest 8 = .ok (.aload_n 0, 1) := by decide +kernel
theorem dX11_digest_9 : decode cX11_digest 9 = .ok (.getfield 122, 3) := by decide +kernel
theorem dX11_digest_12 : decode cX11_digest 12 = .ok (.i2l, 1) := by decide +kernel
theorem dX11_digest_13 : decode cX11_digest 13 = .ok (.ladd, 1) := by decide +kernel
theorem dX11_digest_14 : decode cX11_digest 14 = .ok (.ldc2_w 361, 3) := by decide +kernel
theorem dX11_digest_17 : decode cX11_digest 17 = .ok (.lmul, 1) := by decide +kernel
theorem dX11_digest_18 : decode cX11_digest 18 = .ok (.aload_n 0, 1) := by decide +kernel
theorem dX11_digest_19 : decode cX11_digest 19 = .ok (.getfield 125, 3) := by decide +kernel
theorem dX11_digest_22 : decode cX11_digest 22 = .ok (.i2l, 1) := by decide +kernel
theorem dX11_digest_23 : decode cX11_digest 23 = .ok (.ladd, 1) := by decide +kernel
theorem dX11_digest_24 : decode cX11_digest 24 = .ok (.ldc2_w 361, 3) := by decide +kernel
theorem dX11_digest_27 : decode cX11_digest 27 = .ok (.lmul, 1) := by decide +kernel
theorem dX11_digest_28 : decode cX11_digest 28 = .ok (.aload_n 0, 1) := by decide +kernel
theorem dX11_digest_29 : decode cX11_digest 29 = .ok (.invokevirtual 344, 3) := by decide +kernel
theorem dX11_digest_32 : decode cX11_digest 32 = .ok (.i2l, 1) := by decide +kernel
theorem dX11_digest_33 : decode cX11_digest 33 = .ok (.ladd, 1) := by decide +kernel
theorem dX11_digest_34 : decode cX11_digest 34 = .ok (.lstore_n 1, 1) := by decide +kernel
theorem dX11_digest_35 : decode cX11_digest 35 = .ok (.iconst 0, 1) := by decide +kernel
theorem dX11_digest_36 : decode cX11_digest 36 = .ok (.istore_n 3, 1) := by decide +kernel
theorem dX11_digest_37 : decode cX11_digest 37 = .ok (.iload_n 3, 1) := by decide +kernel
theorem dX11_digest_38 : decode cX11_digest 38 = .ok (.aload_n 0, 1) := by decide +kernel
theorem dX11_digest_39 : decode cX11_digest 39 = .ok (.getfield 122, 3) := by decide +kernel
theorem dX11_digest_42 : decode cX11_digest 42 = .ok (.if_icmp .ge 39, 3) := by decide +kernel
theorem dX11_digest_45 : decode cX11_digest 45 = .ok (.iconst 0, 1) := by decide +kernel
theorem dX11_digest_46 : decode cX11_digest 46 = .ok (.istore 4, 2) := by decide +kernel
theorem dX11_digest_48 : decode cX11_digest 48 = .ok (.iload 4, 2) := by decide +kernel
theorem dX11_digest_50 : decode cX11_digest 50 = .ok (.iconst 3, 1) := by decide +kernel
theorem dX11_digest_51 : decode cX11_digest 51 = .ok (.if_icmp .ge 24, 3) := by decide +kernel
theorem dX11_digest_54 : decode cX11_digest 54 = .ok (.lload_n 1, 1) := by decide +kernel
theorem dX11_digest_55 : decode cX11_digest 55 = .ok (.ldc2_w 361, 3) := by decide +kernel
theorem dX11_digest_58 : decode cX11_digest 58 = .ok (.lmul, 1) := by decide +kernel
theorem dX11_digest_59 : decode cX11_digest 59 = .ok (.aload_n 0, 1) := by decide +kernel
theorem dX11_digest_60 : decode cX11_digest 60 = .ok (.iload_n 3, 1) := by decide +kernel
theorem dX11_digest_61 : decode cX11_digest 61 = .ok (.iload 4, 2) := by decide +kernel
theorem dX11_digest_63 : decode cX11_digest 63 = .ok (.invokevirtual 159, 3) := by decide +kernel
theorem dX11_digest_66 : decode cX11_digest 66 = .ok (.i2l, 1) := by decide +kernel
theorem dX11_digest_67 : decode cX11_digest 67 = .ok (.ladd, 1) := by decide +kernel
theorem dX11_digest_68 : decode cX11_digest 68 = .ok (.lstore_n 1, 1) := by decide +kernel
theorem dX11_digest_69 : decode cX11_digest 69 = .ok (.iinc 4 1, 3) := by decide +kernel
theorem dX11_digest_72 : decode cX11_digest 72 = .ok (.goto (-24), 3) := by decide +kernel
theorem dX11_digest_75 : decode cX11_digest 75 = .ok (.iinc 3 1, 3) := by decide +kernel
theorem dX11_digest_78 : decode cX11_digest 78 = .ok (.goto (-41), 3) := by decide +kernel
theorem dX11_digest_81 : decode cX11_digest 81 = .ok (.iconst 0, 1) := by decide +kernel
theorem dX11_digest_82 : decode cX11_digest 82 = .ok (.istore_n 3, 1) := by decide +kernel
theorem dX11_digest_83 : decode cX11_digest 83 = .ok (.iload_n 3, 1) := by decide +kernel
theorem dX11_digest_84 : decode cX11_digest 84 = .ok (.aload_n 0, 1) := by decide +kernel
theorem dX11_digest_85 : decode cX11_digest 85 = .ok (.getfield 125, 3) := by decide +kernel
theorem dX11_digest_88 : decode cX11_digest 88 = .ok (.if_icmp .ge 114, 3) := by decide +kernel
theorem dX11_digest_91 : decode cX11_digest 91 = .ok (.lload_n 1, 1) := by decide +kernel
theorem dX11_digest_92 : decode cX11_digest 92 = .ok (.ldc2_w 361, 3) := by decide +kernel
theorem dX11_digest_95 : decode cX11_digest 95 = .ok (.lmul, 1) := by decide +kernel
theorem dX11_digest_96 : decode cX11_digest 96 = .ok (.aload_n 0, 1) := by decide +kernel
theorem dX11_digest_97 : decode cX11_digest 97 = .ok (.iload_n 3, 1) := by decide +kernel
theorem dX11_digest_98 : decode cX11_digest 98 = .ok (.invokevirtual 315, 3) := by decide +kernel
theorem dX11_digest_101 : decode cX11_digest 101 = .ok (.i2l, 1) := by decide +kernel
theorem dX11_digest_102 : decode cX11_digest 102 = .ok (.ladd, 1) := by decide +kernel
theorem dX11_digest_103 : decode cX11_digest 103 = .ok (.ldc2_w 361, 3) := by decide +kernel
theorem dX11_digest_106 : decode cX11_digest 106 = .ok (.lmul, 1) := by decide +kernel
theorem dX11_digest_107 : decode cX11_digest 107 = .ok (.aload_n 0, 1) := by decide +kernel
theorem dX11_digest_108 : decode cX11_digest 108 = .ok (.iload_n 3, 1) := by decide +kernel
theorem dX11_digest_109 : decode cX11_digest 109 = .ok (.invokevirtual 326, 3) := by decide +kernel
theorem dX11_digest_112 : decode cX11_digest 112 = .ok (.i2l, 1) := by decide +kernel
theorem dX11_digest_113 : decode cX11_digest 113 = .ok (.ladd, 1) := by decide +kernel
theorem dX11_digest_114 : decode cX11_digest 114 = .ok (.ldc2_w 361, 3) := by decide +kernel
theorem dX11_digest_117 : decode cX11_digest 117 = .ok (.lmul, 1) := by decide +kernel
theorem dX11_digest_118 : decode cX11_digest 118 = .ok (.aload_n 0, 1) := by decide +kernel
theorem dX11_digest_119 : decode cX11_digest 119 = .ok (.iload_n 3, 1) := by decide +kernel
theorem dX11_digest_120 : decode cX11_digest 120 = .ok (.invokevirtual 329, 3) := by decide +kernel
theorem dX11_digest_123 : decode cX11_digest 123 = .ok (.i2l, 1) := by decide +kernel
theorem dX11_digest_124 : decode cX11_digest 124 = .ok (.ladd, 1) := by decide +kernel
theorem dX11_digest_125 : decode cX11_digest 125 = .ok (.lstore_n 1, 1) := by decide +kernel
theorem dX11_digest_126 : decode cX11_digest 126 = .ok (.lload_n 1, 1) := by decide +kernel
theorem dX11_digest_127 : decode cX11_digest 127 = .ok (.ldc2_w 361, 3) := by decide +kernel
theorem dX11_digest_130 : decode cX11_digest 130 = .ok (.lmul, 1) := by decide +kernel
theorem dX11_digest_131 : decode cX11_digest 131 = .ok (.aload_n 0, 1) := by decide +kernel
theorem dX11_digest_132 : decode cX11_digest 132 = .ok (.getfield 62, 3) := by decide +kernel
theorem dX11_digest_135 : decode cX11_digest 135 = .ok (.iload_n 3, 1) := by decide +kernel
theorem dX11_digest_136 : decode cX11_digest 136 = .ok (.invokestatic 351, 3) := by decide +kernel
theorem dX11_digest_139 : decode cX11_digest 139 = .ok (.i2l, 1) := by decide +kernel
theorem dX11_digest_140 : decode cX11_digest 140 = .ok (.ladd, 1) := by decide +kernel
theorem dX11_digest_141 : decode cX11_digest 141 = .ok (.lstore_n 1, 1) := by decide +kernel
theorem dX11_digest_142 : decode cX11_digest 142 = .ok (.iconst 0, 1) := by decide +kernel
theorem dX11_digest_143 : decode cX11_digest 143 = .ok (.istore 4, 2) := by decide +kernel
theorem dX11_digest_145 : decode cX11_digest 145 = .ok (.iload 4, 2) := by decide +kernel
theorem dX11_digest_147 : decode cX11_digest 147 = .ok (.aload_n 0, 1) := by decide +kernel
theorem dX11_digest_148 : decode cX11_digest 148 = .ok (.getfield 183, 3) := by decide +kernel
theorem dX11_digest_151 : decode cX11_digest 151 = .ok (.if_icmp .ge 45, 3) := by decide +kernel
theorem dX11_digest_154 : decode cX11_digest 154 = .ok (.iconst 0, 1) := by decide +kernel
theorem dX11_digest_155 : decode cX11_digest 155 = .ok (.istore 5, 2) := by decide +kernel
theorem dX11_digest_157 : decode cX11_digest 157 = .ok (.iload 5, 2) := by decide +kernel
theorem dX11_digest_159 : decode cX11_digest 159 = .ok (.iconst 4, 1) := by decide +kernel
theorem dX11_digest_160 : decode cX11_digest 160 = .ok (.if_icmp .ge 30, 3) := by decide +kernel
theorem dX11_digest_163 : decode cX11_digest 163 = .ok (.lload_n 1, 1) := by decide +kernel
theorem dX11_digest_164 : decode cX11_digest 164 = .ok (.ldc2_w 361, 3) := by decide +kernel
theorem dX11_digest_167 : decode cX11_digest 167 = .ok (.lmul, 1) := by decide +kernel
theorem dX11_digest_168 : decode cX11_digest 168 = .ok (.aload_n 0, 1) := by decide +kernel
theorem dX11_digest_169 : decode cX11_digest 169 = .ok (.aload_n 0, 1) := by decide +kernel
theorem dX11_digest_170 : decode cX11_digest 170 = .ok (.getfield 77, 3) := by decide +kernel
theorem dX11_digest_173 : decode cX11_digest 173 = .ok (.iload 4, 2) := by decide +kernel
theorem dX11_digest_175 : decode cX11_digest 175 = .ok (.aaload, 1) := by decide +kernel
theorem dX11_digest_176 : decode cX11_digest 176 = .ok (.iload 5, 2) := by decide +kernel
theorem dX11_digest_178 : decode cX11_digest 178 = .ok (.invokevirtual 322, 3) := by decide +kernel
theorem dX11_digest_181 : decode cX11_digest 181 = .ok (.i2l, 1) := by decide +kernel
theorem dX11_digest_182 : decode cX11_digest 182 = .ok (.ladd, 1) := by decide +kernel
theorem dX11_digest_183 : decode cX11_digest 183 = .ok (.lstore_n 1, 1) := by decide +kernel
theorem dX11_digest_184 : decode cX11_digest 184 = .ok (.iinc 5 1, 3) := by decide +kernel
theorem dX11_digest_187 : decode cX11_digest 187 = .ok (.goto (-30), 3) := by decide +kernel
theorem dX11_digest_190 : decode cX11_digest 190 = .ok (.iinc 4 1, 3) := by decide +kernel
theorem dX11_digest_193 : decode cX11_digest 193 = .ok (.goto (-48), 3) := by decide +kernel
theorem dX11_digest_196 : decode cX11_digest 196 = .ok (.iinc 3 1, 3) := by decide +kernel
theorem dX11_digest_199 : decode cX11_digest 199 = .ok (.goto (-116), 3) := by decide +kernel
theorem dX11_digest_202 : decode cX11_digest 202 = .ok (.lload_n 1, 1) := by decide +kernel
theorem dX11_digest_203 : decode cX11_digest 203 = .ok (.ldc2_w 361, 3) := by decide +kernel
theorem dX11_digest_206 : decode cX11_digest 206 = .ok (.lmul, 1) := by decide +kernel
theorem dX11_digest_207 : decode cX11_digest 207 = .ok (.aload_n 0, 1) := by decide +kernel
theorem dX11_digest_208 : decode cX11_digest 208 = .ok (.invokevirtual 354, 3) := by decide +kernel
theorem dX11_digest_211 : decode cX11_digest 211 = .ok (.i2l, 1) := by decide +kernel
theorem dX11_digest_212 : decode cX11_digest 212 = .ok (.ladd, 1) := by decide +kernel
theorem dX11_digest_213 : decode cX11_digest 213 = .ok (.lstore_n 1, 1) := by decide +kernel
theorem dX11_digest_214 : decode cX11_digest 214 = .ok (.iconst 0, 1) := by decide +kernel
theorem dX11_digest_215 : decode cX11_digest 215 = .ok (.istore_n 3, 1) := by decide +kernel
theorem dX11_digest_216 : decode cX11_digest 216 = .ok (.iload_n 3, 1) := by decide +kernel
theorem dX11_digest_217 : decode cX11_digest 217 = .ok (.sipush 960, 3) := by decide +kernel
theorem dX11_digest_220 : decode cX11_digest 220 = .ok (.if_icmp .ge 47, 3) := by decide +kernel
theorem dX11_digest_223 : decode cX11_digest 223 = .ok (.lload_n 1, 1) := by decide +kernel
theorem dX11_digest_224 : decode cX11_digest 224 = .ok (.ldc2_w 361, 3) := by decide +kernel
theorem dX11_digest_227 : decode cX11_digest 227 = .ok (.lmul, 1) := by decide +kernel
theorem dX11_digest_228 : decode cX11_digest 228 = .ok (.aload_n 0, 1) := by decide +kernel
theorem dX11_digest_229 : decode cX11_digest 229 = .ok (.getfield 56, 3) := by decide +kernel
theorem dX11_digest_232 : decode cX11_digest 232 = .ok (.iload_n 3, 1) := by decide +kernel
theorem dX11_digest_233 : decode cX11_digest 233 = .ok (.iaload, 1) := by decide +kernel
theorem dX11_digest_234 : decode cX11_digest 234 = .ok (.i2l, 1) := by decide +kernel
theorem dX11_digest_235 : decode cX11_digest 235 = .ok (.ladd, 1) := by decide +kernel
theorem dX11_digest_236 : decode cX11_digest 236 = .ok (.ldc2_w 361, 3) := by decide +kernel
theorem dX11_digest_239 : decode cX11_digest 239 = .ok (.lmul, 1) := by decide +kernel
theorem dX11_digest_240 : decode cX11_digest 240 = .ok (.aload_n 0, 1) := by decide +kernel
theorem dX11_digest_241 : decode cX11_digest 241 = .ok (.getfield 59, 3) := by decide +kernel
theorem dX11_digest_244 : decode cX11_digest 244 = .ok (.iload_n 3, 1) := by decide +kernel
theorem dX11_digest_245 : decode cX11_digest 245 = .ok (.iaload, 1) := by decide +kernel
theorem dX11_digest_246 : decode cX11_digest 246 = .ok (.i2l, 1) := by decide +kernel
theorem dX11_digest_247 : decode cX11_digest 247 = .ok (.ladd, 1) := by decide +kernel
theorem dX11_digest_248 : decode cX11_digest 248 = .ok (.ldc2_w 361, 3) := by decide +kernel
theorem dX11_digest_251 : decode cX11_digest 251 = .ok (.lmul, 1) := by decide +kernel
theorem dX11_digest_252 : decode cX11_digest 252 = .ok (.aload_n 0, 1) := by decide +kernel
theorem dX11_digest_253 : decode cX11_digest 253 = .ok (.getfield 62, 3) := by decide +kernel
theorem dX11_digest_256 : decode cX11_digest 256 = .ok (.iload_n 3, 1) := by decide +kernel
theorem dX11_digest_257 : decode cX11_digest 257 = .ok (.iaload, 1) := by decide +kernel
theorem dX11_digest_258 : decode cX11_digest 258 = .ok (.i2l, 1) := by decide +kernel
theorem dX11_digest_259 : decode cX11_digest 259 = .ok (.ladd, 1) := by decide +kernel
theorem dX11_digest_260 : decode cX11_digest 260 = .ok (.lstore_n 1, 1) := by decide +kernel
theorem dX11_digest_261 : decode cX11_digest 261 = .ok (.iinc 3 1, 3) := by decide +kernel
theorem dX11_digest_264 : decode cX11_digest 264 = .ok (.goto (-48), 3) := by decide +kernel
theorem dX11_digest_267 : decode cX11_digest 267 = .ok (.lload_n 1, 1) := by decide +kernel
theorem dX11_digest_268 : decode cX11_digest 268 = .ok (.lreturn, 1) := by decide +kernel
def st_X11_digest_48 (F : Nat) (a15 : Int32) (rec : Int64 → Int32 → GM → Option (Int64 × GM)) (b14 : Int64) (a16 : Int32) (M : GM) : Option (Int64 × GM) := if (3 : Int32) ≤ a16 then (some (b14, M)) else (bndO (f_X11_seenBy F a15 a16 M) (fun v18 => bnd ((b14 * (31 : Int64)) + v18.toInt64) (fun w19 => bnd (a16 + (1 : Int32)) (fun v21 => rec w19 v21 M))))
def lp_X11_digest_48 (F : Nat) (a15 : Int32) : Nat → Int64 → Int32 → GM → Option (Int64 × GM)
  | 0 => fun _ _ _ => none
  | f + 1 => fun b14 a16 M => st_X11_digest_48 F a15 (lp_X11_digest_48 F a15 f) b14 a16 M
set_option maxHeartbeats 4000000 in
set_option maxRecDepth 100000 in
theorem lw_X11_digest_48 {x : GX} (X : GC x cX11_digest 6 RX11 6) {a15 : Int32}  {F : Nat} {r9 : (Int64 × GM)} (hE : ∀ (x1_9 : Int64) (M9 : GM), r9 = (x1_9, M9) → WG x M9 [(0, .ref (gad (xz x) 122)), (1, .long x1_9), (3, .int a15)] 75 []) : ∀ (f : Nat) (b14 : Int64) (a16 : Int32) (M : GM), lp_X11_digest_48 F a15 f b14 a16 M = some r9 → WG x M [(0, .ref (gad (xz x) 122)), (1, .long b14), (3, .int a15), (4, .int a16)] 48 [] := by
  intro f
  induction f with
  | zero => intro b14 a16 M h; cases h
  | succ f ih =>
    intro b14 a16 M h
    have hrec := ih
    have h : st_X11_digest_48 F a15 (lp_X11_digest_48 F a15 f) b14 a16 M = some r9 := h
    generalize lp_X11_digest_48 F a15 f = rec at h hrec
    unfold st_X11_digest_48 at h
    refine g_iload X (j := 3) dX11_digest_48 rfl ?_
    refine g_iconst X (v := 3) dX11_digest_50 (by decide) ?_
    refine g_icmp_ge X (tgt := 75) dX11_digest_51 (by decide) (fun hb => ?_) (fun hb => ?_)
    · have h := ite_t hb h
      refine g_lv [0, 1, 2] rfl ?_
      exact hE b14 M (Option.some.inj h).symm
    · have h := ite_f hb h
      refine g_lload_n X (j := 1) dX11_digest_54 rfl rfl ?_
      refine g_ldc2 X q_1548 dX11_digest_55 ?_
      refine g_lmul X dX11_digest_58 ?_
      refine g_aload_n X (j := 0) dX11_digest_59 rfl rfl ?_
      refine g_iload_n X (j := 2) dX11_digest_60 rfl rfl ?_
      refine g_iload X (j := 3) dX11_digest_61 rfl ?_
      obtain ⟨v18, hc17, h⟩ := bndO_e h
      refine gc_X11_159 X gT_c122 (ct_X11_seenBy X.htr  hc17) (by decide) (Nat.le_of_ble_eq_true rfl) dX11_digest_63 ?_
      refine g_i2l X dX11_digest_66 ?_
      refine g_ladd X dX11_digest_67 ?_
      refine g_topl (fun w19 e20 => ?_)
      have h := bnd_e e20 h
      refine g_lstore_n X (lv' := [(1, .long w19), (0, .ref (gad (xz x) 122)), (3, .int a15), (4, .int a16)]) dX11_digest_68 rfl (by decide) rfl ?_
      refine g_iinc X (j := 3) (w := a16 + (1 : Int32)) (lv' := [(1, .long w19), (0, .ref (gad (xz x) 122)), (3, .int a15)]) dX11_digest_69 rfl (by rw [ii_1]) (by decide) (fun _ => rfl) (fun v21 e22 => ?_)
      have h := bnd_e e22 h
      refine g_goto X (tgt := 48) dX11_digest_72 (by decide) ?_
      refine g_lv [2, 1, 3, 0] rfl ?_
      exact hrec w19 v21 M h
def st_X11_digest_37 (F : Nat)  (rec : Int64 → Int32 → GM → Option (Int64 × GM)) (b10 : Int64) (a11 : Int32) (M : GM) : Option (Int64 × GM) := if (gI M 122 1) ≤ a11 then (some (b10, M)) else (bnd (0 : Int32) (fun v12 => bndO (lp_X11_digest_48 F a11 F b10 v12 M) (fun (w23, M24) => bnd (a11 + (1 : Int32)) (fun v26 => rec w23 v26 M24))))
def lp_X11_digest_37 (F : Nat)  : Nat → Int64 → Int32 → GM → Option (Int64 × GM)
  | 0 => fun _ _ _ => none
  | f + 1 => fun b10 a11 M => st_X11_digest_37 F  (lp_X11_digest_37 F  f) b10 a11 M
set_option maxHeartbeats 4000000 in
set_option maxRecDepth 100000 in
theorem lw_X11_digest_37 {x : GX} (X : GC x cX11_digest 6 RX11 6)   {F : Nat} {r9 : (Int64 × GM)} (hE : ∀ (x1_9 : Int64) (M9 : GM), r9 = (x1_9, M9) → WG x M9 [(0, .ref (gad (xz x) 122)), (1, .long x1_9)] 81 []) : ∀ (f : Nat) (b10 : Int64) (a11 : Int32) (M : GM), lp_X11_digest_37 F  f b10 a11 M = some r9 → WG x M [(0, .ref (gad (xz x) 122)), (1, .long b10), (3, .int a11)] 37 [] := by
  intro f
  induction f with
  | zero => intro b10 a11 M h; cases h
  | succ f ih =>
    intro b10 a11 M h
    have hrec := ih
    have h : st_X11_digest_37 F  (lp_X11_digest_37 F  f) b10 a11 M = some r9 := h
    generalize lp_X11_digest_37 F  f = rec at h hrec
    unfold st_X11_digest_37 at h
    refine g_iload_n X (j := 2) dX11_digest_37 rfl rfl ?_
    refine g_aload_n X (j := 0) dX11_digest_38 rfl rfl ?_
    refine gf_X11_122 X gT_c122 dX11_digest_39 ?_
    refine g_icmp_ge X (tgt := 81) dX11_digest_42 (by decide) (fun hb => ?_) (fun hb => ?_)
    · have h := ite_t hb h
      refine g_lv [0, 1] rfl ?_
      exact hE b10 M (Option.some.inj h).symm
    · have h := ite_f hb h
      refine g_iconst X (v := 0) dX11_digest_45 (by decide) ?_
      refine g_topi (fun v12 e13 => ?_)
      have h := bnd_e e13 h
      refine g_istore X (lv' := [(4, .int v12), (0, .ref (gad (xz x) 122)), (1, .long b10), (3, .int a11)]) dX11_digest_46 (by decide) rfl ?_
      refine g_lv [1, 2, 3, 0] rfl ?_
      obtain ⟨⟨w23, M24⟩, hl25, h⟩ := bndO_e h
      refine lw_X11_digest_48 X  (fun w23_ M24_ e9 => ?_) F b10 v12 M hl25
      cases e9
      refine g_iinc X (j := 2) (w := a11 + (1 : Int32)) (lv' := [(0, .ref (gad (xz x) 122)), (1, .long w23)]) dX11_digest_75 rfl (by rw [ii_1]) (by decide) (fun _ => rfl) (fun v26 e27 => ?_)
      have h := bnd_e e27 h
      refine g_goto X (tgt := 37) dX11_digest_78 (by decide) ?_
      refine g_lv [1, 2, 0] rfl ?_
      exact hrec w23 v26 M24 h
def st_X11_digest_157 (F : Nat) (a58 : Int32) (a59 : Int32) (rec : Int64 → Int32 → GM → Option (Int64 × GM)) (b57 : Int64) (a60 : Int32) (M : GM) : Option (Int64 × GM) := if (4 : Int32) ≤ a60 then (some (b57, M)) else (grd (gIn a59 (gN 144)) (bnd (gR 144 a59.toNatClampNeg) (fun o62 => bndO (f_X11_onScreen F o62 a60 M) (fun v66 => bnd ((b57 * (31 : Int64)) + v66.toInt64) (fun w67 => bnd (a60 + (1 : Int32)) (fun v69 => rec w67 v69 M))))))
def lp_X11_digest_157 (F : Nat) (a58 : Int32) (a59 : Int32) : Nat → Int64 → Int32 → GM → Option (Int64 × GM)
  | 0 => fun _ _ _ => none
  | f + 1 => fun b57 a60 M => st_X11_digest_157 F a58 a59 (lp_X11_digest_157 F a58 a59 f) b57 a60 M
set_option maxHeartbeats 4000000 in
set_option maxRecDepth 100000 in
theorem lw_X11_digest_157 {x : GX} (X : GC x cX11_digest 6 RX11 6) {a58 : Int32} {a59 : Int32}  {F : Nat} {r9 : (Int64 × GM)} (hE : ∀ (x1_9 : Int64) (M9 : GM), r9 = (x1_9, M9) → WG x M9 [(0, .ref (gad (xz x) 122)), (1, .long x1_9), (3, .int a58), (4, .int a59)] 190 []) : ∀ (f : Nat) (b57 : Int64) (a60 : Int32) (M : GM), lp_X11_digest_157 F a58 a59 f b57 a60 M = some r9 → WG x M [(0, .ref (gad (xz x) 122)), (1, .long b57), (3, .int a58), (4, .int a59), (5, .int a60)] 157 [] := by
  intro f
  induction f with
  | zero => intro b57 a60 M h; cases h
  | succ f ih =>
    intro b57 a60 M h
    have hrec := ih
    have h : st_X11_digest_157 F a58 a59 (lp_X11_digest_157 F a58 a59 f) b57 a60 M = some r9 := h
    generalize lp_X11_digest_157 F a58 a59 f = rec at h hrec
    unfold st_X11_digest_157 at h
    refine g_iload X (j := 4) dX11_digest_157 rfl ?_
    refine g_iconst X (v := 4) dX11_digest_159 (by decide) ?_
    refine g_icmp_ge X (tgt := 190) dX11_digest_160 (by decide) (fun hb => ?_) (fun hb => ?_)
    · have h := ite_t hb h
      refine g_lv [0, 1, 2, 3] rfl ?_
      exact hE b57 M (Option.some.inj h).symm
    · have h := ite_f hb h
      refine g_lload_n X (j := 1) dX11_digest_163 rfl rfl ?_
      refine g_ldc2 X q_1548 dX11_digest_164 ?_
      refine g_lmul X dX11_digest_167 ?_
      refine g_aload_n X (j := 0) dX11_digest_168 rfl rfl ?_
      refine g_aload_n X (j := 0) dX11_digest_169 rfl rfl ?_
      refine gf_X11_77 X gT_c122 dX11_digest_170 ?_
      refine g_iload X (j := 3) dX11_digest_173 rfl ?_
      obtain ⟨hg61, h⟩ := grd_e h
      refine g_aald_28 X gT_c144 hg61 dX11_digest_175 ?_
      refine g_topr (fun o62 e63 => ?_)
      have h := bnd_e e63 h
      have k64 : gT o62 = 20 := by rw [e63]; exact gR_28 gT_c144 (gIn_lt hg61)
      refine g_iload X (j := 4) dX11_digest_176 rfl ?_
      obtain ⟨v66, hc65, h⟩ := bndO_e h
      refine gc_X11_322 X gT_c122 (ct_X11_onScreen X.htr k64 hc65) (by decide) (Nat.le_of_ble_eq_true rfl) dX11_digest_178 ?_
      refine g_i2l X dX11_digest_181 ?_
      refine g_ladd X dX11_digest_182 ?_
      refine g_topl (fun w67 e68 => ?_)
      have h := bnd_e e68 h
      refine g_lstore_n X (lv' := [(1, .long w67), (0, .ref (gad (xz x) 122)), (3, .int a58), (4, .int a59), (5, .int a60)]) dX11_digest_183 rfl (by decide) rfl ?_
      refine g_iinc X (j := 4) (w := a60 + (1 : Int32)) (lv' := [(1, .long w67), (0, .ref (gad (xz x) 122)), (3, .int a58), (4, .int a59)]) dX11_digest_184 rfl (by rw [ii_1]) (by decide) (fun _ => rfl) (fun v69 e70 => ?_)
      have h := bnd_e e70 h
      refine g_goto X (tgt := 157) dX11_digest_187 (by decide) ?_
      refine g_lv [2, 1, 3, 4, 0] rfl ?_
      exact hrec w67 v69 M h
def st_X11_digest_145 (F : Nat) (a53 : Int32) (rec : Int64 → Int32 → GM → Option (Int64 × GM)) (b52 : Int64) (a54 : Int32) (M : GM) : Option (Int64 × GM) := if (gI M 122 27) ≤ a54 then (some (b52, M)) else (bnd (0 : Int32) (fun v55 => bndO (lp_X11_digest_157 F a53 a54 F b52 v55 M) (fun (w71, M72) => bnd (a54 + (1 : Int32)) (fun v74 => rec w71 v74 M72))))
def lp_X11_digest_145 (F : Nat) (a53 : Int32) : Nat → Int64 → Int32 → GM → Option (Int64 × GM)
  | 0 => fun _ _ _ => none
  | f + 1 => fun b52 a54 M => st_X11_digest_145 F a53 (lp_X11_digest_145 F a53 f) b52 a54 M
set_option maxHeartbeats 4000000 in
set_option maxRecDepth 100000 in
theorem lw_X11_digest_145 {x : GX} (X : GC x cX11_digest 6 RX11 6) {a53 : Int32}  {F : Nat} {r9 : (Int64 × GM)} (hE : ∀ (x1_9 : Int64) (M9 : GM), r9 = (x1_9, M9) → WG x M9 [(0, .ref (gad (xz x) 122)), (1, .long x1_9), (3, .int a53)] 196 []) : ∀ (f : Nat) (b52 : Int64) (a54 : Int32) (M : GM), lp_X11_digest_145 F a53 f b52 a54 M = some r9 → WG x M [(0, .ref (gad (xz x) 122)), (1, .long b52), (3, .int a53), (4, .int a54)] 145 [] := by
  intro f
  induction f with
  | zero => intro b52 a54 M h; cases h
  | succ f ih =>
    intro b52 a54 M h
    have hrec := ih
    have h : st_X11_digest_145 F a53 (lp_X11_digest_145 F a53 f) b52 a54 M = some r9 := h
    generalize lp_X11_digest_145 F a53 f = rec at h hrec
    unfold st_X11_digest_145 at h
    refine g_iload X (j := 3) dX11_digest_145 rfl ?_
    refine g_aload_n X (j := 0) dX11_digest_147 rfl rfl ?_
    refine gf_X11_183 X gT_c122 dX11_digest_148 ?_
    refine g_icmp_ge X (tgt := 196) dX11_digest_151 (by decide) (fun hb => ?_) (fun hb => ?_)
    · have h := ite_t hb h
      refine g_lv [0, 1, 2] rfl ?_
      exact hE b52 M (Option.some.inj h).symm
    · have h := ite_f hb h
      refine g_iconst X (v := 0) dX11_digest_154 (by decide) ?_
      refine g_topi (fun v55 e56 => ?_)
      have h := bnd_e e56 h
      refine g_istore X (lv' := [(5, .int v55), (0, .ref (gad (xz x) 122)), (1, .long b52), (3, .int a53), (4, .int a54)]) dX11_digest_155 (by decide) rfl ?_
      refine g_lv [1, 2, 3, 4, 0] rfl ?_
      obtain ⟨⟨w71, M72⟩, hl73, h⟩ := bndO_e h
      refine lw_X11_digest_157 X  (fun w71_ M72_ e9 => ?_) F b52 v55 M hl73
      cases e9
      refine g_iinc X (j := 3) (w := a54 + (1 : Int32)) (lv' := [(0, .ref (gad (xz x) 122)), (1, .long w71), (3, .int a53)]) dX11_digest_190 rfl (by rw [ii_1]) (by decide) (fun _ => rfl) (fun v74 e75 => ?_)
      have h := bnd_e e75 h
      refine g_goto X (tgt := 145) dX11_digest_193 (by decide) ?_
      refine g_lv [1, 2, 3, 0] rfl ?_
      exact hrec w71 v74 M72 h
def st_X11_digest_83 (F : Nat)  (rec : Int64 → Int32 → GM → Option (Int64 × GM)) (b33 : Int64) (a34 : Int32) (M : GM) : Option (Int64 × GM) := if (gI M 122 2) ≤ a34 then (some (b33, M)) else (bndO (f_X11_sidesOf F a34 M) (fun (v36, M37) => bndO (f_X11_drawnPieces F a34 M37) (fun (v39, M40) => bndO (f_X11_pointsIn F a34 M40) (fun (v42, M43) => bnd ((((((b33 * (31 : Int64)) + v36.toInt64) * (31 : Int64)) + v39.toInt64) * (31 : Int64)) + v42.toInt64) (fun w44 => bndO (f_X11_count F 140 a34 M43) (fun v47 => bnd ((w44 * (31 : Int64)) + v47.toInt64) (fun w48 => bnd (0 : Int32) (fun v50 => bndO (lp_X11_digest_145 F a34 F w48 v50 M43) (fun (w76, M77) => bnd (a34 + (1 : Int32)) (fun v79 => rec w76 v79 M77))))))))))
def lp_X11_digest_83 (F : Nat)  : Nat → Int64 → Int32 → GM → Option (Int64 × GM)
  | 0 => fun _ _ _ => none
  | f + 1 => fun b33 a34 M => st_X11_digest_83 F  (lp_X11_digest_83 F  f) b33 a34 M
set_option maxHeartbeats 4000000 in
set_option maxRecDepth 100000 in
theorem lw_X11_digest_83 {x : GX} (X : GC x cX11_digest 6 RX11 6)   {F : Nat} {r9 : (Int64 × GM)} (hE : ∀ (x1_9 : Int64) (M9 : GM), r9 = (x1_9, M9) → WG x M9 [(0, .ref (gad (xz x) 122)), (1, .long x1_9)] 202 []) : ∀ (f : Nat) (b33 : Int64) (a34 : Int32) (M : GM), lp_X11_digest_83 F  f b33 a34 M = some r9 → WG x M [(0, .ref (gad (xz x) 122)), (1, .long b33), (3, .int a34)] 83 [] := by
  intro f
  induction f with
  | zero => intro b33 a34 M h; cases h
  | succ f ih =>
    intro b33 a34 M h
    have hrec := ih
    have h : st_X11_digest_83 F  (lp_X11_digest_83 F  f) b33 a34 M = some r9 := h
    generalize lp_X11_digest_83 F  f = rec at h hrec
    unfold st_X11_digest_83 at h
    refine g_iload_n X (j := 2) dX11_digest_83 rfl rfl ?_
    refine g_aload_n X (j := 0) dX11_digest_84 rfl rfl ?_
    refine gf_X11_125 X gT_c122 dX11_digest_85 ?_
    refine g_icmp_ge X (tgt := 202) dX11_digest_88 (by decide) (fun hb => ?_) (fun hb => ?_)
    · have h := ite_t hb h
      refine g_lv [0, 1] rfl ?_
      exact hE b33 M (Option.some.inj h).symm
    · have h := ite_f hb h
      refine g_lload_n X (j := 1) dX11_digest_91 rfl rfl ?_
      refine g_ldc2 X q_1548 dX11_digest_92 ?_
      refine g_lmul X dX11_digest_95 ?_
      refine g_aload_n X (j := 0) dX11_digest_96 rfl rfl ?_
      refine g_iload_n X (j := 2) dX11_digest_97 rfl rfl ?_
      obtain ⟨⟨v36, M37⟩, hc35, h⟩ := bndO_e h
      refine gc_X11_315 X gT_c122 (ct_X11_sidesOf X.htr  hc35) (by decide) (Nat.le_of_ble_eq_true rfl) dX11_digest_98 ?_
      refine g_i2l X dX11_digest_101 ?_
      refine g_ladd X dX11_digest_102 ?_
      refine g_ldc2 X q_1548 dX11_digest_103 ?_
      refine g_lmul X dX11_digest_106 ?_
      refine g_aload_n X (j := 0) dX11_digest_107 rfl rfl ?_
      refine g_iload_n X (j := 2) dX11_digest_108 rfl rfl ?_
      obtain ⟨⟨v39, M40⟩, hc38, h⟩ := bndO_e h
      refine gc_X11_326 X gT_c122 (ct_X11_drawnPieces X.htr  hc38) (by decide) (Nat.le_of_ble_eq_true rfl) dX11_digest_109 ?_
      refine g_i2l X dX11_digest_112 ?_
      refine g_ladd X dX11_digest_113 ?_
      refine g_ldc2 X q_1548 dX11_digest_114 ?_
      refine g_lmul X dX11_digest_117 ?_
      refine g_aload_n X (j := 0) dX11_digest_118 rfl rfl ?_
      refine g_iload_n X (j := 2) dX11_digest_119 rfl rfl ?_
      obtain ⟨⟨v42, M43⟩, hc41, h⟩ := bndO_e h
      refine gc_X11_329 X gT_c122 (ct_X11_pointsIn X.htr  hc41) (by decide) (Nat.le_of_ble_eq_true rfl) dX11_digest_120 ?_
      refine g_i2l X dX11_digest_123 ?_
      refine g_ladd X dX11_digest_124 ?_
      refine g_topl (fun w44 e45 => ?_)
      have h := bnd_e e45 h
      refine g_lstore_n X (lv' := [(1, .long w44), (0, .ref (gad (xz x) 122)), (3, .int a34)]) dX11_digest_125 rfl (by decide) rfl ?_
      refine g_lload_n X (j := 0) dX11_digest_126 rfl rfl ?_
      refine g_ldc2 X q_1548 dX11_digest_127 ?_
      refine g_lmul X dX11_digest_130 ?_
      refine g_aload_n X (j := 1) dX11_digest_131 rfl rfl ?_
      refine gf_X11_62 X gT_c122 dX11_digest_132 ?_
      refine g_iload_n X (j := 2) dX11_digest_135 rfl rfl ?_
      obtain ⟨v47, hc46, h⟩ := bndO_e h
      refine gc_X11_351 X (ct_X11_count X.htr gT_c140 hc46) (by decide) (Nat.le_of_ble_eq_true rfl) dX11_digest_136 ?_
      refine g_i2l X dX11_digest_139 ?_
      refine g_ladd X dX11_digest_140 ?_
      refine g_topl (fun w48 e49 => ?_)
      have h := bnd_e e49 h
      refine g_lstore_n X (lv' := [(1, .long w48), (0, .ref (gad (xz x) 122)), (3, .int a34)]) dX11_digest_141 rfl (by decide) rfl ?_
      refine g_iconst X (v := 0) dX11_digest_142 (by decide) ?_
      refine g_topi (fun v50 e51 => ?_)
      have h := bnd_e e51 h
      refine g_istore X (lv' := [(4, .int v50), (1, .long w48), (0, .ref (gad (xz x) 122)), (3, .int a34)]) dX11_digest_143 (by decide) rfl ?_
      refine g_lv [2, 1, 3, 0] rfl ?_
      obtain ⟨⟨w76, M77⟩, hl78, h⟩ := bndO_e h
      refine lw_X11_digest_145 X  (fun w76_ M77_ e9 => ?_) F w48 v50 M43 hl78
      cases e9
      refine g_iinc X (j := 2) (w := a34 + (1 : Int32)) (lv' := [(0, .ref (gad (xz x) 122)), (1, .long w76)]) dX11_digest_196 rfl (by rw [ii_1]) (by decide) (fun _ => rfl) (fun v79 e80 => ?_)
      have h := bnd_e e80 h
      refine g_goto X (tgt := 83) dX11_digest_199 (by decide) ?_
      refine g_lv [1, 2, 0] rfl ?_
      exact hrec w76 v79 M77 h
def st_X11_digest_216 (F : Nat)  (rec : Int64 → Int32 → GM → Option (Int64 × GM)) (b90 : Int64) (a91 : Int32) (M : GM) : Option (Int64 × GM) := if (960 : Int32) ≤ a91 then (some (b90, M)) else (grd (gIn a91 (gN 138)) (grd (gIn a91 (gN 139)) (grd (gIn a91 (gN 140)) (bnd ((((((b90 * (31 : Int64)) + ((gI M 138 a91.toNatClampNeg).toInt64)) * (31 : Int64)) + ((gI M 139 a91.toNatClampNeg).toInt64)) * (31 : Int64)) + ((gI M 140 a91.toNatClampNeg).toInt64)) (fun w95 => bnd (a91 + (1 : Int32)) (fun v97 => rec w95 v97 M))))))
def lp_X11_digest_216 (F : Nat)  : Nat → Int64 → Int32 → GM → Option (Int64 × GM)
  | 0 => fun _ _ _ => none
  | f + 1 => fun b90 a91 M => st_X11_digest_216 F  (lp_X11_digest_216 F  f) b90 a91 M
set_option maxHeartbeats 4000000 in
set_option maxRecDepth 100000 in
theorem lw_X11_digest_216 {x : GX} (X : GC x cX11_digest 6 RX11 6)   {F : Nat} {r9 : (Int64 × GM)} (hE : ∀ (x1_9 : Int64) (M9 : GM), r9 = (x1_9, M9) → WG x M9 [(1, .long x1_9)] 267 []) : ∀ (f : Nat) (b90 : Int64) (a91 : Int32) (M : GM), lp_X11_digest_216 F  f b90 a91 M = some r9 → WG x M [(0, .ref (gad (xz x) 122)), (1, .long b90), (3, .int a91)] 216 [] := by
  intro f
  induction f with
  | zero => intro b90 a91 M h; cases h
  | succ f ih =>
    intro b90 a91 M h
    have hrec := ih
    have h : st_X11_digest_216 F  (lp_X11_digest_216 F  f) b90 a91 M = some r9 := h
    generalize lp_X11_digest_216 F  f = rec at h hrec
    unfold st_X11_digest_216 at h
    refine g_iload_n X (j := 2) dX11_digest_216 rfl rfl ?_
    refine g_sipush X (v := 960) dX11_digest_217 (by decide) ?_
    refine g_icmp_ge X (tgt := 267) dX11_digest_220 (by decide) (fun hb => ?_) (fun hb => ?_)
    · have h := ite_t hb h
      refine g_lv [1] rfl ?_
      exact hE b90 M (Option.some.inj h).symm
    · have h := ite_f hb h
      refine g_lload_n X (j := 1) dX11_digest_223 rfl rfl ?_
      refine g_ldc2 X q_1548 dX11_digest_224 ?_
      refine g_lmul X dX11_digest_227 ?_
      refine g_aload_n X (j := 0) dX11_digest_228 rfl rfl ?_
      refine gf_X11_56 X gT_c122 dX11_digest_229 ?_
      refine g_iload_n X (j := 2) dX11_digest_232 rfl rfl ?_
      obtain ⟨hg92, h⟩ := grd_e h
      refine g_iald X gT_c138 hg92 dX11_digest_233 ?_
      refine g_i2l X dX11_digest_234 ?_
      refine g_ladd X dX11_digest_235 ?_
      refine g_ldc2 X q_1548 dX11_digest_236 ?_
      refine g_lmul X dX11_digest_239 ?_
      refine g_aload_n X (j := 0) dX11_digest_240 rfl rfl ?_
      refine gf_X11_59 X gT_c122 dX11_digest_241 ?_
      refine g_iload_n X (j := 2) dX11_digest_244 rfl rfl ?_
      obtain ⟨hg93, h⟩ := grd_e h
      refine g_iald X gT_c139 hg93 dX11_digest_245 ?_
      refine g_i2l X dX11_digest_246 ?_
      refine g_ladd X dX11_digest_247 ?_
      refine g_ldc2 X q_1548 dX11_digest_248 ?_
      refine g_lmul X dX11_digest_251 ?_
      refine g_aload_n X (j := 0) dX11_digest_252 rfl rfl ?_
      refine gf_X11_62 X gT_c122 dX11_digest_253 ?_
      refine g_iload_n X (j := 2) dX11_digest_256 rfl rfl ?_
      obtain ⟨hg94, h⟩ := grd_e h
      refine g_iald X gT_c140 hg94 dX11_digest_257 ?_
      refine g_i2l X dX11_digest_258 ?_
      refine g_ladd X dX11_digest_259 ?_
      refine g_topl (fun w95 e96 => ?_)
      have h := bnd_e e96 h
      refine g_lstore_n X (lv' := [(1, .long w95), (0, .ref (gad (xz x) 122)), (3, .int a91)]) dX11_digest_260 rfl (by decide) rfl ?_
      refine g_iinc X (j := 2) (w := a91 + (1 : Int32)) (lv' := [(1, .long w95), (0, .ref (gad (xz x) 122))]) dX11_digest_261 rfl (by rw [ii_1]) (by decide) (fun _ => rfl) (fun v97 e98 => ?_)
      have h := bnd_e e98 h
      refine g_goto X (tgt := 216) dX11_digest_264 (by decide) ?_
      refine g_lv [2, 1, 0] rfl ?_
      exact hrec w95 v97 M h
def f_X11_digest (F : Nat) (M : GM) : Option (Int64 × GM) := bnd (sI M 122 0 (0 : Int32)) (fun M1 => bndO (f_X11_look F M1) (fun (v4, M5) => bnd ((((((76229 : Int64) + ((gI M1 122 1).toInt64)) * (31 : Int64)) + ((gI M1 122 2).toInt64)) * (31 : Int64)) + v4.toInt64) (fun w6 => bnd (0 : Int32) (fun v8 => bndO (lp_X11_digest_37 F  F w6 v8 M5) (fun (w28, M29) => bnd (0 : Int32) (fun v31 => bndO (lp_X11_digest_83 F  F w28 v31 M29) (fun (w81, M82) => bndO (f_X11_different F M82) (fun v85 => bnd ((w81 * (31 : Int64)) + v85.toInt64) (fun w86 => bnd (0 : Int32) (fun v88 => bndO (lp_X11_digest_216 F  F w86 v88 M82) (fun (w99, M100) => some (w99, M100))))))))))))
set_option maxHeartbeats 4000000 in
set_option maxRecDepth 100000 in
theorem w_X11_digest {x : GX} (X : GC x cX11_digest 6 RX11 6)   {F : Nat} {M : GM} {r9 : (Int64 × GM)} (hR : ∀ (v9 : Int64) (M9 : GM) (lv9 : List (Nat × Value)) (pc9 : Nat), r9 = (v9, M9) → decode cX11_digest pc9 = .ok (.lreturn, 1) → WG x M9 lv9 pc9 [.long v9]) (h : f_X11_digest F M = some r9) : WG x M [(0, .ref (gad (xz x) 122))] 0 [] := by
  unfold f_X11_digest at h
  refine g_aload_n X (j := 0) dX11_digest_0 rfl rfl ?_
  refine g_iconst X (v := 0) dX11_digest_1 (by decide) ?_
  refine gp_X11_114 X gT_c122 dX11_digest_2 ?_
  refine g_mem (fun M1 e2 => ?_)
  have h := bnd_e e2 h
  refine g_ldc2 X q_1547 dX11_digest_5 ?_
  refine g_aload_n X (j := 0) dX11_digest_8 rfl rfl ?_
  refine gf_X11_122 X gT_c122 dX11_digest_9 ?_
  refine g_i2l X dX11_digest_12 ?_
  refine g_ladd X dX11_digest_13 ?_
  refine g_ldc2 X q_1548 dX11_digest_14 ?_
  refine g_lmul X dX11_digest_17 ?_
  refine g_aload_n X (j := 0) dX11_digest_18 rfl rfl ?_
  refine gf_X11_125 X gT_c122 dX11_digest_19 ?_
  refine g_i2l X dX11_digest_22 ?_
  refine g_ladd X dX11_digest_23 ?_
  refine g_ldc2 X q_1548 dX11_digest_24 ?_
  refine g_lmul X dX11_digest_27 ?_
  refine g_aload_n X (j := 0) dX11_digest_28 rfl rfl ?_
  obtain ⟨⟨v4, M5⟩, hc3, h⟩ := bndO_e h
  refine gc_X11_344 X gT_c122 (ct_X11_look X.htr  hc3) (by decide) (Nat.le_of_ble_eq_true rfl) dX11_digest_29 ?_
  refine g_i2l X dX11_digest_32 ?_
  refine g_ladd X dX11_digest_33 ?_
  refine g_topl (fun w6 e7 => ?_)
  have h := bnd_e e7 h
  refine g_lstore_n X (lv' := [(1, .long w6), (0, .ref (gad (xz x) 122))]) dX11_digest_34 rfl (by decide) rfl ?_
  refine g_iconst X (v := 0) dX11_digest_35 (by decide) ?_
  refine g_topi (fun v8 e9 => ?_)
  have h := bnd_e e9 h
  refine g_istore_n X (lv' := [(3, .int v8), (1, .long w6), (0, .ref (gad (xz x) 122))]) dX11_digest_36 rfl (by decide) rfl ?_
  refine g_lv [2, 1, 0] rfl ?_
  obtain ⟨⟨w28, M29⟩, hl30, h⟩ := bndO_e h
  refine lw_X11_digest_37 X  (fun w28_ M29_ e9 => ?_) F w6 v8 M5 hl30
  cases e9
  refine g_iconst X (v := 0) dX11_digest_81 (by decide) ?_
  refine g_topi (fun v31 e32 => ?_)
  have h := bnd_e e32 h
  refine g_istore_n X (lv' := [(3, .int v31), (0, .ref (gad (xz x) 122)), (1, .long w28)]) dX11_digest_82 rfl (by decide) rfl ?_
  refine g_lv [1, 2, 0] rfl ?_
  obtain ⟨⟨w81, M82⟩, hl83, h⟩ := bndO_e h
  refine lw_X11_digest_83 X  (fun w81_ M82_ e9 => ?_) F w28 v31 M29 hl83
  cases e9
  refine g_lload_n X (j := 1) dX11_digest_202 rfl rfl ?_
  refine g_ldc2 X q_1548 dX11_digest_203 ?_
  refine g_lmul X dX11_digest_206 ?_
  refine g_aload_n X (j := 0) dX11_digest_207 rfl rfl ?_
  obtain ⟨v85, hc84, h⟩ := bndO_e h
  refine gc_X11_354 X gT_c122 (ct_X11_different X.htr  hc84) (by decide) (Nat.le_of_ble_eq_true rfl) dX11_digest_208 ?_
  refine g_i2l X dX11_digest_211 ?_
  refine g_ladd X dX11_digest_212 ?_
  refine g_topl (fun w86 e87 => ?_)
  have h := bnd_e e87 h
  refine g_lstore_n X (lv' := [(1, .long w86), (0, .ref (gad (xz x) 122))]) dX11_digest_213 rfl (by decide) rfl ?_
  refine g_iconst X (v := 0) dX11_digest_214 (by decide) ?_
  refine g_topi (fun v88 e89 => ?_)
  have h := bnd_e e89 h
  refine g_istore_n X (lv' := [(3, .int v88), (1, .long w86), (0, .ref (gad (xz x) 122))]) dX11_digest_215 rfl (by decide) rfl ?_
  refine g_lv [2, 1, 0] rfl ?_
  obtain ⟨⟨w99, M100⟩, hl101, h⟩ := bndO_e h
  refine lw_X11_digest_216 X  (fun w99_ M100_ e9 => ?_) F w86 v88 M82 hl101
  cases e9
  refine g_lload_n X (j := 0) dX11_digest_267 rfl rfl ?_
  exact hR w99 M100 _ _ (Option.some.inj h).symm dX11_digest_268
theorem ct_X11_digest {l : Launch} {z : GZ} (htr : l.stackTraces = false)   {M : GM} {F : Nat} {v : Int64} {M1 : GM} (h : f_X11_digest F M = some (v, M1)) : gMet l z yX11_digest cX11_digest 6 (some .long) 6 [.ref (gad z 122)] M (some (.long v)) M1 := gMet_ofL (by decide +kernel) (Nat.le_of_ble_eq_true rfl) htr (fun x X ez el hR => by subst ez; subst el; exact w_X11_digest X  (fun v9 M9 lv9 pc9 e9 d9 => by cases e9; exact hR lv9 pc9 d9) h)
