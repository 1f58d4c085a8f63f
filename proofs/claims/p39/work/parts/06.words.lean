/-! words -/
theorem q_0 : (.selects RX10 yX10_requireCorner yX10_requireCorner : Cond) ∈ GW := gw_mem 0 (by decide +kernel) (by decide +kernel)
theorem q_2 : (.selects RX10 yX10_requirePane yX10_requirePane : Cond) ∈ GW := gw_mem 2 (by decide +kernel) (by decide +kernel)
theorem q_3 : (.selects RX10 yX10_formShape yX10_formShape : Cond) ∈ GW := gw_mem 3 (by decide +kernel) (by decide +kernel)
theorem q_4 : (.selects RX10 yX10_colourHere yX10_colourHere : Cond) ∈ GW := gw_mem 4 (by decide +kernel) (by decide +kernel)
theorem q_5 : (.selects RX5 yX5_placeOf yX5_placeOf : Cond) ∈ GW := gw_mem 5 (by decide +kernel) (by decide +kernel)
theorem q_6 : (.selects RX10 yX10_draw yX10_draw : Cond) ∈ GW := gw_mem 6 (by decide +kernel) (by decide +kernel)
theorem q_7 : (.selects RX10 yX10_drawPane yX10_drawPane : Cond) ∈ GW := gw_mem 7 (by decide +kernel) (by decide +kernel)
theorem q_8 : (.selects RX10 yX10_drawPiece yX10_drawPiece : Cond) ∈ GW := gw_mem 8 (by decide +kernel) (by decide +kernel)
theorem q_9 : (.selects RX10 yX10_paintPoint yX10_paintPoint : Cond) ∈ GW := gw_mem 9 (by decide +kernel) (by decide +kernel)
theorem q_10 : (.selects RX10 yX10_countStaleTiles yX10_countStaleTiles : Cond) ∈ GW := gw_mem 10 (by decide +kernel) (by decide +kernel)
theorem q_11 : (.selects RX10 yX10_spanTile yX10_spanTile : Cond) ∈ GW := gw_mem 11 (by decide +kernel) (by decide +kernel)
theorem q_12 : (.selects RX10 yX10_digestPane yX10_digestPane : Cond) ∈ GW := gw_mem 12 (by decide +kernel) (by decide +kernel)
theorem q_13 : (.selects RX10 yX10_requireSpot yX10_requireSpot : Cond) ∈ GW := gw_mem 13 (by decide +kernel) (by decide +kernel)
theorem q_14 : (.selects RX10 yX10_cornersInFront yX10_cornersInFront : Cond) ∈ GW := gw_mem 14 (by decide +kernel) (by decide +kernel)
theorem q_17 : (.initialized RX10 : Cond) ∈ GW := gw_mem 17 (by decide +kernel) (by decide +kernel)
theorem q_18 : (.initialized RX1 : Cond) ∈ GW := gw_mem 18 (by decide +kernel) (by decide +kernel)
theorem q_19 : (.initialized RX8 : Cond) ∈ GW := gw_mem 19 (by decide +kernel) (by decide +kernel)
theorem q_20 : (.initialized RX9 : Cond) ∈ GW := gw_mem 20 (by decide +kernel) (by decide +kernel)
theorem q_21 : (.initialized RX6 : Cond) ∈ GW := gw_mem 21 (by decide +kernel) (by decide +kernel)
theorem q_22 : (.initialized RX0 : Cond) ∈ GW := gw_mem 22 (by decide +kernel) (by decide +kernel)
theorem q_23 : (.initialized RX7 : Cond) ∈ GW := gw_mem 23 (by decide +kernel) (by decide +kernel)
theorem q_24 : (.initialized RX2 : Cond) ∈ GW := gw_mem 24 (by decide +kernel) (by decide +kernel)
theorem q_25 : (.initialized RX3 : Cond) ∈ GW := gw_mem 25 (by decide +kernel) (by decide +kernel)
theorem q_26 : (.initialized RX4 : Cond) ∈ GW := gw_mem 26 (by decide +kernel) (by decide +kernel)
theorem q_27 : (.initialized RX5 : Cond) ∈ GW := gw_mem 27 (by decide +kernel) (by decide +kernel)
theorem q_31 : (.initialized "java/lang/IllegalArgumentException" : Cond) ∈ GW := gw_mem 31 (by decide +kernel) (by decide +kernel)
theorem q_32 : (.initialized "java/lang/IllegalStateException" : Cond) ∈ GW := gw_mem 32 (by decide +kernel) (by decide +kernel)
theorem q_33 : (.initialized "java/lang/IndexOutOfBoundsException" : Cond) ∈ GW := gw_mem 33 (by decide +kernel) (by decide +kernel)
theorem q_34 : (.initialized RJ9 : Cond) ∈ GW := gw_mem 34 (by decide +kernel) (by decide +kernel)
theorem q_35 : (.initialized RJ10 : Cond) ∈ GW := gw_mem 35 (by decide +kernel) (by decide +kernel)
theorem q_36 : (.initialized RJ7 : Cond) ∈ GW := gw_mem 36 (by decide +kernel) (by decide +kernel)
theorem q_41 : (.methodLink RX10 118 yX10_requireCorner : Cond) ∈ GW := gw_mem 41 (by decide +kernel) (by decide +kernel)
theorem q_43 : (.instanceMethod yX10_requireCorner : Cond) ∈ GW := gw_mem 43 (by decide +kernel) (by decide +kernel)
theorem q_45 : (.code yX10_requireCorner cX10_requireCorner 2 none : Cond) ∈ GW := gw_mem 45 (by decide +kernel) (by decide +kernel)
theorem q_46 : (.methodLink RX10 86 yX10_isWithin : Cond) ∈ GW := gw_mem 46 (by decide +kernel) (by decide +kernel)
theorem q_47 : (.static yX10_isWithin : Cond) ∈ GW := gw_mem 47 (by decide +kernel) (by decide +kernel)
theorem q_48 : (.code yX10_isWithin cX10_isWithin 3 (some .boolean) : Cond) ∈ GW := gw_mem 48 (by decide +kernel) (by decide +kernel)
theorem q_49 : (.classLink RX10 156 "java/lang/IndexOutOfBoundsException" : Cond) ∈ GW := gw_mem 49 (by decide +kernel) (by decide +kernel)
theorem q_119 : (.methodLink RX10 78 yX10_requirePlace : Cond) ∈ GW := gw_mem 119 (by decide +kernel) (by decide +kernel)
theorem q_120 : (.static yX10_requirePlace : Cond) ∈ GW := gw_mem 120 (by decide +kernel) (by decide +kernel)
theorem q_121 : (.code yX10_requirePlace cX10_requirePlace 3 none : Cond) ∈ GW := gw_mem 121 (by decide +kernel) (by decide +kernel)
theorem q_122 : (.classLink RX10 90 "java/lang/IllegalArgumentException" : Cond) ∈ GW := gw_mem 122 (by decide +kernel) (by decide +kernel)
theorem q_138 : (.methodLink RX10 106 yX3_place : Cond) ∈ GW := gw_mem 138 (by decide +kernel) (by decide +kernel)
theorem q_139 : (.instanceMethod yX3_place : Cond) ∈ GW := gw_mem 139 (by decide +kernel) (by decide +kernel)
theorem q_140 : (.selects RX3 yX3_place yX3_place : Cond) ∈ GW := gw_mem 140 (by decide +kernel) (by decide +kernel)
theorem q_141 : (.code yX3_place cX3_place 4 none : Cond) ∈ GW := gw_mem 141 (by decide +kernel) (by decide +kernel)
theorem q_142 : (.methodLink RX10 124 yX4_has : Cond) ∈ GW := gw_mem 142 (by decide +kernel) (by decide +kernel)
theorem q_143 : (.instanceMethod yX4_has : Cond) ∈ GW := gw_mem 143 (by decide +kernel) (by decide +kernel)
theorem q_144 : (.selects RX4 yX4_has yX4_has : Cond) ∈ GW := gw_mem 144 (by decide +kernel) (by decide +kernel)
theorem q_145 : (.code yX4_has cX4_has 2 (some .boolean) : Cond) ∈ GW := gw_mem 145 (by decide +kernel) (by decide +kernel)
theorem q_150 : (.methodLink RX10 150 yX10_requirePane : Cond) ∈ GW := gw_mem 150 (by decide +kernel) (by decide +kernel)
theorem q_152 : (.instanceMethod yX10_requirePane : Cond) ∈ GW := gw_mem 152 (by decide +kernel) (by decide +kernel)
theorem q_153 : (.code yX10_requirePane cX10_requirePane 2 none : Cond) ∈ GW := gw_mem 153 (by decide +kernel) (by decide +kernel)
theorem q_156 : (.instanceMethod yX10_polygonOf : Cond) ∈ GW := gw_mem 156 (by decide +kernel) (by decide +kernel)
theorem q_157 : (.selects RX10 yX10_polygonOf yX10_polygonOf : Cond) ∈ GW := gw_mem 157 (by decide +kernel) (by decide +kernel)
theorem q_158 : (.code yX10_polygonOf cX10_polygonOf 2 (some .int) : Cond) ∈ GW := gw_mem 158 (by decide +kernel) (by decide +kernel)
theorem q_159 : (.methodLink RX10 199 yX10_formShape : Cond) ∈ GW := gw_mem 159 (by decide +kernel) (by decide +kernel)
theorem q_161 : (.instanceMethod yX10_formShape : Cond) ∈ GW := gw_mem 161 (by decide +kernel) (by decide +kernel)
theorem q_162 : (.code yX10_formShape cX10_formShape 4 none : Cond) ∈ GW := gw_mem 162 (by decide +kernel) (by decide +kernel)
theorem q_163 : (.methodLink RX10 429 yX1_look : Cond) ∈ GW := gw_mem 163 (by decide +kernel) (by decide +kernel)
theorem q_164 : (.instanceMethod yX1_look : Cond) ∈ GW := gw_mem 164 (by decide +kernel) (by decide +kernel)
theorem q_165 : (.selects RX1 yX1_look yX1_look : Cond) ∈ GW := gw_mem 165 (by decide +kernel) (by decide +kernel)
theorem q_166 : (.code yX1_look cX1_look 3 none : Cond) ∈ GW := gw_mem 166 (by decide +kernel) (by decide +kernel)
theorem q_167 : (.methodLink RX1 33 yX1_along : Cond) ∈ GW := gw_mem 167 (by decide +kernel) (by decide +kernel)
theorem q_168 : (.instanceMethod yX1_along : Cond) ∈ GW := gw_mem 168 (by decide +kernel) (by decide +kernel)
theorem q_169 : (.selects RX1 yX1_along yX1_along : Cond) ∈ GW := gw_mem 169 (by decide +kernel) (by decide +kernel)
theorem q_170 : (.code yX1_along cX1_along 5 (some .int) : Cond) ∈ GW := gw_mem 170 (by decide +kernel) (by decide +kernel)
theorem q_172 : (.static yX10_redOf : Cond) ∈ GW := gw_mem 172 (by decide +kernel) (by decide +kernel)
theorem q_173 : (.code yX10_redOf cX10_redOf 1 (some .int) : Cond) ∈ GW := gw_mem 173 (by decide +kernel) (by decide +kernel)
theorem q_175 : (.static yX10_greenOf : Cond) ∈ GW := gw_mem 175 (by decide +kernel) (by decide +kernel)
theorem q_176 : (.code yX10_greenOf cX10_greenOf 1 (some .int) : Cond) ∈ GW := gw_mem 176 (by decide +kernel) (by decide +kernel)
theorem q_178 : (.static yX10_blueOf : Cond) ∈ GW := gw_mem 178 (by decide +kernel) (by decide +kernel)
theorem q_179 : (.code yX10_blueOf cX10_blueOf 1 (some .int) : Cond) ∈ GW := gw_mem 179 (by decide +kernel) (by decide +kernel)
theorem q_180 : (.methodLink RX10 439 yX8_cutAt : Cond) ∈ GW := gw_mem 180 (by decide +kernel) (by decide +kernel)
theorem q_181 : (.instanceMethod yX8_cutAt : Cond) ∈ GW := gw_mem 181 (by decide +kernel) (by decide +kernel)
theorem q_182 : (.selects RX8 yX8_cutAt yX8_cutAt : Cond) ∈ GW := gw_mem 182 (by decide +kernel) (by decide +kernel)
theorem q_183 : (.code yX8_cutAt cX8_cutAt 7 none : Cond) ∈ GW := gw_mem 183 (by decide +kernel) (by decide +kernel)
theorem q_184 : (.methodLink RX8 35 yX9_copy : Cond) ∈ GW := gw_mem 184 (by decide +kernel) (by decide +kernel)
theorem q_185 : (.instanceMethod yX9_copy : Cond) ∈ GW := gw_mem 185 (by decide +kernel) (by decide +kernel)
theorem q_186 : (.selects RX9 yX9_copy yX9_copy : Cond) ∈ GW := gw_mem 186 (by decide +kernel) (by decide +kernel)
theorem q_187 : (.code yX9_copy cX9_copy 2 none : Cond) ∈ GW := gw_mem 187 (by decide +kernel) (by decide +kernel)
theorem q_188 : (.methodLink RX8 39 yX9_cut : Cond) ∈ GW := gw_mem 188 (by decide +kernel) (by decide +kernel)
theorem q_189 : (.instanceMethod yX9_cut : Cond) ∈ GW := gw_mem 189 (by decide +kernel) (by decide +kernel)
theorem q_190 : (.selects RX9 yX9_cut yX9_cut : Cond) ∈ GW := gw_mem 190 (by decide +kernel) (by decide +kernel)
theorem q_191 : (.code yX9_cut cX9_cut 8 none : Cond) ∈ GW := gw_mem 191 (by decide +kernel) (by decide +kernel)
theorem q_192 : (.methodLink RX9 36 yX9_between : Cond) ∈ GW := gw_mem 192 (by decide +kernel) (by decide +kernel)
theorem q_193 : (.static yX9_between : Cond) ∈ GW := gw_mem 193 (by decide +kernel) (by decide +kernel)
theorem q_194 : (.code yX9_between cX9_between 6 (some .int) : Cond) ∈ GW := gw_mem 194 (by decide +kernel) (by decide +kernel)
theorem q_195 : (.methodLink RX9 40 yJ9_floorDiv_f86c9 : Cond) ∈ GW := gw_mem 195 (by decide +kernel) (by decide +kernel)
theorem q_196 : (.static yJ9_floorDiv_f86c9 : Cond) ∈ GW := gw_mem 196 (by decide +kernel) (by decide +kernel)
theorem q_197 : (.code yJ9_floorDiv_f86c9 cJ9_floorDiv_f86c9 6 (some .long) : Cond) ∈ GW := gw_mem 197 (by decide +kernel) (by decide +kernel)
theorem q_198 : (.methodLink RX10 442 yX1_project : Cond) ∈ GW := gw_mem 198 (by decide +kernel) (by decide +kernel)
theorem q_199 : (.instanceMethod yX1_project : Cond) ∈ GW := gw_mem 199 (by decide +kernel) (by decide +kernel)
theorem q_200 : (.selects RX1 yX1_project yX1_project : Cond) ∈ GW := gw_mem 200 (by decide +kernel) (by decide +kernel)
theorem q_201 : (.code yX1_project cX1_project 4 none : Cond) ∈ GW := gw_mem 201 (by decide +kernel) (by decide +kernel)
theorem q_202 : ((Jvm.Cond.constantLong "GlassRaster$Camera" (72 : Nat) (16 : Int64)) : Cond) ∈ GW := gw_mem 202 (by decide +kernel) (by decide +kernel)
theorem q_204 : (.static yX10_cutDown : Cond) ∈ GW := gw_mem 204 (by decide +kernel) (by decide +kernel)
theorem q_205 : (.code yX10_cutDown cX10_cutDown 4 (some .long) : Cond) ∈ GW := gw_mem 205 (by decide +kernel) (by decide +kernel)
theorem q_206 : (.methodLink RX10 410 yJ9_floorDiv_f86c9 : Cond) ∈ GW := gw_mem 206 (by decide +kernel) (by decide +kernel)
theorem q_207 : ((Jvm.Cond.constant "GlassRaster$Camera" (84 : Nat) (65535 : Int32)) : Cond) ∈ GW := gw_mem 207 (by decide +kernel) (by decide +kernel)
theorem q_208 : ((Jvm.Cond.constantLong "GlassRaster$Camera" (85 : Nat) (65535 : Int64)) : Cond) ∈ GW := gw_mem 208 (by decide +kernel) (by decide +kernel)
theorem q_209 : ((Jvm.Cond.constantLong "GlassRaster$Camera" (90 : Nat) (65536 : Int64)) : Cond) ∈ GW := gw_mem 209 (by decide +kernel) (by decide +kernel)
theorem q_210 : (.methodLink RX10 446 yX8_split : Cond) ∈ GW := gw_mem 210 (by decide +kernel) (by decide +kernel)
theorem q_211 : (.instanceMethod yX8_split : Cond) ∈ GW := gw_mem 211 (by decide +kernel) (by decide +kernel)
theorem q_212 : (.selects RX8 yX8_split yX8_split : Cond) ∈ GW := gw_mem 212 (by decide +kernel) (by decide +kernel)
theorem q_213 : (.code yX8_split cX8_split 4 none : Cond) ∈ GW := gw_mem 213 (by decide +kernel) (by decide +kernel)
theorem q_214 : (.methodLink RX8 47 yX6_take : Cond) ∈ GW := gw_mem 214 (by decide +kernel) (by decide +kernel)
theorem q_215 : (.instanceMethod yX6_take : Cond) ∈ GW := gw_mem 215 (by decide +kernel) (by decide +kernel)
theorem q_216 : (.selects RX6 yX6_take yX6_take : Cond) ∈ GW := gw_mem 216 (by decide +kernel) (by decide +kernel)
theorem q_217 : (.code yX6_take cX6_take 7 none : Cond) ∈ GW := gw_mem 217 (by decide +kernel) (by decide +kernel)
theorem q_218 : (.methodLink RX6 31 yX9_isFarOut : Cond) ∈ GW := gw_mem 218 (by decide +kernel) (by decide +kernel)
theorem q_219 : (.instanceMethod yX9_isFarOut : Cond) ∈ GW := gw_mem 219 (by decide +kernel) (by decide +kernel)
theorem q_220 : (.selects RX9 yX9_isFarOut yX9_isFarOut : Cond) ∈ GW := gw_mem 220 (by decide +kernel) (by decide +kernel)
theorem q_221 : (.code yX9_isFarOut cX9_isFarOut 1 (some .boolean) : Cond) ∈ GW := gw_mem 221 (by decide +kernel) (by decide +kernel)
theorem q_223 : (.methodLink RX6 42 yX6_turn : Cond) ∈ GW := gw_mem 223 (by decide +kernel) (by decide +kernel)
theorem q_224 : (.static yX6_turn : Cond) ∈ GW := gw_mem 224 (by decide +kernel) (by decide +kernel)
theorem q_225 : (.code yX6_turn cX6_turn 4 (some .long) : Cond) ∈ GW := gw_mem 225 (by decide +kernel) (by decide +kernel)
theorem q_226 : (.methodLink RX6 50 yJ9_abs_067f4 : Cond) ∈ GW := gw_mem 226 (by decide +kernel) (by decide +kernel)
theorem q_227 : (.static yJ9_abs_067f4 : Cond) ∈ GW := gw_mem 227 (by decide +kernel) (by decide +kernel)
theorem q_228 : (.code yJ9_abs_067f4 cJ9_abs_067f4 2 (some .long) : Cond) ∈ GW := gw_mem 228 (by decide +kernel) (by decide +kernel)
theorem q_229 : (.methodLink RX6 60 yJ9_min_7cf53 : Cond) ∈ GW := gw_mem 229 (by decide +kernel) (by decide +kernel)
theorem q_230 : (.static yJ9_min_7cf53 : Cond) ∈ GW := gw_mem 230 (by decide +kernel) (by decide +kernel)
theorem q_231 : (.code yJ9_min_7cf53 cJ9_min_7cf53 2 (some .int) : Cond) ∈ GW := gw_mem 231 (by decide +kernel) (by decide +kernel)
theorem q_232 : (.methodLink RX6 64 yX6_firstMiddle : Cond) ∈ GW := gw_mem 232 (by decide +kernel) (by decide +kernel)
theorem q_233 : (.static yX6_firstMiddle : Cond) ∈ GW := gw_mem 233 (by decide +kernel) (by decide +kernel)
theorem q_234 : (.code yX6_firstMiddle cX6_firstMiddle 1 (some .int) : Cond) ∈ GW := gw_mem 234 (by decide +kernel) (by decide +kernel)
theorem q_235 : (.methodLink RX6 78 yJ9_floorDiv_7cf53 : Cond) ∈ GW := gw_mem 235 (by decide +kernel) (by decide +kernel)
theorem q_236 : (.static yJ9_floorDiv_7cf53 : Cond) ∈ GW := gw_mem 236 (by decide +kernel) (by decide +kernel)
theorem q_237 : (.code yJ9_floorDiv_7cf53 cJ9_floorDiv_7cf53 3 (some .int) : Cond) ∈ GW := gw_mem 237 (by decide +kernel) (by decide +kernel)
theorem q_238 : (.methodLink RX6 68 yJ9_max_7cf53 : Cond) ∈ GW := gw_mem 238 (by decide +kernel) (by decide +kernel)
theorem q_239 : (.static yJ9_max_7cf53 : Cond) ∈ GW := gw_mem 239 (by decide +kernel) (by decide +kernel)
theorem q_240 : (.code yJ9_max_7cf53 cJ9_max_7cf53 2 (some .int) : Cond) ∈ GW := gw_mem 240 (by decide +kernel) (by decide +kernel)
theorem q_241 : (.methodLink RX6 71 yX6_lastMiddle : Cond) ∈ GW := gw_mem 241 (by decide +kernel) (by decide +kernel)
theorem q_242 : (.static yX6_lastMiddle : Cond) ∈ GW := gw_mem 242 (by decide +kernel) (by decide +kernel)
theorem q_243 : (.code yX6_lastMiddle cX6_lastMiddle 1 (some .int) : Cond) ∈ GW := gw_mem 243 (by decide +kernel) (by decide +kernel)
theorem q_244 : (.methodLink RX6 74 yX0_span : Cond) ∈ GW := gw_mem 244 (by decide +kernel) (by decide +kernel)
theorem q_245 : (.instanceMethod yX0_span : Cond) ∈ GW := gw_mem 245 (by decide +kernel) (by decide +kernel)
theorem q_246 : (.selects RX0 yX0_span yX0_span : Cond) ∈ GW := gw_mem 246 (by decide +kernel) (by decide +kernel)
theorem q_247 : (.code yX0_span cX0_span 5 none : Cond) ∈ GW := gw_mem 247 (by decide +kernel) (by decide +kernel)
theorem q_248 : (.methodLink RX0 18 yJ9_max_7cf53 : Cond) ∈ GW := gw_mem 248 (by decide +kernel) (by decide +kernel)
theorem q_249 : (.methodLink RX0 30 yJ9_min_7cf53 : Cond) ∈ GW := gw_mem 249 (by decide +kernel) (by decide +kernel)
theorem q_251 : (.instanceMethod yX10_piecesOf : Cond) ∈ GW := gw_mem 251 (by decide +kernel) (by decide +kernel)
theorem q_252 : (.selects RX10 yX10_piecesOf yX10_piecesOf : Cond) ∈ GW := gw_mem 252 (by decide +kernel) (by decide +kernel)
theorem q_253 : (.code yX10_piecesOf cX10_piecesOf 7 (some .int) : Cond) ∈ GW := gw_mem 253 (by decide +kernel) (by decide +kernel)
theorem q_255 : (.instanceMethod yX10_pointsOf : Cond) ∈ GW := gw_mem 255 (by decide +kernel) (by decide +kernel)
theorem q_256 : (.selects RX10 yX10_pointsOf yX10_pointsOf : Cond) ∈ GW := gw_mem 256 (by decide +kernel) (by decide +kernel)
theorem q_257 : (.code yX10_pointsOf cX10_pointsOf 5 (some .int) : Cond) ∈ GW := gw_mem 257 (by decide +kernel) (by decide +kernel)
theorem q_258 : (.methodLink RX10 267 yX8_firstPieceAt : Cond) ∈ GW := gw_mem 258 (by decide +kernel) (by decide +kernel)
theorem q_259 : (.instanceMethod yX8_firstPieceAt : Cond) ∈ GW := gw_mem 259 (by decide +kernel) (by decide +kernel)
theorem q_260 : (.selects RX8 yX8_firstPieceAt yX8_firstPieceAt : Cond) ∈ GW := gw_mem 260 (by decide +kernel) (by decide +kernel)
theorem q_261 : (.code yX8_firstPieceAt cX8_firstPieceAt 5 (some .int) : Cond) ∈ GW := gw_mem 261 (by decide +kernel) (by decide +kernel)
theorem q_262 : (.methodLink RX8 55 yX0_spans : Cond) ∈ GW := gw_mem 262 (by decide +kernel) (by decide +kernel)
theorem q_263 : (.instanceMethod yX0_spans : Cond) ∈ GW := gw_mem 263 (by decide +kernel) (by decide +kernel)
theorem q_264 : (.selects RX0 yX0_spans yX0_spans : Cond) ∈ GW := gw_mem 264 (by decide +kernel) (by decide +kernel)
theorem q_265 : (.code yX0_spans cX0_spans 3 (some .boolean) : Cond) ∈ GW := gw_mem 265 (by decide +kernel) (by decide +kernel)
theorem q_267 : (.methodLink RX8 61 yX6_holds : Cond) ∈ GW := gw_mem 267 (by decide +kernel) (by decide +kernel)
theorem q_268 : (.instanceMethod yX6_holds : Cond) ∈ GW := gw_mem 268 (by decide +kernel) (by decide +kernel)
theorem q_269 : (.selects RX6 yX6_holds yX6_holds : Cond) ∈ GW := gw_mem 269 (by decide +kernel) (by decide +kernel)
theorem q_270 : (.code yX6_holds cX6_holds 5 (some .boolean) : Cond) ∈ GW := gw_mem 270 (by decide +kernel) (by decide +kernel)
theorem q_271 : (.methodLink RX6 84 yX6_isInside : Cond) ∈ GW := gw_mem 271 (by decide +kernel) (by decide +kernel)
theorem q_272 : (.static yX6_isInside : Cond) ∈ GW := gw_mem 272 (by decide +kernel) (by decide +kernel)
theorem q_273 : (.code yX6_isInside cX6_isInside 4 (some .boolean) : Cond) ∈ GW := gw_mem 273 (by decide +kernel) (by decide +kernel)
theorem q_278 : (.methodLink RX10 271 yX10_requirePoint : Cond) ∈ GW := gw_mem 278 (by decide +kernel) (by decide +kernel)
theorem q_279 : (.static yX10_requirePoint : Cond) ∈ GW := gw_mem 279 (by decide +kernel) (by decide +kernel)
theorem q_280 : (.code yX10_requirePoint cX10_requirePoint 2 none : Cond) ∈ GW := gw_mem 280 (by decide +kernel) (by decide +kernel)
theorem q_287 : (.methodLink RX10 275 yX6_depthHere : Cond) ∈ GW := gw_mem 287 (by decide +kernel) (by decide +kernel)
theorem q_288 : (.instanceMethod yX6_depthHere : Cond) ∈ GW := gw_mem 288 (by decide +kernel) (by decide +kernel)
theorem q_289 : (.selects RX6 yX6_depthHere yX6_depthHere : Cond) ∈ GW := gw_mem 289 (by decide +kernel) (by decide +kernel)
theorem q_290 : (.code yX6_depthHere cX6_depthHere 1 (some .int) : Cond) ∈ GW := gw_mem 290 (by decide +kernel) (by decide +kernel)
theorem q_291 : (.methodLink RX6 97 yX6_mean : Cond) ∈ GW := gw_mem 291 (by decide +kernel) (by decide +kernel)
theorem q_292 : (.instanceMethod yX6_mean : Cond) ∈ GW := gw_mem 292 (by decide +kernel) (by decide +kernel)
theorem q_293 : (.selects RX6 yX6_mean yX6_mean : Cond) ∈ GW := gw_mem 293 (by decide +kernel) (by decide +kernel)
theorem q_294 : (.code yX6_mean cX6_mean 4 (some .int) : Cond) ∈ GW := gw_mem 294 (by decide +kernel) (by decide +kernel)
theorem q_299 : (.methodLink RX10 278 yX10_colourHere : Cond) ∈ GW := gw_mem 299 (by decide +kernel) (by decide +kernel)
theorem q_301 : (.instanceMethod yX10_colourHere : Cond) ∈ GW := gw_mem 301 (by decide +kernel) (by decide +kernel)
theorem q_302 : (.code yX10_colourHere cX10_colourHere 9 (some .int) : Cond) ∈ GW := gw_mem 302 (by decide +kernel) (by decide +kernel)
theorem q_303 : (.methodLink RX10 460 yX6_mean : Cond) ∈ GW := gw_mem 303 (by decide +kernel) (by decide +kernel)
theorem q_304 : (.methodLink RX10 236 yX10_mixed : Cond) ∈ GW := gw_mem 304 (by decide +kernel) (by decide +kernel)
theorem q_305 : (.static yX10_mixed : Cond) ∈ GW := gw_mem 305 (by decide +kernel) (by decide +kernel)
theorem q_306 : (.code yX10_mixed cX10_mixed 3 (some .int) : Cond) ∈ GW := gw_mem 306 (by decide +kernel) (by decide +kernel)
theorem q_307 : ((Jvm.Cond.constant "GlassRaster" (422 : Nat) (65536 : Int32)) : Cond) ∈ GW := gw_mem 307 (by decide +kernel) (by decide +kernel)
theorem q_308 : (.methodLink RX10 463 yX6_weightedMean : Cond) ∈ GW := gw_mem 308 (by decide +kernel) (by decide +kernel)
theorem q_309 : (.instanceMethod yX6_weightedMean : Cond) ∈ GW := gw_mem 309 (by decide +kernel) (by decide +kernel)
theorem q_310 : (.selects RX6 yX6_weightedMean yX6_weightedMean : Cond) ∈ GW := gw_mem 310 (by decide +kernel) (by decide +kernel)
theorem q_311 : (.code yX6_weightedMean cX6_weightedMean 12 (some .int) : Cond) ∈ GW := gw_mem 311 (by decide +kernel) (by decide +kernel)
theorem q_312 : (.methodLink RX10 466 yX5_tintAt : Cond) ∈ GW := gw_mem 312 (by decide +kernel) (by decide +kernel)
theorem q_313 : (.instanceMethod yX5_tintAt : Cond) ∈ GW := gw_mem 313 (by decide +kernel) (by decide +kernel)
theorem q_314 : (.selects RX5 yX5_tintAt yX5_tintAt : Cond) ∈ GW := gw_mem 314 (by decide +kernel) (by decide +kernel)
theorem q_315 : (.code yX5_tintAt cX5_tintAt 3 (some .int) : Cond) ∈ GW := gw_mem 315 (by decide +kernel) (by decide +kernel)
theorem q_316 : (.methodLink RX5 19 yX5_placeOf : Cond) ∈ GW := gw_mem 316 (by decide +kernel) (by decide +kernel)
theorem q_318 : (.instanceMethod yX5_placeOf : Cond) ∈ GW := gw_mem 318 (by decide +kernel) (by decide +kernel)
theorem q_320 : (.code yX5_placeOf cX5_placeOf 3 (some .int) : Cond) ∈ GW := gw_mem 320 (by decide +kernel) (by decide +kernel)
theorem q_321 : (.methodLink RX10 338 yX10_redOf : Cond) ∈ GW := gw_mem 321 (by decide +kernel) (by decide +kernel)
theorem q_322 : (.methodLink RX10 341 yX10_greenOf : Cond) ∈ GW := gw_mem 322 (by decide +kernel) (by decide +kernel)
theorem q_323 : (.methodLink RX10 344 yX10_blueOf : Cond) ∈ GW := gw_mem 323 (by decide +kernel) (by decide +kernel)
theorem q_328 : (.methodLink RX10 286 yX10_draw : Cond) ∈ GW := gw_mem 328 (by decide +kernel) (by decide +kernel)
theorem q_330 : (.instanceMethod yX10_draw : Cond) ∈ GW := gw_mem 330 (by decide +kernel) (by decide +kernel)
theorem q_331 : (.code yX10_draw cX10_draw 5 none : Cond) ∈ GW := gw_mem 331 (by decide +kernel) (by decide +kernel)
theorem q_332 : (.methodLink RX10 282 yX7_blank : Cond) ∈ GW := gw_mem 332 (by decide +kernel) (by decide +kernel)
theorem q_333 : (.instanceMethod yX7_blank : Cond) ∈ GW := gw_mem 333 (by decide +kernel) (by decide +kernel)
theorem q_334 : (.selects RX7 yX7_blank yX7_blank : Cond) ∈ GW := gw_mem 334 (by decide +kernel) (by decide +kernel)
theorem q_335 : (.code yX7_blank cX7_blank 6 none : Cond) ∈ GW := gw_mem 335 (by decide +kernel) (by decide +kernel)
theorem q_336 : ((Jvm.Cond.constant "GlassRaster$Screen" (21 : Nat) (65535 : Int32)) : Cond) ∈ GW := gw_mem 336 (by decide +kernel) (by decide +kernel)
theorem q_337 : (.methodLink RX10 334 yX10_drawPane : Cond) ∈ GW := gw_mem 337 (by decide +kernel) (by decide +kernel)
theorem q_339 : (.instanceMethod yX10_drawPane : Cond) ∈ GW := gw_mem 339 (by decide +kernel) (by decide +kernel)
theorem q_340 : (.code yX10_drawPane cX10_drawPane 9 (some .boolean) : Cond) ∈ GW := gw_mem 340 (by decide +kernel) (by decide +kernel)
theorem q_341 : (.methodLink RX10 469 yX10_drawPiece : Cond) ∈ GW := gw_mem 341 (by decide +kernel) (by decide +kernel)
theorem q_343 : (.instanceMethod yX10_drawPiece : Cond) ∈ GW := gw_mem 343 (by decide +kernel) (by decide +kernel)
theorem q_344 : (.code yX10_drawPiece cX10_drawPiece 12 (some .boolean) : Cond) ∈ GW := gw_mem 344 (by decide +kernel) (by decide +kernel)
theorem q_345 : (.methodLink RX10 419 yJ9_max_7cf53 : Cond) ∈ GW := gw_mem 345 (by decide +kernel) (by decide +kernel)
theorem q_346 : (.methodLink RX10 416 yJ9_min_7cf53 : Cond) ∈ GW := gw_mem 346 (by decide +kernel) (by decide +kernel)
theorem q_347 : (.methodLink RX10 488 yX6_holds : Cond) ∈ GW := gw_mem 347 (by decide +kernel) (by decide +kernel)
theorem q_348 : (.methodLink RX10 492 yX10_paintPoint : Cond) ∈ GW := gw_mem 348 (by decide +kernel) (by decide +kernel)
theorem q_350 : (.instanceMethod yX10_paintPoint : Cond) ∈ GW := gw_mem 350 (by decide +kernel) (by decide +kernel)
theorem q_351 : (.code yX10_paintPoint cX10_paintPoint 8 (some .boolean) : Cond) ∈ GW := gw_mem 351 (by decide +kernel) (by decide +kernel)
theorem q_352 : (.methodLink RX10 496 yX10_halfOfBoth : Cond) ∈ GW := gw_mem 352 (by decide +kernel) (by decide +kernel)
theorem q_353 : (.static yX10_halfOfBoth : Cond) ∈ GW := gw_mem 353 (by decide +kernel) (by decide +kernel)
theorem q_354 : (.code yX10_halfOfBoth cX10_halfOfBoth 2 (some .int) : Cond) ∈ GW := gw_mem 354 (by decide +kernel) (by decide +kernel)
theorem q_355 : (.methodLink RX10 290 yX10_countStaleTiles : Cond) ∈ GW := gw_mem 355 (by decide +kernel) (by decide +kernel)
theorem q_357 : (.instanceMethod yX10_countStaleTiles : Cond) ∈ GW := gw_mem 357 (by decide +kernel) (by decide +kernel)
theorem q_358 : (.code yX10_countStaleTiles cX10_countStaleTiles 3 (some .int) : Cond) ∈ GW := gw_mem 358 (by decide +kernel) (by decide +kernel)
theorem q_359 : (.methodLink RX10 299 yX10_spanTile : Cond) ∈ GW := gw_mem 359 (by decide +kernel) (by decide +kernel)
theorem q_361 : (.instanceMethod yX10_spanTile : Cond) ∈ GW := gw_mem 361 (by decide +kernel) (by decide +kernel)
theorem q_362 : (.code yX10_spanTile cX10_spanTile 4 none : Cond) ∈ GW := gw_mem 362 (by decide +kernel) (by decide +kernel)
theorem q_363 : (.methodLink RX10 324 yX0_span : Cond) ∈ GW := gw_mem 363 (by decide +kernel) (by decide +kernel)
theorem q_364 : (.methodLink RX10 302 yX7_differsFrom : Cond) ∈ GW := gw_mem 364 (by decide +kernel) (by decide +kernel)
theorem q_365 : (.instanceMethod yX7_differsFrom : Cond) ∈ GW := gw_mem 365 (by decide +kernel) (by decide +kernel)
theorem q_366 : (.selects RX7 yX7_differsFrom yX7_differsFrom : Cond) ∈ GW := gw_mem 366 (by decide +kernel) (by decide +kernel)
theorem q_367 : (.code yX7_differsFrom cX7_differsFrom 6 (some .boolean) : Cond) ∈ GW := gw_mem 367 (by decide +kernel) (by decide +kernel)
theorem q_368 : (.methodLink RX10 293 yX7_copy : Cond) ∈ GW := gw_mem 368 (by decide +kernel) (by decide +kernel)
theorem q_369 : (.instanceMethod yX7_copy : Cond) ∈ GW := gw_mem 369 (by decide +kernel) (by decide +kernel)
theorem q_370 : (.selects RX7 yX7_copy yX7_copy : Cond) ∈ GW := gw_mem 370 (by decide +kernel) (by decide +kernel)
theorem q_371 : (.code yX7_copy cX7_copy 2 none : Cond) ∈ GW := gw_mem 371 (by decide +kernel) (by decide +kernel)
theorem q_372 : (.methodLink RX7 37 ⟨"java/lang/System", "arraycopy", "(Ljava/lang/Object;ILjava/lang/Object;II)V"⟩ : Cond) ∈ GW := gw_mem 372 (by decide +kernel) (by decide +kernel)
theorem q_373 : (.static ⟨"java/lang/System", "arraycopy", "(Ljava/lang/Object;ILjava/lang/Object;II)V"⟩ : Cond) ∈ GW := gw_mem 373 (by decide +kernel) (by decide +kernel)
theorem q_374 : (.native ⟨"java/lang/System", "arraycopy", "(Ljava/lang/Object;ILjava/lang/Object;II)V"⟩ : Cond) ∈ GW := gw_mem 374 (by decide +kernel) (by decide +kernel)
theorem q_380 : (.instanceMethod yX10_colourAt : Cond) ∈ GW := gw_mem 380 (by decide +kernel) (by decide +kernel)
theorem q_381 : (.selects RX10 yX10_colourAt yX10_colourAt : Cond) ∈ GW := gw_mem 381 (by decide +kernel) (by decide +kernel)
theorem q_382 : (.code yX10_colourAt cX10_colourAt 3 (some .int) : Cond) ∈ GW := gw_mem 382 (by decide +kernel) (by decide +kernel)
theorem q_384 : (.instanceMethod yX10_depthAt : Cond) ∈ GW := gw_mem 384 (by decide +kernel) (by decide +kernel)
theorem q_385 : (.selects RX10 yX10_depthAt yX10_depthAt : Cond) ∈ GW := gw_mem 385 (by decide +kernel) (by decide +kernel)
theorem q_386 : (.code yX10_depthAt cX10_depthAt 3 (some .int) : Cond) ∈ GW := gw_mem 386 (by decide +kernel) (by decide +kernel)
theorem q_388 : (.instanceMethod yX10_paneAt : Cond) ∈ GW := gw_mem 388 (by decide +kernel) (by decide +kernel)
theorem q_389 : (.selects RX10 yX10_paneAt yX10_paneAt : Cond) ∈ GW := gw_mem 389 (by decide +kernel) (by decide +kernel)
theorem q_390 : (.code yX10_paneAt cX10_paneAt 3 (some .int) : Cond) ∈ GW := gw_mem 390 (by decide +kernel) (by decide +kernel)
theorem q_392 : (.instanceMethod yX10_pointsWith : Cond) ∈ GW := gw_mem 392 (by decide +kernel) (by decide +kernel)
theorem q_393 : (.selects RX10 yX10_pointsWith yX10_pointsWith : Cond) ∈ GW := gw_mem 393 (by decide +kernel) (by decide +kernel)
theorem q_394 : (.code yX10_pointsWith cX10_pointsWith 7 (some .int) : Cond) ∈ GW := gw_mem 394 (by decide +kernel) (by decide +kernel)
theorem q_396 : (.instanceMethod yX10_colours : Cond) ∈ GW := gw_mem 396 (by decide +kernel) (by decide +kernel)
theorem q_397 : (.selects RX10 yX10_colours yX10_colours : Cond) ∈ GW := gw_mem 397 (by decide +kernel) (by decide +kernel)
theorem q_398 : (.code yX10_colours cX10_colours 5 (some .int) : Cond) ∈ GW := gw_mem 398 (by decide +kernel) (by decide +kernel)
theorem q_399 : (.methodLink RX10 315 yX2_empty : Cond) ∈ GW := gw_mem 399 (by decide +kernel) (by decide +kernel)
theorem q_400 : (.instanceMethod yX2_empty : Cond) ∈ GW := gw_mem 400 (by decide +kernel) (by decide +kernel)
theorem q_401 : (.selects RX2 yX2_empty yX2_empty : Cond) ∈ GW := gw_mem 401 (by decide +kernel) (by decide +kernel)
theorem q_402 : (.code yX2_empty cX2_empty 1 none : Cond) ∈ GW := gw_mem 402 (by decide +kernel) (by decide +kernel)
theorem q_403 : (.methodLink RX2 13 yJ7_fill_53178 : Cond) ∈ GW := gw_mem 403 (by decide +kernel) (by decide +kernel)
theorem q_404 : (.static yJ7_fill_53178 : Cond) ∈ GW := gw_mem 404 (by decide +kernel) (by decide +kernel)
theorem q_405 : (.code yJ7_fill_53178 cJ7_fill_53178 4 none : Cond) ∈ GW := gw_mem 405 (by decide +kernel) (by decide +kernel)
theorem q_406 : (.methodLink RX10 318 yX2_include : Cond) ∈ GW := gw_mem 406 (by decide +kernel) (by decide +kernel)
theorem q_407 : (.instanceMethod yX2_include : Cond) ∈ GW := gw_mem 407 (by decide +kernel) (by decide +kernel)
theorem q_408 : (.selects RX2 yX2_include yX2_include : Cond) ∈ GW := gw_mem 408 (by decide +kernel) (by decide +kernel)
theorem q_409 : (.code yX2_include cX2_include 6 none : Cond) ∈ GW := gw_mem 409 (by decide +kernel) (by decide +kernel)
theorem q_410 : ((Jvm.Cond.constant "GlassRaster$ColourSet" (23 : Nat) (-1640531535 : Int32)) : Cond) ∈ GW := gw_mem 410 (by decide +kernel) (by decide +kernel)
theorem q_419 : (.methodLink RX10 328 yJ7_fill_53178 : Cond) ∈ GW := gw_mem 419 (by decide +kernel) (by decide +kernel)
theorem q_424 : ((Jvm.Cond.constantLong "GlassRaster" (349 : Nat) (2459 : Int64)) : Cond) ∈ GW := gw_mem 424 (by decide +kernel) (by decide +kernel)
theorem q_425 : ((Jvm.Cond.constantLong "GlassRaster" (351 : Nat) (31 : Int64)) : Cond) ∈ GW := gw_mem 425 (by decide +kernel) (by decide +kernel)
theorem q_426 : (.methodLink RX10 353 yX10_corners : Cond) ∈ GW := gw_mem 426 (by decide +kernel) (by decide +kernel)
theorem q_427 : (.instanceMethod yX10_corners : Cond) ∈ GW := gw_mem 427 (by decide +kernel) (by decide +kernel)
theorem q_428 : (.selects RX10 yX10_corners yX10_corners : Cond) ∈ GW := gw_mem 428 (by decide +kernel) (by decide +kernel)
theorem q_429 : (.code yX10_corners cX10_corners 1 (some .int) : Cond) ∈ GW := gw_mem 429 (by decide +kernel) (by decide +kernel)
theorem q_430 : (.methodLink RX10 356 yX10_panes : Cond) ∈ GW := gw_mem 430 (by decide +kernel) (by decide +kernel)
theorem q_431 : (.instanceMethod yX10_panes : Cond) ∈ GW := gw_mem 431 (by decide +kernel) (by decide +kernel)
theorem q_432 : (.selects RX10 yX10_panes yX10_panes : Cond) ∈ GW := gw_mem 432 (by decide +kernel) (by decide +kernel)
theorem q_433 : (.code yX10_panes cX10_panes 1 (some .int) : Cond) ∈ GW := gw_mem 433 (by decide +kernel) (by decide +kernel)
theorem q_434 : (.methodLink RX10 358 yX10_seen : Cond) ∈ GW := gw_mem 434 (by decide +kernel) (by decide +kernel)
theorem q_435 : (.instanceMethod yX10_seen : Cond) ∈ GW := gw_mem 435 (by decide +kernel) (by decide +kernel)
theorem q_436 : (.selects RX10 yX10_seen yX10_seen : Cond) ∈ GW := gw_mem 436 (by decide +kernel) (by decide +kernel)
theorem q_437 : (.code yX10_seen cX10_seen 3 (some .int) : Cond) ∈ GW := gw_mem 437 (by decide +kernel) (by decide +kernel)
theorem q_438 : (.methodLink RX10 167 yX10_requireCameraRow : Cond) ∈ GW := gw_mem 438 (by decide +kernel) (by decide +kernel)
theorem q_439 : (.static yX10_requireCameraRow : Cond) ∈ GW := gw_mem 439 (by decide +kernel) (by decide +kernel)
theorem q_440 : (.code yX10_requireCameraRow cX10_requireCameraRow 1 none : Cond) ∈ GW := gw_mem 440 (by decide +kernel) (by decide +kernel)
theorem q_442 : (.methodLink RX10 195 yX1_along : Cond) ∈ GW := gw_mem 442 (by decide +kernel) (by decide +kernel)
theorem q_443 : (.methodLink RX10 361 yX10_digestPane : Cond) ∈ GW := gw_mem 443 (by decide +kernel) (by decide +kernel)
theorem q_445 : (.instanceMethod yX10_digestPane : Cond) ∈ GW := gw_mem 445 (by decide +kernel) (by decide +kernel)
theorem q_446 : (.code yX10_digestPane cX10_digestPane 9 (some .long) : Cond) ∈ GW := gw_mem 446 (by decide +kernel) (by decide +kernel)
theorem q_447 : (.methodLink RX10 376 yX10_polygonOf : Cond) ∈ GW := gw_mem 447 (by decide +kernel) (by decide +kernel)
theorem q_448 : (.methodLink RX10 379 yX10_piecesOf : Cond) ∈ GW := gw_mem 448 (by decide +kernel) (by decide +kernel)
theorem q_449 : (.methodLink RX10 382 yX10_pointsOf : Cond) ∈ GW := gw_mem 449 (by decide +kernel) (by decide +kernel)
theorem q_450 : (.methodLink RX10 385 yX10_pointsWith : Cond) ∈ GW := gw_mem 450 (by decide +kernel) (by decide +kernel)
theorem q_451 : (.methodLink RX10 388 yX10_screenOf : Cond) ∈ GW := gw_mem 451 (by decide +kernel) (by decide +kernel)
theorem q_452 : (.instanceMethod yX10_screenOf : Cond) ∈ GW := gw_mem 452 (by decide +kernel) (by decide +kernel)
theorem q_453 : (.selects RX10 yX10_screenOf yX10_screenOf : Cond) ∈ GW := gw_mem 453 (by decide +kernel) (by decide +kernel)
theorem q_454 : (.code yX10_screenOf cX10_screenOf 5 (some .int) : Cond) ∈ GW := gw_mem 454 (by decide +kernel) (by decide +kernel)
theorem q_455 : (.methodLink RX10 205 yX10_requireSpot : Cond) ∈ GW := gw_mem 455 (by decide +kernel) (by decide +kernel)
theorem q_457 : (.instanceMethod yX10_requireSpot : Cond) ∈ GW := gw_mem 457 (by decide +kernel) (by decide +kernel)
theorem q_458 : (.code yX10_requireSpot cX10_requireSpot 2 none : Cond) ∈ GW := gw_mem 458 (by decide +kernel) (by decide +kernel)
theorem q_461 : (.methodLink RX10 245 yX10_cutToScreenLimit : Cond) ∈ GW := gw_mem 461 (by decide +kernel) (by decide +kernel)
theorem q_462 : (.static yX10_cutToScreenLimit : Cond) ∈ GW := gw_mem 462 (by decide +kernel) (by decide +kernel)
theorem q_463 : (.code yX10_cutToScreenLimit cX10_cutToScreenLimit 1 (some .int) : Cond) ∈ GW := gw_mem 463 (by decide +kernel) (by decide +kernel)
theorem q_464 : (.methodLink RX10 365 yX10_colours : Cond) ∈ GW := gw_mem 464 (by decide +kernel) (by decide +kernel)
theorem q_465 : (.methodLink RX10 367 yX10_colourAt : Cond) ∈ GW := gw_mem 465 (by decide +kernel) (by decide +kernel)
theorem q_466 : (.methodLink RX10 370 yX10_depthAt : Cond) ∈ GW := gw_mem 466 (by decide +kernel) (by decide +kernel)
theorem q_467 : (.methodLink RX10 373 yX10_paneAt : Cond) ∈ GW := gw_mem 467 (by decide +kernel) (by decide +kernel)
theorem q_491 : (.fieldLink RX1 9 RX1 "rows" "[I" : Cond) ∈ GW := gw_mem 491 (by decide +kernel) (by decide +kernel)
theorem q_492 : (.fieldLink RX1 15 RX1 "near" "I" : Cond) ∈ GW := gw_mem 492 (by decide +kernel) (by decide +kernel)
theorem q_493 : (.fieldLink RX10 186 RX1 "near" "I" : Cond) ∈ GW := gw_mem 493 (by decide +kernel) (by decide +kernel)
theorem q_494 : (.fieldLink RX1 19 RX1 "focus" "I" : Cond) ∈ GW := gw_mem 494 (by decide +kernel) (by decide +kernel)
theorem q_495 : (.fieldLink RX10 189 RX1 "focus" "I" : Cond) ∈ GW := gw_mem 495 (by decide +kernel) (by decide +kernel)
theorem q_496 : ((Jvm.Cond.laysFinal "GlassRaster$Camera" "GlassRaster$Camera" "rows" "[I") : Cond) ∈ GW := gw_mem 496 (by decide +kernel) (by decide +kernel)
theorem q_498 : ((Jvm.Cond.lays "GlassRaster$Camera" "GlassRaster$Camera" "near" "I") : Cond) ∈ GW := gw_mem 498 (by decide +kernel) (by decide +kernel)
theorem q_500 : ((Jvm.Cond.lays "GlassRaster$Camera" "GlassRaster$Camera" "focus" "I") : Cond) ∈ GW := gw_mem 500 (by decide +kernel) (by decide +kernel)
theorem q_517 : (.fieldLink RX9 9 RX9 "x" "I" : Cond) ∈ GW := gw_mem 517 (by decide +kernel) (by decide +kernel)
theorem q_518 : (.fieldLink RX1 37 RX9 "x" "I" : Cond) ∈ GW := gw_mem 518 (by decide +kernel) (by decide +kernel)
theorem q_519 : (.fieldLink RX9 15 RX9 "y" "I" : Cond) ∈ GW := gw_mem 519 (by decide +kernel) (by decide +kernel)
theorem q_520 : (.fieldLink RX1 40 RX9 "y" "I" : Cond) ∈ GW := gw_mem 520 (by decide +kernel) (by decide +kernel)
theorem q_521 : (.fieldLink RX9 18 RX9 "z" "I" : Cond) ∈ GW := gw_mem 521 (by decide +kernel) (by decide +kernel)
theorem q_522 : (.fieldLink RX8 32 RX9 "z" "I" : Cond) ∈ GW := gw_mem 522 (by decide +kernel) (by decide +kernel)
theorem q_523 : (.fieldLink RX1 41 RX9 "z" "I" : Cond) ∈ GW := gw_mem 523 (by decide +kernel) (by decide +kernel)
theorem q_524 : (.fieldLink RX9 21 RX9 "u" "I" : Cond) ∈ GW := gw_mem 524 (by decide +kernel) (by decide +kernel)
theorem q_525 : (.fieldLink RX1 45 RX9 "u" "I" : Cond) ∈ GW := gw_mem 525 (by decide +kernel) (by decide +kernel)
theorem q_526 : (.fieldLink RX10 225 RX9 "u" "I" : Cond) ∈ GW := gw_mem 526 (by decide +kernel) (by decide +kernel)
theorem q_527 : (.fieldLink RX9 24 RX9 "v" "I" : Cond) ∈ GW := gw_mem 527 (by decide +kernel) (by decide +kernel)
theorem q_528 : (.fieldLink RX1 49 RX9 "v" "I" : Cond) ∈ GW := gw_mem 528 (by decide +kernel) (by decide +kernel)
theorem q_529 : (.fieldLink RX10 226 RX9 "v" "I" : Cond) ∈ GW := gw_mem 529 (by decide +kernel) (by decide +kernel)
theorem q_530 : (.fieldLink RX9 27 RX9 "red" "I" : Cond) ∈ GW := gw_mem 530 (by decide +kernel) (by decide +kernel)
theorem q_531 : (.fieldLink RX1 57 RX9 "red" "I" : Cond) ∈ GW := gw_mem 531 (by decide +kernel) (by decide +kernel)
theorem q_532 : (.fieldLink RX10 227 RX9 "red" "I" : Cond) ∈ GW := gw_mem 532 (by decide +kernel) (by decide +kernel)
theorem q_533 : (.fieldLink RX9 30 RX9 "green" "I" : Cond) ∈ GW := gw_mem 533 (by decide +kernel) (by decide +kernel)
theorem q_534 : (.fieldLink RX1 63 RX9 "green" "I" : Cond) ∈ GW := gw_mem 534 (by decide +kernel) (by decide +kernel)
theorem q_535 : (.fieldLink RX10 230 RX9 "green" "I" : Cond) ∈ GW := gw_mem 535 (by decide +kernel) (by decide +kernel)
theorem q_536 : (.fieldLink RX9 33 RX9 "blue" "I" : Cond) ∈ GW := gw_mem 536 (by decide +kernel) (by decide +kernel)
theorem q_537 : (.fieldLink RX1 69 RX9 "blue" "I" : Cond) ∈ GW := gw_mem 537 (by decide +kernel) (by decide +kernel)
theorem q_538 : (.fieldLink RX10 233 RX9 "blue" "I" : Cond) ∈ GW := gw_mem 538 (by decide +kernel) (by decide +kernel)
theorem q_539 : (.fieldLink RX6 35 RX9 "screenX" "I" : Cond) ∈ GW := gw_mem 539 (by decide +kernel) (by decide +kernel)
theorem q_540 : (.fieldLink RX9 46 RX9 "screenX" "I" : Cond) ∈ GW := gw_mem 540 (by decide +kernel) (by decide +kernel)
theorem q_541 : (.fieldLink RX1 78 RX9 "screenX" "I" : Cond) ∈ GW := gw_mem 541 (by decide +kernel) (by decide +kernel)
theorem q_542 : (.fieldLink RX10 242 RX9 "screenX" "I" : Cond) ∈ GW := gw_mem 542 (by decide +kernel) (by decide +kernel)
theorem q_543 : (.fieldLink RX6 39 RX9 "screenY" "I" : Cond) ∈ GW := gw_mem 543 (by decide +kernel) (by decide +kernel)
theorem q_544 : (.fieldLink RX9 53 RX9 "screenY" "I" : Cond) ∈ GW := gw_mem 544 (by decide +kernel) (by decide +kernel)
theorem q_545 : (.fieldLink RX1 81 RX9 "screenY" "I" : Cond) ∈ GW := gw_mem 545 (by decide +kernel) (by decide +kernel)
theorem q_546 : (.fieldLink RX10 249 RX9 "screenY" "I" : Cond) ∈ GW := gw_mem 546 (by decide +kernel) (by decide +kernel)
theorem q_547 : (.fieldLink RX1 87 RX9 "depth" "I" : Cond) ∈ GW := gw_mem 547 (by decide +kernel) (by decide +kernel)
theorem q_548 : (.fieldLink RX6 94 RX9 "depth" "I" : Cond) ∈ GW := gw_mem 548 (by decide +kernel) (by decide +kernel)
theorem q_549 : (.fieldLink RX10 252 RX9 "depth" "I" : Cond) ∈ GW := gw_mem 549 (by decide +kernel) (by decide +kernel)
theorem q_550 : (.fieldLink RX1 92 RX9 "weight" "I" : Cond) ∈ GW := gw_mem 550 (by decide +kernel) (by decide +kernel)
theorem q_551 : (.fieldLink RX6 101 RX9 "weight" "I" : Cond) ∈ GW := gw_mem 551 (by decide +kernel) (by decide +kernel)
theorem q_552 : (.fieldLink RX10 255 RX9 "weight" "I" : Cond) ∈ GW := gw_mem 552 (by decide +kernel) (by decide +kernel)
theorem q_553 : ((Jvm.Cond.lays "GlassRaster$Spot" "GlassRaster$Spot" "x" "I") : Cond) ∈ GW := gw_mem 553 (by decide +kernel) (by decide +kernel)
theorem q_555 : ((Jvm.Cond.lays "GlassRaster$Spot" "GlassRaster$Spot" "y" "I") : Cond) ∈ GW := gw_mem 555 (by decide +kernel) (by decide +kernel)
theorem q_557 : ((Jvm.Cond.lays "GlassRaster$Spot" "GlassRaster$Spot" "z" "I") : Cond) ∈ GW := gw_mem 557 (by decide +kernel) (by decide +kernel)
theorem q_559 : ((Jvm.Cond.lays "GlassRaster$Spot" "GlassRaster$Spot" "u" "I") : Cond) ∈ GW := gw_mem 559 (by decide +kernel) (by decide +kernel)
theorem q_561 : ((Jvm.Cond.lays "GlassRaster$Spot" "GlassRaster$Spot" "v" "I") : Cond) ∈ GW := gw_mem 561 (by decide +kernel) (by decide +kernel)
theorem q_563 : ((Jvm.Cond.lays "GlassRaster$Spot" "GlassRaster$Spot" "red" "I") : Cond) ∈ GW := gw_mem 563 (by decide +kernel) (by decide +kernel)
theorem q_565 : ((Jvm.Cond.lays "GlassRaster$Spot" "GlassRaster$Spot" "green" "I") : Cond) ∈ GW := gw_mem 565 (by decide +kernel) (by decide +kernel)
theorem q_567 : ((Jvm.Cond.lays "GlassRaster$Spot" "GlassRaster$Spot" "blue" "I") : Cond) ∈ GW := gw_mem 567 (by decide +kernel) (by decide +kernel)
theorem q_569 : ((Jvm.Cond.lays "GlassRaster$Spot" "GlassRaster$Spot" "screenX" "I") : Cond) ∈ GW := gw_mem 569 (by decide +kernel) (by decide +kernel)
theorem q_571 : ((Jvm.Cond.lays "GlassRaster$Spot" "GlassRaster$Spot" "screenY" "I") : Cond) ∈ GW := gw_mem 571 (by decide +kernel) (by decide +kernel)
theorem q_573 : ((Jvm.Cond.lays "GlassRaster$Spot" "GlassRaster$Spot" "depth" "I") : Cond) ∈ GW := gw_mem 573 (by decide +kernel) (by decide +kernel)
theorem q_575 : ((Jvm.Cond.lays "GlassRaster$Spot" "GlassRaster$Spot" "weight" "I") : Cond) ∈ GW := gw_mem 575 (by decide +kernel) (by decide +kernel)
theorem q_591 : (.fieldLink RX0 24 RX0 "left" "I" : Cond) ∈ GW := gw_mem 591 (by decide +kernel) (by decide +kernel)
theorem q_592 : (.fieldLink RX7 31 RX0 "left" "I" : Cond) ∈ GW := gw_mem 592 (by decide +kernel) (by decide +kernel)
theorem q_593 : (.fieldLink RX10 473 RX0 "left" "I" : Cond) ∈ GW := gw_mem 593 (by decide +kernel) (by decide +kernel)
theorem q_594 : (.fieldLink RX7 22 RX0 "top" "I" : Cond) ∈ GW := gw_mem 594 (by decide +kernel) (by decide +kernel)
theorem q_595 : (.fieldLink RX0 27 RX0 "top" "I" : Cond) ∈ GW := gw_mem 595 (by decide +kernel) (by decide +kernel)
theorem q_596 : (.fieldLink RX10 479 RX0 "top" "I" : Cond) ∈ GW := gw_mem 596 (by decide +kernel) (by decide +kernel)
theorem q_597 : (.fieldLink RX0 9 RX0 "right" "I" : Cond) ∈ GW := gw_mem 597 (by decide +kernel) (by decide +kernel)
theorem q_598 : (.fieldLink RX7 34 RX0 "right" "I" : Cond) ∈ GW := gw_mem 598 (by decide +kernel) (by decide +kernel)
theorem q_599 : (.fieldLink RX10 482 RX0 "right" "I" : Cond) ∈ GW := gw_mem 599 (by decide +kernel) (by decide +kernel)
theorem q_600 : (.fieldLink RX0 15 RX0 "bottom" "I" : Cond) ∈ GW := gw_mem 600 (by decide +kernel) (by decide +kernel)
theorem q_601 : (.fieldLink RX7 28 RX0 "bottom" "I" : Cond) ∈ GW := gw_mem 601 (by decide +kernel) (by decide +kernel)
theorem q_602 : (.fieldLink RX10 485 RX0 "bottom" "I" : Cond) ∈ GW := gw_mem 602 (by decide +kernel) (by decide +kernel)
theorem q_603 : ((Jvm.Cond.lays "GlassRaster$Box" "GlassRaster$Box" "left" "I") : Cond) ∈ GW := gw_mem 603 (by decide +kernel) (by decide +kernel)
theorem q_605 : ((Jvm.Cond.lays "GlassRaster$Box" "GlassRaster$Box" "top" "I") : Cond) ∈ GW := gw_mem 605 (by decide +kernel) (by decide +kernel)
theorem q_607 : ((Jvm.Cond.lays "GlassRaster$Box" "GlassRaster$Box" "right" "I") : Cond) ∈ GW := gw_mem 607 (by decide +kernel) (by decide +kernel)
theorem q_609 : ((Jvm.Cond.lays "GlassRaster$Box" "GlassRaster$Box" "bottom" "I") : Cond) ∈ GW := gw_mem 609 (by decide +kernel) (by decide +kernel)
theorem q_614 : (.fieldLink RX6 12 RX6 "box" "LGlassRaster$Box;" : Cond) ∈ GW := gw_mem 614 (by decide +kernel) (by decide +kernel)
theorem q_615 : (.fieldLink RX8 51 RX6 "box" "LGlassRaster$Box;" : Cond) ∈ GW := gw_mem 615 (by decide +kernel) (by decide +kernel)
theorem q_616 : (.fieldLink RX10 476 RX6 "box" "LGlassRaster$Box;" : Cond) ∈ GW := gw_mem 616 (by decide +kernel) (by decide +kernel)
theorem q_617 : (.fieldLink RX6 21 RX6 "a" "LGlassRaster$Spot;" : Cond) ∈ GW := gw_mem 617 (by decide +kernel) (by decide +kernel)
theorem q_618 : (.fieldLink RX10 450 RX6 "a" "LGlassRaster$Spot;" : Cond) ∈ GW := gw_mem 618 (by decide +kernel) (by decide +kernel)
theorem q_619 : (.fieldLink RX6 25 RX6 "b" "LGlassRaster$Spot;" : Cond) ∈ GW := gw_mem 619 (by decide +kernel) (by decide +kernel)
theorem q_620 : (.fieldLink RX10 454 RX6 "b" "LGlassRaster$Spot;" : Cond) ∈ GW := gw_mem 620 (by decide +kernel) (by decide +kernel)
theorem q_621 : (.fieldLink RX6 28 RX6 "c" "LGlassRaster$Spot;" : Cond) ∈ GW := gw_mem 621 (by decide +kernel) (by decide +kernel)
theorem q_622 : (.fieldLink RX10 457 RX6 "c" "LGlassRaster$Spot;" : Cond) ∈ GW := gw_mem 622 (by decide +kernel) (by decide +kernel)
theorem q_623 : (.fieldLink RX6 56 RX6 "area" "J" : Cond) ∈ GW := gw_mem 623 (by decide +kernel) (by decide +kernel)
theorem q_624 : (.fieldLink RX6 46 RX6 "isDrawn" "Z" : Cond) ∈ GW := gw_mem 624 (by decide +kernel) (by decide +kernel)
theorem q_625 : (.fieldLink RX8 43 RX6 "isDrawn" "Z" : Cond) ∈ GW := gw_mem 625 (by decide +kernel) (by decide +kernel)
theorem q_626 : (.fieldLink RX10 262 RX6 "isDrawn" "Z" : Cond) ∈ GW := gw_mem 626 (by decide +kernel) (by decide +kernel)
theorem q_627 : (.fieldLink RX6 81 RX6 "wa" "J" : Cond) ∈ GW := gw_mem 627 (by decide +kernel) (by decide +kernel)
theorem q_628 : (.fieldLink RX6 88 RX6 "wb" "J" : Cond) ∈ GW := gw_mem 628 (by decide +kernel) (by decide +kernel)
theorem q_629 : (.fieldLink RX6 91 RX6 "wc" "J" : Cond) ∈ GW := gw_mem 629 (by decide +kernel) (by decide +kernel)
theorem q_630 : ((Jvm.Cond.laysFinal "GlassRaster$Piece" "GlassRaster$Piece" "box" "LGlassRaster$Box;") : Cond) ∈ GW := gw_mem 630 (by decide +kernel) (by decide +kernel)
theorem q_632 : ((Jvm.Cond.lays "GlassRaster$Piece" "GlassRaster$Piece" "a" "LGlassRaster$Spot;") : Cond) ∈ GW := gw_mem 632 (by decide +kernel) (by decide +kernel)
theorem q_634 : ((Jvm.Cond.lays "GlassRaster$Piece" "GlassRaster$Piece" "b" "LGlassRaster$Spot;") : Cond) ∈ GW := gw_mem 634 (by decide +kernel) (by decide +kernel)
theorem q_636 : ((Jvm.Cond.lays "GlassRaster$Piece" "GlassRaster$Piece" "c" "LGlassRaster$Spot;") : Cond) ∈ GW := gw_mem 636 (by decide +kernel) (by decide +kernel)
theorem q_638 : ((Jvm.Cond.lays "GlassRaster$Piece" "GlassRaster$Piece" "area" "J") : Cond) ∈ GW := gw_mem 638 (by decide +kernel) (by decide +kernel)
theorem q_640 : ((Jvm.Cond.lays "GlassRaster$Piece" "GlassRaster$Piece" "isDrawn" "Z") : Cond) ∈ GW := gw_mem 640 (by decide +kernel) (by decide +kernel)
theorem q_642 : ((Jvm.Cond.lays "GlassRaster$Piece" "GlassRaster$Piece" "wa" "J") : Cond) ∈ GW := gw_mem 642 (by decide +kernel) (by decide +kernel)
theorem q_644 : ((Jvm.Cond.lays "GlassRaster$Piece" "GlassRaster$Piece" "wb" "J") : Cond) ∈ GW := gw_mem 644 (by decide +kernel) (by decide +kernel)
theorem q_646 : ((Jvm.Cond.lays "GlassRaster$Piece" "GlassRaster$Piece" "wc" "J") : Cond) ∈ GW := gw_mem 646 (by decide +kernel) (by decide +kernel)
theorem q_649 : (.fieldLink RX8 12 RX8 "ends" "[LGlassRaster$Spot;" : Cond) ∈ GW := gw_mem 649 (by decide +kernel) (by decide +kernel)
theorem q_650 : (.fieldLink RX10 426 RX8 "ends" "[LGlassRaster$Spot;" : Cond) ∈ GW := gw_mem 650 (by decide +kernel) (by decide +kernel)
theorem q_651 : (.fieldLink RX8 18 RX8 "spots" "[LGlassRaster$Spot;" : Cond) ∈ GW := gw_mem 651 (by decide +kernel) (by decide +kernel)
theorem q_652 : (.fieldLink RX10 210 RX8 "spots" "[LGlassRaster$Spot;" : Cond) ∈ GW := gw_mem 652 (by decide +kernel) (by decide +kernel)
theorem q_653 : (.fieldLink RX8 24 RX8 "pieces" "[LGlassRaster$Piece;" : Cond) ∈ GW := gw_mem 653 (by decide +kernel) (by decide +kernel)
theorem q_654 : (.fieldLink RX10 258 RX8 "pieces" "[LGlassRaster$Piece;" : Cond) ∈ GW := gw_mem 654 (by decide +kernel) (by decide +kernel)
theorem q_655 : (.fieldLink RX8 28 RX8 "count" "I" : Cond) ∈ GW := gw_mem 655 (by decide +kernel) (by decide +kernel)
theorem q_656 : (.fieldLink RX10 202 RX8 "count" "I" : Cond) ∈ GW := gw_mem 656 (by decide +kernel) (by decide +kernel)
theorem q_657 : ((Jvm.Cond.laysFinal "GlassRaster$Shape" "GlassRaster$Shape" "ends" "[LGlassRaster$Spot;") : Cond) ∈ GW := gw_mem 657 (by decide +kernel) (by decide +kernel)
theorem q_659 : ((Jvm.Cond.laysFinal "GlassRaster$Shape" "GlassRaster$Shape" "spots" "[LGlassRaster$Spot;") : Cond) ∈ GW := gw_mem 659 (by decide +kernel) (by decide +kernel)
theorem q_661 : ((Jvm.Cond.laysFinal "GlassRaster$Shape" "GlassRaster$Shape" "pieces" "[LGlassRaster$Piece;") : Cond) ∈ GW := gw_mem 661 (by decide +kernel) (by decide +kernel)
theorem q_663 : ((Jvm.Cond.lays "GlassRaster$Shape" "GlassRaster$Shape" "count" "I") : Cond) ∈ GW := gw_mem 663 (by decide +kernel) (by decide +kernel)
theorem q_672 : (.fieldLink RX7 9 RX7 "colours" "[I" : Cond) ∈ GW := gw_mem 672 (by decide +kernel) (by decide +kernel)
theorem q_673 : (.fieldLink RX10 306 RX7 "colours" "[I" : Cond) ∈ GW := gw_mem 673 (by decide +kernel) (by decide +kernel)
theorem q_674 : (.fieldLink RX7 15 RX7 "depths" "[I" : Cond) ∈ GW := gw_mem 674 (by decide +kernel) (by decide +kernel)
theorem q_675 : (.fieldLink RX10 309 RX7 "depths" "[I" : Cond) ∈ GW := gw_mem 675 (by decide +kernel) (by decide +kernel)
theorem q_676 : (.fieldLink RX7 18 RX7 "panes" "[I" : Cond) ∈ GW := gw_mem 676 (by decide +kernel) (by decide +kernel)
theorem q_677 : (.fieldLink RX10 312 RX7 "panes" "[I" : Cond) ∈ GW := gw_mem 677 (by decide +kernel) (by decide +kernel)
theorem q_678 : ((Jvm.Cond.laysFinal "GlassRaster$Screen" "GlassRaster$Screen" "colours" "[I") : Cond) ∈ GW := gw_mem 678 (by decide +kernel) (by decide +kernel)
theorem q_680 : ((Jvm.Cond.laysFinal "GlassRaster$Screen" "GlassRaster$Screen" "depths" "[I") : Cond) ∈ GW := gw_mem 680 (by decide +kernel) (by decide +kernel)
theorem q_682 : ((Jvm.Cond.laysFinal "GlassRaster$Screen" "GlassRaster$Screen" "panes" "[I") : Cond) ∈ GW := gw_mem 682 (by decide +kernel) (by decide +kernel)
theorem q_691 : (.fieldLink RX2 9 RX2 "places" "[I" : Cond) ∈ GW := gw_mem 691 (by decide +kernel) (by decide +kernel)
theorem q_692 : (.fieldLink RX2 19 RX2 "size" "I" : Cond) ∈ GW := gw_mem 692 (by decide +kernel) (by decide +kernel)
theorem q_693 : (.fieldLink RX10 321 RX2 "size" "I" : Cond) ∈ GW := gw_mem 693 (by decide +kernel) (by decide +kernel)
theorem q_694 : ((Jvm.Cond.laysFinal "GlassRaster$ColourSet" "GlassRaster$ColourSet" "places" "[I") : Cond) ∈ GW := gw_mem 694 (by decide +kernel) (by decide +kernel)
theorem q_696 : ((Jvm.Cond.lays "GlassRaster$ColourSet" "GlassRaster$ColourSet" "size" "I") : Cond) ∈ GW := gw_mem 696 (by decide +kernel) (by decide +kernel)
theorem q_706 : (.fieldLink RX3 7 RX3 "x" "I" : Cond) ∈ GW := gw_mem 706 (by decide +kernel) (by decide +kernel)
theorem q_707 : (.fieldLink RX1 22 RX3 "x" "I" : Cond) ∈ GW := gw_mem 707 (by decide +kernel) (by decide +kernel)
theorem q_708 : (.fieldLink RX3 13 RX3 "y" "I" : Cond) ∈ GW := gw_mem 708 (by decide +kernel) (by decide +kernel)
theorem q_709 : (.fieldLink RX1 27 RX3 "y" "I" : Cond) ∈ GW := gw_mem 709 (by decide +kernel) (by decide +kernel)
theorem q_710 : (.fieldLink RX3 16 RX3 "z" "I" : Cond) ∈ GW := gw_mem 710 (by decide +kernel) (by decide +kernel)
theorem q_711 : (.fieldLink RX1 30 RX3 "z" "I" : Cond) ∈ GW := gw_mem 711 (by decide +kernel) (by decide +kernel)
theorem q_712 : (.fieldLink RX10 109 RX3 "colour" "I" : Cond) ∈ GW := gw_mem 712 (by decide +kernel) (by decide +kernel)
theorem q_713 : (.fieldLink RX1 50 RX3 "colour" "I" : Cond) ∈ GW := gw_mem 713 (by decide +kernel) (by decide +kernel)
theorem q_714 : (.fieldLink RX10 112 RX3 "u" "I" : Cond) ∈ GW := gw_mem 714 (by decide +kernel) (by decide +kernel)
theorem q_715 : (.fieldLink RX1 42 RX3 "u" "I" : Cond) ∈ GW := gw_mem 715 (by decide +kernel) (by decide +kernel)
theorem q_716 : (.fieldLink RX10 115 RX3 "v" "I" : Cond) ∈ GW := gw_mem 716 (by decide +kernel) (by decide +kernel)
theorem q_717 : (.fieldLink RX1 46 RX3 "v" "I" : Cond) ∈ GW := gw_mem 717 (by decide +kernel) (by decide +kernel)
theorem q_718 : ((Jvm.Cond.lays "GlassRaster$Corner" "GlassRaster$Corner" "x" "I") : Cond) ∈ GW := gw_mem 718 (by decide +kernel) (by decide +kernel)
theorem q_720 : ((Jvm.Cond.lays "GlassRaster$Corner" "GlassRaster$Corner" "y" "I") : Cond) ∈ GW := gw_mem 720 (by decide +kernel) (by decide +kernel)
theorem q_722 : ((Jvm.Cond.lays "GlassRaster$Corner" "GlassRaster$Corner" "z" "I") : Cond) ∈ GW := gw_mem 722 (by decide +kernel) (by decide +kernel)
theorem q_724 : ((Jvm.Cond.lays "GlassRaster$Corner" "GlassRaster$Corner" "colour" "I") : Cond) ∈ GW := gw_mem 724 (by decide +kernel) (by decide +kernel)
theorem q_726 : ((Jvm.Cond.lays "GlassRaster$Corner" "GlassRaster$Corner" "u" "I") : Cond) ∈ GW := gw_mem 726 (by decide +kernel) (by decide +kernel)
theorem q_728 : ((Jvm.Cond.lays "GlassRaster$Corner" "GlassRaster$Corner" "v" "I") : Cond) ∈ GW := gw_mem 728 (by decide +kernel) (by decide +kernel)
theorem q_736 : (.fieldLink RX4 7 RX4 "first" "I" : Cond) ∈ GW := gw_mem 736 (by decide +kernel) (by decide +kernel)
theorem q_737 : (.fieldLink RX10 423 RX4 "first" "I" : Cond) ∈ GW := gw_mem 737 (by decide +kernel) (by decide +kernel)
theorem q_738 : (.fieldLink RX4 13 RX4 "second" "I" : Cond) ∈ GW := gw_mem 738 (by decide +kernel) (by decide +kernel)
theorem q_739 : (.fieldLink RX10 433 RX4 "second" "I" : Cond) ∈ GW := gw_mem 739 (by decide +kernel) (by decide +kernel)
theorem q_740 : (.fieldLink RX4 16 RX4 "third" "I" : Cond) ∈ GW := gw_mem 740 (by decide +kernel) (by decide +kernel)
theorem q_741 : (.fieldLink RX10 436 RX4 "third" "I" : Cond) ∈ GW := gw_mem 741 (by decide +kernel) (by decide +kernel)
theorem q_742 : (.fieldLink RX10 137 RX4 "pattern" "I" : Cond) ∈ GW := gw_mem 742 (by decide +kernel) (by decide +kernel)
theorem q_743 : (.fieldLink RX10 140 RX4 "isClear" "Z" : Cond) ∈ GW := gw_mem 743 (by decide +kernel) (by decide +kernel)
theorem q_744 : (.fieldLink RX10 144 RX4 "isTwoSided" "Z" : Cond) ∈ GW := gw_mem 744 (by decide +kernel) (by decide +kernel)
theorem q_745 : (.fieldLink RX10 147 RX4 "isShown" "Z" : Cond) ∈ GW := gw_mem 745 (by decide +kernel) (by decide +kernel)
theorem q_746 : ((Jvm.Cond.lays "GlassRaster$Pane" "GlassRaster$Pane" "first" "I") : Cond) ∈ GW := gw_mem 746 (by decide +kernel) (by decide +kernel)
theorem q_748 : ((Jvm.Cond.lays "GlassRaster$Pane" "GlassRaster$Pane" "second" "I") : Cond) ∈ GW := gw_mem 748 (by decide +kernel) (by decide +kernel)
theorem q_750 : ((Jvm.Cond.lays "GlassRaster$Pane" "GlassRaster$Pane" "third" "I") : Cond) ∈ GW := gw_mem 750 (by decide +kernel) (by decide +kernel)
theorem q_752 : ((Jvm.Cond.lays "GlassRaster$Pane" "GlassRaster$Pane" "pattern" "I") : Cond) ∈ GW := gw_mem 752 (by decide +kernel) (by decide +kernel)
theorem q_754 : ((Jvm.Cond.lays "GlassRaster$Pane" "GlassRaster$Pane" "isClear" "Z") : Cond) ∈ GW := gw_mem 754 (by decide +kernel) (by decide +kernel)
theorem q_756 : ((Jvm.Cond.lays "GlassRaster$Pane" "GlassRaster$Pane" "isTwoSided" "Z") : Cond) ∈ GW := gw_mem 756 (by decide +kernel) (by decide +kernel)
theorem q_758 : ((Jvm.Cond.lays "GlassRaster$Pane" "GlassRaster$Pane" "isShown" "Z") : Cond) ∈ GW := gw_mem 758 (by decide +kernel) (by decide +kernel)
theorem q_765 : (.fieldLink RX5 9 RX5 "tints" "[I" : Cond) ∈ GW := gw_mem 765 (by decide +kernel) (by decide +kernel)
theorem q_766 : (.fieldLink RX10 161 RX5 "tints" "[I" : Cond) ∈ GW := gw_mem 766 (by decide +kernel) (by decide +kernel)
theorem q_767 : (.fieldLink RX5 15 RX5 "repeats" "Z" : Cond) ∈ GW := gw_mem 767 (by decide +kernel) (by decide +kernel)
theorem q_768 : (.fieldLink RX10 164 RX5 "repeats" "Z" : Cond) ∈ GW := gw_mem 768 (by decide +kernel) (by decide +kernel)
theorem q_769 : ((Jvm.Cond.laysFinal "GlassRaster$Pattern" "GlassRaster$Pattern" "tints" "[I") : Cond) ∈ GW := gw_mem 769 (by decide +kernel) (by decide +kernel)
theorem q_771 : ((Jvm.Cond.lays "GlassRaster$Pattern" "GlassRaster$Pattern" "repeats" "Z") : Cond) ∈ GW := gw_mem 771 (by decide +kernel) (by decide +kernel)
theorem q_774 : (.fieldLink RX10 11 RX10 "cornerRow" "[LGlassRaster$Corner;" : Cond) ∈ GW := gw_mem 774 (by decide +kernel) (by decide +kernel)
theorem q_775 : (.fieldLink RX10 17 RX10 "paneRow" "[LGlassRaster$Pane;" : Cond) ∈ GW := gw_mem 775 (by decide +kernel) (by decide +kernel)
theorem q_776 : (.fieldLink RX10 23 RX10 "patternRow" "[LGlassRaster$Pattern;" : Cond) ∈ GW := gw_mem 776 (by decide +kernel) (by decide +kernel)
theorem q_777 : (.fieldLink RX10 30 RX10 "camera" "LGlassRaster$Camera;" : Cond) ∈ GW := gw_mem 777 (by decide +kernel) (by decide +kernel)
theorem q_778 : (.fieldLink RX10 37 RX10 "shape" "LGlassRaster$Shape;" : Cond) ∈ GW := gw_mem 778 (by decide +kernel) (by decide +kernel)
theorem q_779 : (.fieldLink RX10 44 RX10 "picture" "LGlassRaster$Screen;" : Cond) ∈ GW := gw_mem 779 (by decide +kernel) (by decide +kernel)
theorem q_780 : (.fieldLink RX10 48 RX10 "now" "LGlassRaster$Screen;" : Cond) ∈ GW := gw_mem 780 (by decide +kernel) (by decide +kernel)
theorem q_781 : (.fieldLink RX10 51 RX10 "without" "LGlassRaster$Screen;" : Cond) ∈ GW := gw_mem 781 (by decide +kernel) (by decide +kernel)
theorem q_782 : (.fieldLink RX10 57 RX10 "colourSet" "LGlassRaster$ColourSet;" : Cond) ∈ GW := gw_mem 782 (by decide +kernel) (by decide +kernel)
theorem q_783 : (.fieldLink RX10 61 RX10 "pointsByPane" "[I" : Cond) ∈ GW := gw_mem 783 (by decide +kernel) (by decide +kernel)
theorem q_784 : (.fieldLink RX10 68 RX10 "wholeScreen" "LGlassRaster$Box;" : Cond) ∈ GW := gw_mem 784 (by decide +kernel) (by decide +kernel)
theorem q_785 : (.fieldLink RX10 72 RX10 "smallBox" "LGlassRaster$Box;" : Cond) ∈ GW := gw_mem 785 (by decide +kernel) (by decide +kernel)
theorem q_786 : (.fieldLink RX10 97 RX10 "cornerCount" "I" : Cond) ∈ GW := gw_mem 786 (by decide +kernel) (by decide +kernel)
theorem q_787 : (.fieldLink RX10 121 RX10 "paneCount" "I" : Cond) ∈ GW := gw_mem 787 (by decide +kernel) (by decide +kernel)
theorem q_788 : (.fieldLink RX10 192 RX10 "background" "I" : Cond) ∈ GW := gw_mem 788 (by decide +kernel) (by decide +kernel)
theorem q_789 : ((Jvm.Cond.laysFinal "GlassRaster" "GlassRaster" "cornerRow" "[LGlassRaster$Corner;") : Cond) ∈ GW := gw_mem 789 (by decide +kernel) (by decide +kernel)
theorem q_791 : ((Jvm.Cond.laysFinal "GlassRaster" "GlassRaster" "paneRow" "[LGlassRaster$Pane;") : Cond) ∈ GW := gw_mem 791 (by decide +kernel) (by decide +kernel)
theorem q_793 : ((Jvm.Cond.laysFinal "GlassRaster" "GlassRaster" "patternRow" "[LGlassRaster$Pattern;") : Cond) ∈ GW := gw_mem 793 (by decide +kernel) (by decide +kernel)
theorem q_795 : ((Jvm.Cond.laysFinal "GlassRaster" "GlassRaster" "camera" "LGlassRaster$Camera;") : Cond) ∈ GW := gw_mem 795 (by decide +kernel) (by decide +kernel)
theorem q_797 : ((Jvm.Cond.laysFinal "GlassRaster" "GlassRaster" "shape" "LGlassRaster$Shape;") : Cond) ∈ GW := gw_mem 797 (by decide +kernel) (by decide +kernel)
theorem q_799 : ((Jvm.Cond.laysFinal "GlassRaster" "GlassRaster" "picture" "LGlassRaster$Screen;") : Cond) ∈ GW := gw_mem 799 (by decide +kernel) (by decide +kernel)
theorem q_801 : ((Jvm.Cond.laysFinal "GlassRaster" "GlassRaster" "now" "LGlassRaster$Screen;") : Cond) ∈ GW := gw_mem 801 (by decide +kernel) (by decide +kernel)
theorem q_803 : ((Jvm.Cond.laysFinal "GlassRaster" "GlassRaster" "without" "LGlassRaster$Screen;") : Cond) ∈ GW := gw_mem 803 (by decide +kernel) (by decide +kernel)
theorem q_805 : ((Jvm.Cond.laysFinal "GlassRaster" "GlassRaster" "colourSet" "LGlassRaster$ColourSet;") : Cond) ∈ GW := gw_mem 805 (by decide +kernel) (by decide +kernel)
theorem q_807 : ((Jvm.Cond.laysFinal "GlassRaster" "GlassRaster" "pointsByPane" "[I") : Cond) ∈ GW := gw_mem 807 (by decide +kernel) (by decide +kernel)
theorem q_809 : ((Jvm.Cond.laysFinal "GlassRaster" "GlassRaster" "wholeScreen" "LGlassRaster$Box;") : Cond) ∈ GW := gw_mem 809 (by decide +kernel) (by decide +kernel)
theorem q_811 : ((Jvm.Cond.laysFinal "GlassRaster" "GlassRaster" "smallBox" "LGlassRaster$Box;") : Cond) ∈ GW := gw_mem 811 (by decide +kernel) (by decide +kernel)
theorem q_813 : ((Jvm.Cond.lays "GlassRaster" "GlassRaster" "cornerCount" "I") : Cond) ∈ GW := gw_mem 813 (by decide +kernel) (by decide +kernel)
theorem q_815 : ((Jvm.Cond.lays "GlassRaster" "GlassRaster" "paneCount" "I") : Cond) ∈ GW := gw_mem 815 (by decide +kernel) (by decide +kernel)
theorem q_817 : ((Jvm.Cond.lays "GlassRaster" "GlassRaster" "background" "I") : Cond) ∈ GW := gw_mem 817 (by decide +kernel) (by decide +kernel)
theorem q_845 : ((Jvm.Cond.laysFinal "GlassRasterLaw$Scene" "GlassRasterLaw$Scene" "m" "LGlassRaster;") : Cond) ∈ GW := gw_mem 845 (by decide +kernel) (by decide +kernel)
theorem q_847 : ((Jvm.Cond.laysFinal "GlassRasterLaw$Scene" "GlassRasterLaw$Scene" "s" "[I") : Cond) ∈ GW := gw_mem 847 (by decide +kernel) (by decide +kernel)
theorem q_849 : ((Jvm.Cond.lays "GlassRasterLaw$Scene" "GlassRasterLaw$Scene" "draws" "I") : Cond) ∈ GW := gw_mem 849 (by decide +kernel) (by decide +kernel)
theorem q_851 : ((Jvm.Cond.lays "GlassRasterLaw$Scene" "GlassRasterLaw$Scene" "corners" "I") : Cond) ∈ GW := gw_mem 851 (by decide +kernel) (by decide +kernel)
theorem q_853 : ((Jvm.Cond.lays "GlassRasterLaw$Scene" "GlassRasterLaw$Scene" "panes" "I") : Cond) ∈ GW := gw_mem 853 (by decide +kernel) (by decide +kernel)
theorem q_855 : ((Jvm.Cond.laysFinal "GlassRasterLaw$Scene" "GlassRasterLaw$Scene" "corner" "[[I") : Cond) ∈ GW := gw_mem 855 (by decide +kernel) (by decide +kernel)
theorem q_857 : ((Jvm.Cond.laysFinal "GlassRasterLaw$Scene" "GlassRasterLaw$Scene" "pane" "[[I") : Cond) ∈ GW := gw_mem 857 (by decide +kernel) (by decide +kernel)
theorem q_859 : ((Jvm.Cond.laysFinal "GlassRasterLaw$Scene" "GlassRasterLaw$Scene" "is" "[[Z") : Cond) ∈ GW := gw_mem 859 (by decide +kernel) (by decide +kernel)
theorem q_861 : ((Jvm.Cond.laysFinal "GlassRasterLaw$Scene" "GlassRasterLaw$Scene" "camera" "[[I") : Cond) ∈ GW := gw_mem 861 (by decide +kernel) (by decide +kernel)
theorem q_863 : ((Jvm.Cond.laysFinal "GlassRasterLaw$Scene" "GlassRasterLaw$Scene" "pattern" "[[I") : Cond) ∈ GW := gw_mem 863 (by decide +kernel) (by decide +kernel)
theorem q_865 : ((Jvm.Cond.laysFinal "GlassRasterLaw$Scene" "GlassRasterLaw$Scene" "repeats" "[Z") : Cond) ∈ GW := gw_mem 865 (by decide +kernel) (by decide +kernel)
theorem q_867 : ((Jvm.Cond.lays "GlassRasterLaw$Scene" "GlassRasterLaw$Scene" "near" "I") : Cond) ∈ GW := gw_mem 867 (by decide +kernel) (by decide +kernel)
theorem q_869 : ((Jvm.Cond.lays "GlassRasterLaw$Scene" "GlassRasterLaw$Scene" "focus" "I") : Cond) ∈ GW := gw_mem 869 (by decide +kernel) (by decide +kernel)
theorem q_871 : ((Jvm.Cond.lays "GlassRasterLaw$Scene" "GlassRasterLaw$Scene" "background" "I") : Cond) ∈ GW := gw_mem 871 (by decide +kernel) (by decide +kernel)
theorem q_908 : (.methodLink RX10 82 yX10_requireColour : Cond) ∈ GW := gw_mem 908 (by decide +kernel) (by decide +kernel)
theorem q_909 : (.static yX10_requireColour : Cond) ∈ GW := gw_mem 909 (by decide +kernel) (by decide +kernel)
theorem q_910 : (.code yX10_requireColour cX10_requireColour 1 none : Cond) ∈ GW := gw_mem 910 (by decide +kernel) (by decide +kernel)
theorem q_911 : ((Jvm.Cond.constant "GlassRaster" (407 : Nat) (16777215 : Int32)) : Cond) ∈ GW := gw_mem 911 (by decide +kernel) (by decide +kernel)
theorem q_914 : (.classLink RX10 101 "java/lang/IllegalStateException" : Cond) ∈ GW := gw_mem 914 (by decide +kernel) (by decide +kernel)
theorem q_941 : (.methodLink RX10 134 yX4_join : Cond) ∈ GW := gw_mem 941 (by decide +kernel) (by decide +kernel)
theorem q_942 : (.instanceMethod yX4_join : Cond) ∈ GW := gw_mem 942 (by decide +kernel) (by decide +kernel)
theorem q_943 : (.selects RX4 yX4_join yX4_join : Cond) ∈ GW := gw_mem 943 (by decide +kernel) (by decide +kernel)
theorem q_944 : (.code yX4_join cX4_join 4 none : Cond) ∈ GW := gw_mem 944 (by decide +kernel) (by decide +kernel)
theorem q_953 : (.methodLink RX10 153 yX10_requirePattern : Cond) ∈ GW := gw_mem 953 (by decide +kernel) (by decide +kernel)
theorem q_954 : (.static yX10_requirePattern : Cond) ∈ GW := gw_mem 954 (by decide +kernel) (by decide +kernel)
theorem q_955 : (.code yX10_requirePattern cX10_requirePattern 1 none : Cond) ∈ GW := gw_mem 955 (by decide +kernel) (by decide +kernel)
theorem q_977 : (.methodLink RX10 174 yX1_turnRow : Cond) ∈ GW := gw_mem 977 (by decide +kernel) (by decide +kernel)
theorem q_978 : (.instanceMethod yX1_turnRow : Cond) ∈ GW := gw_mem 978 (by decide +kernel) (by decide +kernel)
theorem q_979 : (.selects RX1 yX1_turnRow yX1_turnRow : Cond) ∈ GW := gw_mem 979 (by decide +kernel) (by decide +kernel)
theorem q_980 : (.code yX1_turnRow cX1_turnRow 7 none : Cond) ∈ GW := gw_mem 980 (by decide +kernel) (by decide +kernel)
theorem q_981 : (.methodLink RX10 178 yX10_cornersInFront : Cond) ∈ GW := gw_mem 981 (by decide +kernel) (by decide +kernel)
theorem q_983 : (.instanceMethod yX10_cornersInFront : Cond) ∈ GW := gw_mem 983 (by decide +kernel) (by decide +kernel)
theorem q_984 : (.code yX10_cornersInFront cX10_cornersInFront 3 (some .int) : Cond) ∈ GW := gw_mem 984 (by decide +kernel) (by decide +kernel)
theorem inX0 : ∀ w ∈ u_ws RX0 TX0 4, w ∈ GW := by
  intro w hw
  simp only [u_ws, List.mem_map, List.mem_range] at hw
  obtain ⟨k, hk, rfl⟩ := hw
  rcases (show k = 0 ∨ k = 1 ∨ k = 2 ∨ k = 3 by omega) with rfl | rfl | rfl | rfl
  · exact q_603
  · exact q_605
  · exact q_607
  · exact q_609
theorem inX1 : ∀ w ∈ u_ws RX1 TX1 3, w ∈ GW := by
  intro w hw
  simp only [u_ws, List.mem_map, List.mem_range] at hw
  obtain ⟨k, hk, rfl⟩ := hw
  rcases (show k = 0 ∨ k = 1 ∨ k = 2 by omega) with rfl | rfl | rfl
  · exact q_496
  · exact q_498
  · exact q_500
theorem inX2 : ∀ w ∈ u_ws RX2 TX2 2, w ∈ GW := by
  intro w hw
  simp only [u_ws, List.mem_map, List.mem_range] at hw
  obtain ⟨k, hk, rfl⟩ := hw
  rcases (show k = 0 ∨ k = 1 by omega) with rfl | rfl
  · exact q_694
  · exact q_696
theorem inX3 : ∀ w ∈ u_ws RX3 TX3 6, w ∈ GW := by
  intro w hw
  simp only [u_ws, List.mem_map, List.mem_range] at hw
  obtain ⟨k, hk, rfl⟩ := hw
  rcases (show k = 0 ∨ k = 1 ∨ k = 2 ∨ k = 3 ∨ k = 4 ∨ k = 5 by omega) with rfl | rfl | rfl | rfl | rfl | rfl
  · exact q_718
  · exact q_720
  · exact q_722
  · exact q_724
  · exact q_726
  · exact q_728
theorem inX4 : ∀ w ∈ u_ws RX4 TX4 7, w ∈ GW := by
  intro w hw
  simp only [u_ws, List.mem_map, List.mem_range] at hw
  obtain ⟨k, hk, rfl⟩ := hw
  rcases (show k = 0 ∨ k = 1 ∨ k = 2 ∨ k = 3 ∨ k = 4 ∨ k = 5 ∨ k = 6 by omega) with rfl | rfl | rfl | rfl | rfl | rfl | rfl
  · exact q_746
  · exact q_748
  · exact q_750
  · exact q_752
  · exact q_754
  · exact q_756
  · exact q_758
theorem inX5 : ∀ w ∈ u_ws RX5 TX5 2, w ∈ GW := by
  intro w hw
  simp only [u_ws, List.mem_map, List.mem_range] at hw
  obtain ⟨k, hk, rfl⟩ := hw
  rcases (show k = 0 ∨ k = 1 by omega) with rfl | rfl
  · exact q_769
  · exact q_771
theorem inX6 : ∀ w ∈ u_ws RX6 TX6 9, w ∈ GW := by
  intro w hw
  simp only [u_ws, List.mem_map, List.mem_range] at hw
  obtain ⟨k, hk, rfl⟩ := hw
  rcases (show k = 0 ∨ k = 1 ∨ k = 2 ∨ k = 3 ∨ k = 4 ∨ k = 5 ∨ k = 6 ∨ k = 7 ∨ k = 8 by omega) with rfl | rfl | rfl | rfl | rfl | rfl | rfl | rfl | rfl
  · exact q_630
  · exact q_632
  · exact q_634
  · exact q_636
  · exact q_638
  · exact q_640
  · exact q_642
  · exact q_644
  · exact q_646
theorem inX7 : ∀ w ∈ u_ws RX7 TX7 3, w ∈ GW := by
  intro w hw
  simp only [u_ws, List.mem_map, List.mem_range] at hw
  obtain ⟨k, hk, rfl⟩ := hw
  rcases (show k = 0 ∨ k = 1 ∨ k = 2 by omega) with rfl | rfl | rfl
  · exact q_678
  · exact q_680
  · exact q_682
theorem inX8 : ∀ w ∈ u_ws RX8 TX8 4, w ∈ GW := by
  intro w hw
  simp only [u_ws, List.mem_map, List.mem_range] at hw
  obtain ⟨k, hk, rfl⟩ := hw
  rcases (show k = 0 ∨ k = 1 ∨ k = 2 ∨ k = 3 by omega) with rfl | rfl | rfl | rfl
  · exact q_657
  · exact q_659
  · exact q_661
  · exact q_663
theorem inX9 : ∀ w ∈ u_ws RX9 TX9 12, w ∈ GW := by
  intro w hw
  simp only [u_ws, List.mem_map, List.mem_range] at hw
  obtain ⟨k, hk, rfl⟩ := hw
  rcases (show k = 0 ∨ k = 1 ∨ k = 2 ∨ k = 3 ∨ k = 4 ∨ k = 5 ∨ k = 6 ∨ k = 7 ∨ k = 8 ∨ k = 9 ∨ k = 10 ∨ k = 11 by omega) with rfl | rfl | rfl | rfl | rfl | rfl | rfl | rfl | rfl | rfl | rfl | rfl
  · exact q_553
  · exact q_555
  · exact q_557
  · exact q_559
  · exact q_561
  · exact q_563
  · exact q_565
  · exact q_567
  · exact q_569
  · exact q_571
  · exact q_573
  · exact q_575
theorem inX10 : ∀ w ∈ u_ws RX10 TX10 15, w ∈ GW := by
  intro w hw
  simp only [u_ws, List.mem_map, List.mem_range] at hw
  obtain ⟨k, hk, rfl⟩ := hw
  rcases (show k = 0 ∨ k = 1 ∨ k = 2 ∨ k = 3 ∨ k = 4 ∨ k = 5 ∨ k = 6 ∨ k = 7 ∨ k = 8 ∨ k = 9 ∨ k = 10 ∨ k = 11 ∨ k = 12 ∨ k = 13 ∨ k = 14 by omega) with rfl | rfl | rfl | rfl | rfl | rfl | rfl | rfl | rfl | rfl | rfl | rfl | rfl | rfl | rfl
  · exact q_789
  · exact q_791
  · exact q_793
  · exact q_795
  · exact q_797
  · exact q_799
  · exact q_801
  · exact q_803
  · exact q_805
  · exact q_807
  · exact q_809
  · exact q_811
  · exact q_813
  · exact q_815
  · exact q_817
theorem inX11 : ∀ w ∈ u_ws RX11 TX11 14, w ∈ GW := by
  intro w hw
  simp only [u_ws, List.mem_map, List.mem_range] at hw
  obtain ⟨k, hk, rfl⟩ := hw
  rcases (show k = 0 ∨ k = 1 ∨ k = 2 ∨ k = 3 ∨ k = 4 ∨ k = 5 ∨ k = 6 ∨ k = 7 ∨ k = 8 ∨ k = 9 ∨ k = 10 ∨ k = 11 ∨ k = 12 ∨ k = 13 by omega) with rfl | rfl | rfl | rfl | rfl | rfl | rfl | rfl | rfl | rfl | rfl | rfl | rfl | rfl
  · exact q_845
  · exact q_847
  · exact q_849
  · exact q_851
  · exact q_853
  · exact q_855
  · exact q_857
  · exact q_859
  · exact q_861
  · exact q_863
  · exact q_865
  · exact q_867
  · exact q_869
  · exact q_871
