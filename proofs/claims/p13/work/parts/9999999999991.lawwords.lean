theorem m_27 : Cond.classLink "LinkedUnitsLaw" 7 "LinkedUnits" ∈ GW := tw_1 27 rfl rfl
theorem m_29 : Cond.methodLink "LinkedUnitsLaw" 9 ⟨"LinkedUnits", "<init>", "()V"⟩ ∈ GW := tw_1 29 rfl rfl
theorem m_781 : Cond.methodLink "LinkedUnitsLaw" 13 ⟨"LinkedUnits", "feed", "(IIIII)I"⟩ ∈ GW := tw_4 61 rfl rfl
theorem m_790 : Cond.methodLink "LinkedUnitsLaw" 18 ⟨"LinkedUnits", "end", "(I)I"⟩ ∈ GW := tw_4 70 rfl rfl
theorem m_794 : Cond.methodLink "LinkedUnitsLaw" 23 ⟨"LinkedUnits", "compile", "(I)I"⟩ ∈ GW := tw_4 74 rfl rfl
theorem m_1501 : Cond.methodLink "LinkedUnitsLaw" 27 ⟨"LinkedUnits", "place", "()I"⟩ ∈ GW := tw_7 61 rfl rfl
theorem m_1505 : Cond.methodLink "LinkedUnitsLaw" 32 ⟨"LinkedUnits", "objects", "()I"⟩ ∈ GW := tw_7 65 rfl rfl
theorem m_1509 : Cond.methodLink "LinkedUnitsLaw" 36 ⟨"LinkedUnits", "count", "(II)I"⟩ ∈ GW := tw_7 69 rfl rfl
theorem m_1526 : Cond.methodLink "LinkedUnitsLaw" 41 ⟨"LinkedUnits", "name", "(III)I"⟩ ∈ GW := tw_7 86 rfl rfl
theorem m_1539 : Cond.methodLink "LinkedUnitsLaw" 46 ⟨"LinkedUnits", "symbol", "(II)I"⟩ ∈ GW := tw_7 99 rfl rfl
theorem m_1544 : Cond.methodLink "LinkedUnitsLaw" 50 ⟨"LinkedUnits", "pick", "(I)I"⟩ ∈ GW := tw_7 104 rfl rfl
theorem m_1554 : Cond.methodLink "LinkedUnitsLaw" 54 ⟨"LinkedUnits", "link", "()I"⟩ ∈ GW := tw_7 114 rfl rfl
theorem m_1605 : Cond.methodLink "LinkedUnitsLaw" 58 ⟨"LinkedUnits", "fault", "(I)I"⟩ ∈ GW := tw_7 165 rfl rfl
theorem m_1609 : Cond.methodLink "LinkedUnitsLaw" 62 ⟨"LinkedUnits", "cell", "()I"⟩ ∈ GW := tw_7 169 rfl rfl
theorem m_1617 : Cond.methodLink "LinkedUnitsLaw" 66 ⟨"LinkedUnits", "input", "(I)I"⟩ ∈ GW := tw_7 177 rfl rfl
theorem m_1625 : Cond.methodLink "LinkedUnitsLaw" 70 ⟨"LinkedUnits", "run", "(I)I"⟩ ∈ GW := tw_7 185 rfl rfl
theorem m_1756 : Cond.methodLink "LinkedUnitsLaw" 74 ⟨"LinkedUnits", "result", "()I"⟩ ∈ GW := tw_8 76 rfl rfl
theorem m_1760 : Cond.methodLink "LinkedUnitsLaw" 78 ⟨"LinkedUnits", "turns", "()I"⟩ ∈ GW := tw_8 80 rfl rfl
theorem m_1764 : Cond.methodLink "LinkedUnitsLaw" 82 ⟨"LinkedUnits", "trap", "(I)I"⟩ ∈ GW := tw_8 84 rfl rfl
theorem m_1772 : Cond.methodLink "LinkedUnitsLaw" 86 ⟨"LinkedUnits", "written", "()I"⟩ ∈ GW := tw_8 92 rfl rfl
theorem m_1776 : Cond.methodLink "LinkedUnitsLaw" 90 ⟨"LinkedUnits", "out", "(I)I"⟩ ∈ GW := tw_8 96 rfl rfl
theorem m_1784 : Cond.methodLink "LinkedUnitsLaw" 94 ⟨"LinkedUnits", "peek", "(I)I"⟩ ∈ GW := tw_8 104 rfl rfl
theorem m_1788 : Cond.methodLink "LinkedUnitsLaw" 98 ⟨"LinkedUnits", "strays", "()I"⟩ ∈ GW := tw_8 108 rfl rfl
theorem m_1792 : Cond.classLink "LinkedUnitsLaw" 10 "LinkedUnitsModel" ∈ GW := tw_8 112 rfl rfl
theorem m_1794 : Cond.methodLink "LinkedUnitsLaw" 12 ⟨"LinkedUnitsModel", "<init>", "()V"⟩ ∈ GW := tw_8 114 rfl rfl
theorem m_2167 : Cond.methodLink "LinkedUnitsLaw" 17 ⟨"LinkedUnitsModel", "feed", "(IIIII)I"⟩ ∈ GW := tw_10 7 rfl rfl
theorem m_2171 : Cond.methodLink "LinkedUnitsLaw" 22 ⟨"LinkedUnitsModel", "end", "(I)I"⟩ ∈ GW := tw_10 11 rfl rfl
theorem m_2175 : Cond.methodLink "LinkedUnitsLaw" 26 ⟨"LinkedUnitsModel", "compile", "(I)I"⟩ ∈ GW := tw_10 15 rfl rfl
theorem m_2636 : Cond.methodLink "LinkedUnitsLaw" 31 ⟨"LinkedUnitsModel", "place", "()I"⟩ ∈ GW := tw_11 236 rfl rfl
theorem m_2640 : Cond.methodLink "LinkedUnitsLaw" 35 ⟨"LinkedUnitsModel", "objects", "()I"⟩ ∈ GW := tw_12 0 rfl rfl
theorem m_2644 : Cond.methodLink "LinkedUnitsLaw" 40 ⟨"LinkedUnitsModel", "count", "(II)I"⟩ ∈ GW := tw_12 4 rfl rfl
theorem m_2656 : Cond.methodLink "LinkedUnitsLaw" 45 ⟨"LinkedUnitsModel", "name", "(III)I"⟩ ∈ GW := tw_12 16 rfl rfl
theorem m_2664 : Cond.methodLink "LinkedUnitsLaw" 49 ⟨"LinkedUnitsModel", "symbol", "(II)I"⟩ ∈ GW := tw_12 24 rfl rfl
theorem m_2668 : Cond.methodLink "LinkedUnitsLaw" 53 ⟨"LinkedUnitsModel", "pick", "(I)I"⟩ ∈ GW := tw_12 28 rfl rfl
theorem m_2672 : Cond.methodLink "LinkedUnitsLaw" 57 ⟨"LinkedUnitsModel", "link", "()I"⟩ ∈ GW := tw_12 32 rfl rfl
theorem m_2721 : Cond.methodLink "LinkedUnitsLaw" 61 ⟨"LinkedUnitsModel", "fault", "(I)I"⟩ ∈ GW := tw_12 81 rfl rfl
theorem m_2725 : Cond.methodLink "LinkedUnitsLaw" 65 ⟨"LinkedUnitsModel", "cell", "()I"⟩ ∈ GW := tw_12 85 rfl rfl
theorem m_2733 : Cond.methodLink "LinkedUnitsLaw" 69 ⟨"LinkedUnitsModel", "input", "(I)I"⟩ ∈ GW := tw_12 93 rfl rfl
theorem m_2737 : Cond.methodLink "LinkedUnitsLaw" 73 ⟨"LinkedUnitsModel", "run", "(I)I"⟩ ∈ GW := tw_12 97 rfl rfl
theorem m_2812 : Cond.methodLink "LinkedUnitsLaw" 77 ⟨"LinkedUnitsModel", "result", "()I"⟩ ∈ GW := tw_12 172 rfl rfl
theorem m_2816 : Cond.methodLink "LinkedUnitsLaw" 81 ⟨"LinkedUnitsModel", "turns", "()I"⟩ ∈ GW := tw_12 176 rfl rfl
theorem m_2820 : Cond.methodLink "LinkedUnitsLaw" 85 ⟨"LinkedUnitsModel", "trap", "(I)I"⟩ ∈ GW := tw_12 180 rfl rfl
theorem m_2824 : Cond.methodLink "LinkedUnitsLaw" 89 ⟨"LinkedUnitsModel", "written", "()I"⟩ ∈ GW := tw_12 184 rfl rfl
theorem m_2828 : Cond.methodLink "LinkedUnitsLaw" 93 ⟨"LinkedUnitsModel", "out", "(I)I"⟩ ∈ GW := tw_12 188 rfl rfl
theorem m_2832 : Cond.methodLink "LinkedUnitsLaw" 97 ⟨"LinkedUnitsModel", "peek", "(I)I"⟩ ∈ GW := tw_12 192 rfl rfl
theorem m_2836 : Cond.methodLink "LinkedUnitsLaw" 101 ⟨"LinkedUnitsModel", "strays", "()I"⟩ ∈ GW := tw_12 196 rfl rfl
theorem dl_0 : decode code 0 = .ok (.new 7, 3) := by decide +kernel
theorem dl_3 : decode code 3 = .ok (.dup, 1) := by decide +kernel
theorem dl_4 : decode code 4 = .ok (.invokespecial 9, 3) := by decide +kernel
theorem dl_7 : decode code 7 = .ok (.astore_n 1, 1) := by decide +kernel
theorem dl_8 : decode code 8 = .ok (.new 10, 3) := by decide +kernel
theorem dl_11 : decode code 11 = .ok (.dup, 1) := by decide +kernel
theorem dl_12 : decode code 12 = .ok (.invokespecial 12, 3) := by decide +kernel
theorem dl_15 : decode code 15 = .ok (.astore_n 2, 1) := by decide +kernel
theorem dl_16 : decode code 16 = .ok (.iconst 0, 1) := by decide +kernel
theorem dl_17 : decode code 17 = .ok (.istore_n 3, 1) := by decide +kernel
theorem dl_18 : decode code 18 = .ok (.iload_n 3, 1) := by decide +kernel
theorem dl_19 : decode code 19 = .ok (.aload_n 0, 1) := by decide +kernel
theorem dl_20 : decode code 20 = .ok (.arraylength, 1) := by decide +kernel
theorem dl_21 : decode code 21 = .ok (.bipush 6, 2) := by decide +kernel
theorem dl_23 : decode code 23 = .ok (.isub, 1) := by decide +kernel
theorem dl_24 : decode code 24 = .ok (.if_icmp .gt 597, 3) := by decide +kernel
theorem dl_27 : decode code 27 = .ok (.aload_n 0, 1) := by decide +kernel
theorem dl_28 : decode code 28 = .ok (.iload_n 3, 1) := by decide +kernel
theorem dl_29 : decode code 29 = .ok (.iaload, 1) := by decide +kernel
theorem dl_30 : decode code 30 = .ok (.bipush 31, 2) := by decide +kernel
theorem dl_32 : decode code 32 = .ok (.iand, 1) := by decide +kernel
theorem dl_33 : decode code 33 = .ok (.tableswitch 582 0 20 #[99, 162, 185, 208, 221, 234, 267, 310, 343, 366, 379, 402, 415, 438, 461, 474, 487, 510, 523, 546, 569], 99) := by decide +kernel
theorem dl_132 : decode code 132 = .ok (.aload_n 1, 1) := by decide +kernel
theorem dl_133 : decode code 133 = .ok (.aload_n 0, 1) := by decide +kernel
theorem dl_134 : decode code 134 = .ok (.iload_n 3, 1) := by decide +kernel
theorem dl_135 : decode code 135 = .ok (.iconst 1, 1) := by decide +kernel
theorem dl_136 : decode code 136 = .ok (.iadd, 1) := by decide +kernel
theorem dl_137 : decode code 137 = .ok (.iaload, 1) := by decide +kernel
theorem dl_138 : decode code 138 = .ok (.aload_n 0, 1) := by decide +kernel
theorem dl_139 : decode code 139 = .ok (.iload_n 3, 1) := by decide +kernel
theorem dl_140 : decode code 140 = .ok (.iconst 2, 1) := by decide +kernel
theorem dl_141 : decode code 141 = .ok (.iadd, 1) := by decide +kernel
theorem dl_142 : decode code 142 = .ok (.iaload, 1) := by decide +kernel
theorem dl_143 : decode code 143 = .ok (.aload_n 0, 1) := by decide +kernel
theorem dl_144 : decode code 144 = .ok (.iload_n 3, 1) := by decide +kernel
theorem dl_145 : decode code 145 = .ok (.iconst 3, 1) := by decide +kernel
theorem dl_146 : decode code 146 = .ok (.iadd, 1) := by decide +kernel
theorem dl_147 : decode code 147 = .ok (.iaload, 1) := by decide +kernel
theorem dl_148 : decode code 148 = .ok (.aload_n 0, 1) := by decide +kernel
theorem dl_149 : decode code 149 = .ok (.iload_n 3, 1) := by decide +kernel
theorem dl_150 : decode code 150 = .ok (.iconst 4, 1) := by decide +kernel
theorem dl_151 : decode code 151 = .ok (.iadd, 1) := by decide +kernel
theorem dl_152 : decode code 152 = .ok (.iaload, 1) := by decide +kernel
theorem dl_153 : decode code 153 = .ok (.aload_n 0, 1) := by decide +kernel
theorem dl_154 : decode code 154 = .ok (.iload_n 3, 1) := by decide +kernel
theorem dl_155 : decode code 155 = .ok (.iconst 5, 1) := by decide +kernel
theorem dl_156 : decode code 156 = .ok (.iadd, 1) := by decide +kernel
theorem dl_157 : decode code 157 = .ok (.iaload, 1) := by decide +kernel
theorem dl_158 : decode code 158 = .ok (.invokevirtual 13, 3) := by decide +kernel
theorem dl_161 : decode code 161 = .ok (.pop, 1) := by decide +kernel
theorem dl_162 : decode code 162 = .ok (.aload_n 2, 1) := by decide +kernel
theorem dl_163 : decode code 163 = .ok (.aload_n 0, 1) := by decide +kernel
theorem dl_164 : decode code 164 = .ok (.iload_n 3, 1) := by decide +kernel
theorem dl_165 : decode code 165 = .ok (.iconst 1, 1) := by decide +kernel
theorem dl_166 : decode code 166 = .ok (.iadd, 1) := by decide +kernel
theorem dl_167 : decode code 167 = .ok (.iaload, 1) := by decide +kernel
theorem dl_168 : decode code 168 = .ok (.aload_n 0, 1) := by decide +kernel
theorem dl_169 : decode code 169 = .ok (.iload_n 3, 1) := by decide +kernel
theorem dl_170 : decode code 170 = .ok (.iconst 2, 1) := by decide +kernel
theorem dl_171 : decode code 171 = .ok (.iadd, 1) := by decide +kernel
theorem dl_172 : decode code 172 = .ok (.iaload, 1) := by decide +kernel
theorem dl_173 : decode code 173 = .ok (.aload_n 0, 1) := by decide +kernel
theorem dl_174 : decode code 174 = .ok (.iload_n 3, 1) := by decide +kernel
theorem dl_175 : decode code 175 = .ok (.iconst 3, 1) := by decide +kernel
theorem dl_176 : decode code 176 = .ok (.iadd, 1) := by decide +kernel
theorem dl_177 : decode code 177 = .ok (.iaload, 1) := by decide +kernel
theorem dl_178 : decode code 178 = .ok (.aload_n 0, 1) := by decide +kernel
theorem dl_179 : decode code 179 = .ok (.iload_n 3, 1) := by decide +kernel
theorem dl_180 : decode code 180 = .ok (.iconst 4, 1) := by decide +kernel
theorem dl_181 : decode code 181 = .ok (.iadd, 1) := by decide +kernel
theorem dl_182 : decode code 182 = .ok (.iaload, 1) := by decide +kernel
theorem dl_183 : decode code 183 = .ok (.aload_n 0, 1) := by decide +kernel
theorem dl_184 : decode code 184 = .ok (.iload_n 3, 1) := by decide +kernel
theorem dl_185 : decode code 185 = .ok (.iconst 5, 1) := by decide +kernel
theorem dl_186 : decode code 186 = .ok (.iadd, 1) := by decide +kernel
theorem dl_187 : decode code 187 = .ok (.iaload, 1) := by decide +kernel
theorem dl_188 : decode code 188 = .ok (.invokevirtual 17, 3) := by decide +kernel
theorem dl_191 : decode code 191 = .ok (.pop, 1) := by decide +kernel
theorem dl_192 : decode code 192 = .ok (.goto 423, 3) := by decide +kernel
theorem dl_195 : decode code 195 = .ok (.aload_n 1, 1) := by decide +kernel
theorem dl_196 : decode code 196 = .ok (.aload_n 0, 1) := by decide +kernel
theorem dl_197 : decode code 197 = .ok (.iload_n 3, 1) := by decide +kernel
theorem dl_198 : decode code 198 = .ok (.iconst 1, 1) := by decide +kernel
theorem dl_199 : decode code 199 = .ok (.iadd, 1) := by decide +kernel
theorem dl_200 : decode code 200 = .ok (.iaload, 1) := by decide +kernel
theorem dl_201 : decode code 201 = .ok (.invokevirtual 18, 3) := by decide +kernel
theorem dl_204 : decode code 204 = .ok (.pop, 1) := by decide +kernel
theorem dl_205 : decode code 205 = .ok (.aload_n 2, 1) := by decide +kernel
theorem dl_206 : decode code 206 = .ok (.aload_n 0, 1) := by decide +kernel
theorem dl_207 : decode code 207 = .ok (.iload_n 3, 1) := by decide +kernel
theorem dl_208 : decode code 208 = .ok (.iconst 1, 1) := by decide +kernel
theorem dl_209 : decode code 209 = .ok (.iadd, 1) := by decide +kernel
theorem dl_210 : decode code 210 = .ok (.iaload, 1) := by decide +kernel
theorem dl_211 : decode code 211 = .ok (.invokevirtual 22, 3) := by decide +kernel
theorem dl_214 : decode code 214 = .ok (.pop, 1) := by decide +kernel
theorem dl_215 : decode code 215 = .ok (.goto 400, 3) := by decide +kernel
theorem dl_218 : decode code 218 = .ok (.aload_n 1, 1) := by decide +kernel
theorem dl_219 : decode code 219 = .ok (.aload_n 0, 1) := by decide +kernel
theorem dl_220 : decode code 220 = .ok (.iload_n 3, 1) := by decide +kernel
theorem dl_221 : decode code 221 = .ok (.iconst 1, 1) := by decide +kernel
theorem dl_222 : decode code 222 = .ok (.iadd, 1) := by decide +kernel
theorem dl_223 : decode code 223 = .ok (.iaload, 1) := by decide +kernel
theorem dl_224 : decode code 224 = .ok (.invokevirtual 23, 3) := by decide +kernel
theorem dl_227 : decode code 227 = .ok (.pop, 1) := by decide +kernel
theorem dl_228 : decode code 228 = .ok (.aload_n 2, 1) := by decide +kernel
theorem dl_229 : decode code 229 = .ok (.aload_n 0, 1) := by decide +kernel
theorem dl_230 : decode code 230 = .ok (.iload_n 3, 1) := by decide +kernel
theorem dl_231 : decode code 231 = .ok (.iconst 1, 1) := by decide +kernel
theorem dl_232 : decode code 232 = .ok (.iadd, 1) := by decide +kernel
theorem dl_233 : decode code 233 = .ok (.iaload, 1) := by decide +kernel
theorem dl_234 : decode code 234 = .ok (.invokevirtual 26, 3) := by decide +kernel
theorem dl_237 : decode code 237 = .ok (.pop, 1) := by decide +kernel
theorem dl_238 : decode code 238 = .ok (.goto 377, 3) := by decide +kernel
theorem dl_241 : decode code 241 = .ok (.aload_n 1, 1) := by decide +kernel
theorem dl_242 : decode code 242 = .ok (.invokevirtual 27, 3) := by decide +kernel
theorem dl_245 : decode code 245 = .ok (.pop, 1) := by decide +kernel
theorem dl_246 : decode code 246 = .ok (.aload_n 2, 1) := by decide +kernel
theorem dl_247 : decode code 247 = .ok (.invokevirtual 31, 3) := by decide +kernel
theorem dl_250 : decode code 250 = .ok (.pop, 1) := by decide +kernel
theorem dl_251 : decode code 251 = .ok (.goto 364, 3) := by decide +kernel
theorem dl_254 : decode code 254 = .ok (.aload_n 1, 1) := by decide +kernel
theorem dl_255 : decode code 255 = .ok (.invokevirtual 32, 3) := by decide +kernel
theorem dl_258 : decode code 258 = .ok (.pop, 1) := by decide +kernel
theorem dl_259 : decode code 259 = .ok (.aload_n 2, 1) := by decide +kernel
theorem dl_260 : decode code 260 = .ok (.invokevirtual 35, 3) := by decide +kernel
theorem dl_263 : decode code 263 = .ok (.pop, 1) := by decide +kernel
theorem dl_264 : decode code 264 = .ok (.goto 351, 3) := by decide +kernel
theorem dl_267 : decode code 267 = .ok (.aload_n 1, 1) := by decide +kernel
theorem dl_268 : decode code 268 = .ok (.aload_n 0, 1) := by decide +kernel
theorem dl_269 : decode code 269 = .ok (.iload_n 3, 1) := by decide +kernel
theorem dl_270 : decode code 270 = .ok (.iconst 1, 1) := by decide +kernel
theorem dl_271 : decode code 271 = .ok (.iadd, 1) := by decide +kernel
theorem dl_272 : decode code 272 = .ok (.iaload, 1) := by decide +kernel
theorem dl_273 : decode code 273 = .ok (.aload_n 0, 1) := by decide +kernel
theorem dl_274 : decode code 274 = .ok (.iload_n 3, 1) := by decide +kernel
theorem dl_275 : decode code 275 = .ok (.iconst 2, 1) := by decide +kernel
theorem dl_276 : decode code 276 = .ok (.iadd, 1) := by decide +kernel
theorem dl_277 : decode code 277 = .ok (.iaload, 1) := by decide +kernel
theorem dl_278 : decode code 278 = .ok (.invokevirtual 36, 3) := by decide +kernel
theorem dl_281 : decode code 281 = .ok (.pop, 1) := by decide +kernel
theorem dl_282 : decode code 282 = .ok (.aload_n 2, 1) := by decide +kernel
theorem dl_283 : decode code 283 = .ok (.aload_n 0, 1) := by decide +kernel
theorem dl_284 : decode code 284 = .ok (.iload_n 3, 1) := by decide +kernel
theorem dl_285 : decode code 285 = .ok (.iconst 1, 1) := by decide +kernel
theorem dl_286 : decode code 286 = .ok (.iadd, 1) := by decide +kernel
theorem dl_287 : decode code 287 = .ok (.iaload, 1) := by decide +kernel
theorem dl_288 : decode code 288 = .ok (.aload_n 0, 1) := by decide +kernel
theorem dl_289 : decode code 289 = .ok (.iload_n 3, 1) := by decide +kernel
theorem dl_290 : decode code 290 = .ok (.iconst 2, 1) := by decide +kernel
theorem dl_291 : decode code 291 = .ok (.iadd, 1) := by decide +kernel
theorem dl_292 : decode code 292 = .ok (.iaload, 1) := by decide +kernel
theorem dl_293 : decode code 293 = .ok (.invokevirtual 40, 3) := by decide +kernel
theorem dl_296 : decode code 296 = .ok (.pop, 1) := by decide +kernel
theorem dl_297 : decode code 297 = .ok (.goto 318, 3) := by decide +kernel
theorem dl_300 : decode code 300 = .ok (.aload_n 1, 1) := by decide +kernel
theorem dl_301 : decode code 301 = .ok (.aload_n 0, 1) := by decide +kernel
theorem dl_302 : decode code 302 = .ok (.iload_n 3, 1) := by decide +kernel
theorem dl_303 : decode code 303 = .ok (.iconst 1, 1) := by decide +kernel
theorem dl_304 : decode code 304 = .ok (.iadd, 1) := by decide +kernel
theorem dl_305 : decode code 305 = .ok (.iaload, 1) := by decide +kernel
theorem dl_306 : decode code 306 = .ok (.aload_n 0, 1) := by decide +kernel
theorem dl_307 : decode code 307 = .ok (.iload_n 3, 1) := by decide +kernel
theorem dl_308 : decode code 308 = .ok (.iconst 2, 1) := by decide +kernel
theorem dl_309 : decode code 309 = .ok (.iadd, 1) := by decide +kernel
theorem dl_310 : decode code 310 = .ok (.iaload, 1) := by decide +kernel
theorem dl_311 : decode code 311 = .ok (.aload_n 0, 1) := by decide +kernel
theorem dl_312 : decode code 312 = .ok (.iload_n 3, 1) := by decide +kernel
theorem dl_313 : decode code 313 = .ok (.iconst 3, 1) := by decide +kernel
theorem dl_314 : decode code 314 = .ok (.iadd, 1) := by decide +kernel
theorem dl_315 : decode code 315 = .ok (.iaload, 1) := by decide +kernel
theorem dl_316 : decode code 316 = .ok (.invokevirtual 41, 3) := by decide +kernel
theorem dl_319 : decode code 319 = .ok (.pop, 1) := by decide +kernel
theorem dl_320 : decode code 320 = .ok (.aload_n 2, 1) := by decide +kernel
theorem dl_321 : decode code 321 = .ok (.aload_n 0, 1) := by decide +kernel
theorem dl_322 : decode code 322 = .ok (.iload_n 3, 1) := by decide +kernel
theorem dl_323 : decode code 323 = .ok (.iconst 1, 1) := by decide +kernel
theorem dl_324 : decode code 324 = .ok (.iadd, 1) := by decide +kernel
theorem dl_325 : decode code 325 = .ok (.iaload, 1) := by decide +kernel
theorem dl_326 : decode code 326 = .ok (.aload_n 0, 1) := by decide +kernel
theorem dl_327 : decode code 327 = .ok (.iload_n 3, 1) := by decide +kernel
theorem dl_328 : decode code 328 = .ok (.iconst 2, 1) := by decide +kernel
theorem dl_329 : decode code 329 = .ok (.iadd, 1) := by decide +kernel
theorem dl_330 : decode code 330 = .ok (.iaload, 1) := by decide +kernel
theorem dl_331 : decode code 331 = .ok (.aload_n 0, 1) := by decide +kernel
theorem dl_332 : decode code 332 = .ok (.iload_n 3, 1) := by decide +kernel
theorem dl_333 : decode code 333 = .ok (.iconst 3, 1) := by decide +kernel
theorem dl_334 : decode code 334 = .ok (.iadd, 1) := by decide +kernel
theorem dl_335 : decode code 335 = .ok (.iaload, 1) := by decide +kernel
theorem dl_336 : decode code 336 = .ok (.invokevirtual 45, 3) := by decide +kernel
theorem dl_339 : decode code 339 = .ok (.pop, 1) := by decide +kernel
theorem dl_340 : decode code 340 = .ok (.goto 275, 3) := by decide +kernel
theorem dl_343 : decode code 343 = .ok (.aload_n 1, 1) := by decide +kernel
theorem dl_344 : decode code 344 = .ok (.aload_n 0, 1) := by decide +kernel
theorem dl_345 : decode code 345 = .ok (.iload_n 3, 1) := by decide +kernel
theorem dl_346 : decode code 346 = .ok (.iconst 1, 1) := by decide +kernel
theorem dl_347 : decode code 347 = .ok (.iadd, 1) := by decide +kernel
theorem dl_348 : decode code 348 = .ok (.iaload, 1) := by decide +kernel
theorem dl_349 : decode code 349 = .ok (.aload_n 0, 1) := by decide +kernel
theorem dl_350 : decode code 350 = .ok (.iload_n 3, 1) := by decide +kernel
theorem dl_351 : decode code 351 = .ok (.iconst 2, 1) := by decide +kernel
theorem dl_352 : decode code 352 = .ok (.iadd, 1) := by decide +kernel
theorem dl_353 : decode code 353 = .ok (.iaload, 1) := by decide +kernel
theorem dl_354 : decode code 354 = .ok (.invokevirtual 46, 3) := by decide +kernel
theorem dl_357 : decode code 357 = .ok (.pop, 1) := by decide +kernel
theorem dl_358 : decode code 358 = .ok (.aload_n 2, 1) := by decide +kernel
theorem dl_359 : decode code 359 = .ok (.aload_n 0, 1) := by decide +kernel
theorem dl_360 : decode code 360 = .ok (.iload_n 3, 1) := by decide +kernel
theorem dl_361 : decode code 361 = .ok (.iconst 1, 1) := by decide +kernel
theorem dl_362 : decode code 362 = .ok (.iadd, 1) := by decide +kernel
theorem dl_363 : decode code 363 = .ok (.iaload, 1) := by decide +kernel
theorem dl_364 : decode code 364 = .ok (.aload_n 0, 1) := by decide +kernel
theorem dl_365 : decode code 365 = .ok (.iload_n 3, 1) := by decide +kernel
theorem dl_366 : decode code 366 = .ok (.iconst 2, 1) := by decide +kernel
theorem dl_367 : decode code 367 = .ok (.iadd, 1) := by decide +kernel
theorem dl_368 : decode code 368 = .ok (.iaload, 1) := by decide +kernel
theorem dl_369 : decode code 369 = .ok (.invokevirtual 49, 3) := by decide +kernel
theorem dl_372 : decode code 372 = .ok (.pop, 1) := by decide +kernel
theorem dl_373 : decode code 373 = .ok (.goto 242, 3) := by decide +kernel
theorem dl_376 : decode code 376 = .ok (.aload_n 1, 1) := by decide +kernel
theorem dl_377 : decode code 377 = .ok (.aload_n 0, 1) := by decide +kernel
theorem dl_378 : decode code 378 = .ok (.iload_n 3, 1) := by decide +kernel
theorem dl_379 : decode code 379 = .ok (.iconst 1, 1) := by decide +kernel
theorem dl_380 : decode code 380 = .ok (.iadd, 1) := by decide +kernel
theorem dl_381 : decode code 381 = .ok (.iaload, 1) := by decide +kernel
theorem dl_382 : decode code 382 = .ok (.invokevirtual 50, 3) := by decide +kernel
theorem dl_385 : decode code 385 = .ok (.pop, 1) := by decide +kernel
theorem dl_386 : decode code 386 = .ok (.aload_n 2, 1) := by decide +kernel
theorem dl_387 : decode code 387 = .ok (.aload_n 0, 1) := by decide +kernel
theorem dl_388 : decode code 388 = .ok (.iload_n 3, 1) := by decide +kernel
theorem dl_389 : decode code 389 = .ok (.iconst 1, 1) := by decide +kernel
theorem dl_390 : decode code 390 = .ok (.iadd, 1) := by decide +kernel
theorem dl_391 : decode code 391 = .ok (.iaload, 1) := by decide +kernel
theorem dl_392 : decode code 392 = .ok (.invokevirtual 53, 3) := by decide +kernel
theorem dl_395 : decode code 395 = .ok (.pop, 1) := by decide +kernel
theorem dl_396 : decode code 396 = .ok (.goto 219, 3) := by decide +kernel
theorem dl_399 : decode code 399 = .ok (.aload_n 1, 1) := by decide +kernel
theorem dl_400 : decode code 400 = .ok (.invokevirtual 54, 3) := by decide +kernel
theorem dl_403 : decode code 403 = .ok (.pop, 1) := by decide +kernel
theorem dl_404 : decode code 404 = .ok (.aload_n 2, 1) := by decide +kernel
theorem dl_405 : decode code 405 = .ok (.invokevirtual 57, 3) := by decide +kernel
theorem dl_408 : decode code 408 = .ok (.pop, 1) := by decide +kernel
theorem dl_409 : decode code 409 = .ok (.goto 206, 3) := by decide +kernel
theorem dl_412 : decode code 412 = .ok (.aload_n 1, 1) := by decide +kernel
theorem dl_413 : decode code 413 = .ok (.aload_n 0, 1) := by decide +kernel
theorem dl_414 : decode code 414 = .ok (.iload_n 3, 1) := by decide +kernel
theorem dl_415 : decode code 415 = .ok (.iconst 1, 1) := by decide +kernel
theorem dl_416 : decode code 416 = .ok (.iadd, 1) := by decide +kernel
theorem dl_417 : decode code 417 = .ok (.iaload, 1) := by decide +kernel
theorem dl_418 : decode code 418 = .ok (.invokevirtual 58, 3) := by decide +kernel
theorem dl_421 : decode code 421 = .ok (.pop, 1) := by decide +kernel
theorem dl_422 : decode code 422 = .ok (.aload_n 2, 1) := by decide +kernel
theorem dl_423 : decode code 423 = .ok (.aload_n 0, 1) := by decide +kernel
theorem dl_424 : decode code 424 = .ok (.iload_n 3, 1) := by decide +kernel
theorem dl_425 : decode code 425 = .ok (.iconst 1, 1) := by decide +kernel
theorem dl_426 : decode code 426 = .ok (.iadd, 1) := by decide +kernel
theorem dl_427 : decode code 427 = .ok (.iaload, 1) := by decide +kernel
theorem dl_428 : decode code 428 = .ok (.invokevirtual 61, 3) := by decide +kernel
theorem dl_431 : decode code 431 = .ok (.pop, 1) := by decide +kernel
theorem dl_432 : decode code 432 = .ok (.goto 183, 3) := by decide +kernel
theorem dl_435 : decode code 435 = .ok (.aload_n 1, 1) := by decide +kernel
theorem dl_436 : decode code 436 = .ok (.invokevirtual 62, 3) := by decide +kernel
theorem dl_439 : decode code 439 = .ok (.aload_n 2, 1) := by decide +kernel
theorem dl_440 : decode code 440 = .ok (.invokevirtual 65, 3) := by decide +kernel
theorem dl_443 : decode code 443 = .ok (.if_icmp .eq 172, 3) := by decide +kernel
theorem dl_448 : decode code 448 = .ok (.aload_n 1, 1) := by decide +kernel
theorem dl_449 : decode code 449 = .ok (.aload_n 0, 1) := by decide +kernel
theorem dl_450 : decode code 450 = .ok (.iload_n 3, 1) := by decide +kernel
theorem dl_451 : decode code 451 = .ok (.iconst 1, 1) := by decide +kernel
theorem dl_452 : decode code 452 = .ok (.iadd, 1) := by decide +kernel
theorem dl_453 : decode code 453 = .ok (.iaload, 1) := by decide +kernel
theorem dl_454 : decode code 454 = .ok (.invokevirtual 66, 3) := by decide +kernel
theorem dl_457 : decode code 457 = .ok (.pop, 1) := by decide +kernel
theorem dl_458 : decode code 458 = .ok (.aload_n 2, 1) := by decide +kernel
theorem dl_459 : decode code 459 = .ok (.aload_n 0, 1) := by decide +kernel
theorem dl_460 : decode code 460 = .ok (.iload_n 3, 1) := by decide +kernel
theorem dl_461 : decode code 461 = .ok (.iconst 1, 1) := by decide +kernel
theorem dl_462 : decode code 462 = .ok (.iadd, 1) := by decide +kernel
theorem dl_463 : decode code 463 = .ok (.iaload, 1) := by decide +kernel
theorem dl_464 : decode code 464 = .ok (.invokevirtual 69, 3) := by decide +kernel
theorem dl_467 : decode code 467 = .ok (.pop, 1) := by decide +kernel
theorem dl_468 : decode code 468 = .ok (.goto 147, 3) := by decide +kernel
theorem dl_471 : decode code 471 = .ok (.aload_n 1, 1) := by decide +kernel
theorem dl_472 : decode code 472 = .ok (.aload_n 0, 1) := by decide +kernel
theorem dl_473 : decode code 473 = .ok (.iload_n 3, 1) := by decide +kernel
theorem dl_474 : decode code 474 = .ok (.iconst 1, 1) := by decide +kernel
theorem dl_475 : decode code 475 = .ok (.iadd, 1) := by decide +kernel
theorem dl_476 : decode code 476 = .ok (.iaload, 1) := by decide +kernel
theorem dl_477 : decode code 477 = .ok (.invokevirtual 70, 3) := by decide +kernel
theorem dl_480 : decode code 480 = .ok (.pop, 1) := by decide +kernel
theorem dl_481 : decode code 481 = .ok (.aload_n 2, 1) := by decide +kernel
theorem dl_482 : decode code 482 = .ok (.aload_n 0, 1) := by decide +kernel
theorem dl_483 : decode code 483 = .ok (.iload_n 3, 1) := by decide +kernel
theorem dl_484 : decode code 484 = .ok (.iconst 1, 1) := by decide +kernel
theorem dl_485 : decode code 485 = .ok (.iadd, 1) := by decide +kernel
theorem dl_486 : decode code 486 = .ok (.iaload, 1) := by decide +kernel
theorem dl_487 : decode code 487 = .ok (.invokevirtual 73, 3) := by decide +kernel
theorem dl_490 : decode code 490 = .ok (.pop, 1) := by decide +kernel
theorem dl_491 : decode code 491 = .ok (.goto 124, 3) := by decide +kernel
theorem dl_494 : decode code 494 = .ok (.aload_n 1, 1) := by decide +kernel
theorem dl_495 : decode code 495 = .ok (.invokevirtual 74, 3) := by decide +kernel
theorem dl_498 : decode code 498 = .ok (.pop, 1) := by decide +kernel
theorem dl_499 : decode code 499 = .ok (.aload_n 2, 1) := by decide +kernel
theorem dl_500 : decode code 500 = .ok (.invokevirtual 77, 3) := by decide +kernel
theorem dl_503 : decode code 503 = .ok (.pop, 1) := by decide +kernel
theorem dl_504 : decode code 504 = .ok (.goto 111, 3) := by decide +kernel
theorem dl_507 : decode code 507 = .ok (.aload_n 1, 1) := by decide +kernel
theorem dl_508 : decode code 508 = .ok (.invokevirtual 78, 3) := by decide +kernel
theorem dl_511 : decode code 511 = .ok (.pop, 1) := by decide +kernel
theorem dl_512 : decode code 512 = .ok (.aload_n 2, 1) := by decide +kernel
theorem dl_513 : decode code 513 = .ok (.invokevirtual 81, 3) := by decide +kernel
theorem dl_516 : decode code 516 = .ok (.pop, 1) := by decide +kernel
theorem dl_517 : decode code 517 = .ok (.goto 98, 3) := by decide +kernel
theorem dl_520 : decode code 520 = .ok (.aload_n 1, 1) := by decide +kernel
theorem dl_521 : decode code 521 = .ok (.aload_n 0, 1) := by decide +kernel
theorem dl_522 : decode code 522 = .ok (.iload_n 3, 1) := by decide +kernel
theorem dl_523 : decode code 523 = .ok (.iconst 1, 1) := by decide +kernel
theorem dl_524 : decode code 524 = .ok (.iadd, 1) := by decide +kernel
theorem dl_525 : decode code 525 = .ok (.iaload, 1) := by decide +kernel
theorem dl_526 : decode code 526 = .ok (.invokevirtual 82, 3) := by decide +kernel
theorem dl_529 : decode code 529 = .ok (.pop, 1) := by decide +kernel
theorem dl_530 : decode code 530 = .ok (.aload_n 2, 1) := by decide +kernel
theorem dl_531 : decode code 531 = .ok (.aload_n 0, 1) := by decide +kernel
theorem dl_532 : decode code 532 = .ok (.iload_n 3, 1) := by decide +kernel
theorem dl_533 : decode code 533 = .ok (.iconst 1, 1) := by decide +kernel
theorem dl_534 : decode code 534 = .ok (.iadd, 1) := by decide +kernel
theorem dl_535 : decode code 535 = .ok (.iaload, 1) := by decide +kernel
theorem dl_536 : decode code 536 = .ok (.invokevirtual 85, 3) := by decide +kernel
theorem dl_539 : decode code 539 = .ok (.pop, 1) := by decide +kernel
theorem dl_540 : decode code 540 = .ok (.goto 75, 3) := by decide +kernel
theorem dl_543 : decode code 543 = .ok (.aload_n 1, 1) := by decide +kernel
theorem dl_544 : decode code 544 = .ok (.invokevirtual 86, 3) := by decide +kernel
theorem dl_547 : decode code 547 = .ok (.pop, 1) := by decide +kernel
theorem dl_548 : decode code 548 = .ok (.aload_n 2, 1) := by decide +kernel
theorem dl_549 : decode code 549 = .ok (.invokevirtual 89, 3) := by decide +kernel
theorem dl_552 : decode code 552 = .ok (.pop, 1) := by decide +kernel
theorem dl_553 : decode code 553 = .ok (.goto 62, 3) := by decide +kernel
theorem dl_556 : decode code 556 = .ok (.aload_n 1, 1) := by decide +kernel
theorem dl_557 : decode code 557 = .ok (.aload_n 0, 1) := by decide +kernel
theorem dl_558 : decode code 558 = .ok (.iload_n 3, 1) := by decide +kernel
theorem dl_559 : decode code 559 = .ok (.iconst 1, 1) := by decide +kernel
theorem dl_560 : decode code 560 = .ok (.iadd, 1) := by decide +kernel
theorem dl_561 : decode code 561 = .ok (.iaload, 1) := by decide +kernel
theorem dl_562 : decode code 562 = .ok (.invokevirtual 90, 3) := by decide +kernel
theorem dl_565 : decode code 565 = .ok (.pop, 1) := by decide +kernel
theorem dl_566 : decode code 566 = .ok (.aload_n 2, 1) := by decide +kernel
theorem dl_567 : decode code 567 = .ok (.aload_n 0, 1) := by decide +kernel
theorem dl_568 : decode code 568 = .ok (.iload_n 3, 1) := by decide +kernel
theorem dl_569 : decode code 569 = .ok (.iconst 1, 1) := by decide +kernel
theorem dl_570 : decode code 570 = .ok (.iadd, 1) := by decide +kernel
theorem dl_571 : decode code 571 = .ok (.iaload, 1) := by decide +kernel
theorem dl_572 : decode code 572 = .ok (.invokevirtual 93, 3) := by decide +kernel
theorem dl_575 : decode code 575 = .ok (.pop, 1) := by decide +kernel
theorem dl_576 : decode code 576 = .ok (.goto 39, 3) := by decide +kernel
theorem dl_579 : decode code 579 = .ok (.aload_n 1, 1) := by decide +kernel
theorem dl_580 : decode code 580 = .ok (.aload_n 0, 1) := by decide +kernel
theorem dl_581 : decode code 581 = .ok (.iload_n 3, 1) := by decide +kernel
theorem dl_582 : decode code 582 = .ok (.iconst 1, 1) := by decide +kernel
theorem dl_583 : decode code 583 = .ok (.iadd, 1) := by decide +kernel
theorem dl_584 : decode code 584 = .ok (.iaload, 1) := by decide +kernel
theorem dl_585 : decode code 585 = .ok (.invokevirtual 94, 3) := by decide +kernel
theorem dl_588 : decode code 588 = .ok (.pop, 1) := by decide +kernel
theorem dl_589 : decode code 589 = .ok (.aload_n 2, 1) := by decide +kernel
theorem dl_590 : decode code 590 = .ok (.aload_n 0, 1) := by decide +kernel
theorem dl_591 : decode code 591 = .ok (.iload_n 3, 1) := by decide +kernel
theorem dl_592 : decode code 592 = .ok (.iconst 1, 1) := by decide +kernel
theorem dl_593 : decode code 593 = .ok (.iadd, 1) := by decide +kernel
theorem dl_594 : decode code 594 = .ok (.iaload, 1) := by decide +kernel
theorem dl_595 : decode code 595 = .ok (.invokevirtual 97, 3) := by decide +kernel
theorem dl_598 : decode code 598 = .ok (.pop, 1) := by decide +kernel
theorem dl_599 : decode code 599 = .ok (.goto 16, 3) := by decide +kernel
theorem dl_602 : decode code 602 = .ok (.aload_n 1, 1) := by decide +kernel
theorem dl_603 : decode code 603 = .ok (.invokevirtual 98, 3) := by decide +kernel
theorem dl_606 : decode code 606 = .ok (.pop, 1) := by decide +kernel
theorem dl_607 : decode code 607 = .ok (.aload_n 2, 1) := by decide +kernel
theorem dl_608 : decode code 608 = .ok (.invokevirtual 101, 3) := by decide +kernel
theorem dl_611 : decode code 611 = .ok (.pop, 1) := by decide +kernel
theorem dl_612 : decode code 612 = .ok (.goto 3, 3) := by decide +kernel
theorem dl_615 : decode code 615 = .ok (.iinc 3 6, 3) := by decide +kernel
theorem dl_618 : decode code 618 = .ok (.goto (-600), 3) := by decide +kernel
theorem dl_621 : decode code 621 = .ok (.iconst 1, 1) := by decide +kernel
theorem dl_622 : decode code 622 = .ok (.ireturn, 1) := by decide +kernel
def LIv (n : Nat) (σc σm τ : St) (vs : List Nat) : Prop := (∃ o, IVx σc o) ∧ GLI σm τ vs ∧ (σm 0 2).toInt ≤ 20 * (n : Int) ∧ RLg σc σm
theorem lw_nn {n : Nat} (h : n < 2 ^ 31) : (nI n).toNatClampNeg = n := by rw [nt', nI_toInt h]; rfl
theorem lw_up {n : Nat} {σc σm τ : St} {vs : List Nat} (h1 : ∃ o, IVx σc o) (h2 : GLI σm τ vs) (h5 : (σm 0 2).toInt ≤ 20 * (n : Int)) (h6 : RLg σc σm) : LIv (n + 1) σc σm τ vs := ⟨h1, h2, by have : ((n + 1 : Nat) : Int) = (n : Int) + 1 := rfl; omega, h6⟩
theorem lw_c1 {n : Nat} (h : n ≤ CAP) : 620 + n + (CAP - 0) ≤ 601024 := by unfold CAP at *; omega
theorem lw_s1 {n : Nat} (h : n ≤ CAP) : 2350875 + 9 * n + 9 * (CAP - 0) ≤ 7293034 := by unfold CAP at *; omega
theorem lw_c2 {n : Nat} (h : n ≤ CAP) : 620 + n + (CAP - n) ≤ 601024 := by unfold CAP at *; omega
theorem lw_s2 {n : Nat} (h : n ≤ CAP) : 2350875 + 9 * n + 9 * (CAP - n) ≤ 7293034 := by unfold CAP at *; omega
theorem lw_fd {σ τ : St} {vs : List Nat} (h : GLI σ τ vs) : 0 ≤ (σ 0 2).toInt := by
  obtain ⟨⟨h1, -, h3, -⟩, -⟩ := h
  omega
theorem keep_at {fs : List (Nat × Nat)} {cs : List Nat} {a b : St} (h : Keep fs cs a b) (c k : Nat) (h0 : nop c = true) (h1 : fs.contains (c, k) = false) (h2 : cs.contains c = false) : (b c k).toInt = (a c k).toInt := by rw [h c k h0 h1 h2]
def R_law : String := "LinkedUnitsLaw"
def lw_P (b : Addr) (xs : List Int32) (args : Array Value) (s : State) : Prop := args = #[.ref b] ∧ s.IntsAt b xs ∧ xs.length ≤ 3072 ∧ (Jvm.Cond.and given_1 narrow_1).before args s = true
def lw_Q (_ : Array Value) (s : State) (o : Outcome) (t : State) : Prop := o = .returned (some (.int 1)) ∧ Framed s o t [] 601024 7293034
def lw_Z (below : List Frame) (a : Array Value) (s : State) : State → Prop := fun t => ∃ o, t.status = .running ∧ Ended t below o ∧ lw_Q a s o t
/-- the law's own end, with 1 on the stack, nothing written that was there before, its room as the claim has it -/
theorem lw_ret {p : Program} {l : Launch} {e : Env} {s : State} {m : MethodId} {below : List Frame} {meth : Method} {c : Code} {b : Nat} (hx : p.tables.exec = Jvm.exec) (hb : c.code = code) (hr : meth.sig.returnType = ret) (hlocks : meth.locks = false) {pc : Nat} {H : Heap} {ls : Array Slot} (hdg : decode code pc = .ok (.ireturn, 1)) : W p l e room_1 s m #[Value.ref b] below meth c H [] 601024 7293034 (lw_Z below #[Value.ref b] s) (F0 m pc ls [.int 1]) := by
  intro T hT X
  obtain ⟨fs, hret, hrun, hended, hW, hframe⟩ := X.leave (v := some (.int 1)) (hlocks := hlocks) (fun h => by rw [hr] at h; cases h)
  have hmeth' : T.vm.method? m = some meth := X.method'
  refine ⟨T.setFrames fs, ?_, .returned (some (.int 1)), hrun, hended, rfl, ⟨_, rfl⟩, hW, hframe⟩
  jvm_step X.here [X.here.top, hx, hb, hdg, hmeth', hr, ret, narrow_b1]
  (try refine ⟨rfl, ?_⟩); (try refine ⟨rfl, ?_⟩)
  first | (intro acts; rw [hret _ acts rfl rfl rfl]) | rw [hret _ _ rfl rfl rfl]
  exact Steps.refl _
/-- what holds at the law's entry: the machine, the code, the tables' words (any of lw_tbl by 'hts w (by decide +kernel)'), the script of L ints xs at the cell b, what the Statement gives of the start (any of its parts by flat_of_before) -/
def lw_At (p : Program) (s : State) (m : MethodId) (meth : Method) (c : Code) (b L : Nat) (xs : Nat → Int32) : Prop :=
  p.tables.exec = Jvm.exec ∧ c.code = code ∧ meth.sig.returnType = ret ∧ c.maxLocals = 4 ∧ s.vm.findClass R_law = some m.cls ∧ (∀ w ∈ lw_tbl, w.before #[Value.ref b] s = true) ∧ va_X b L xs s s.heap ∧ b < s.heap.size ∧ meth.locks = false ∧ (Jvm.Cond.and given_1 narrow_1).before #[Value.ref b] s = true
