theorem d_X3_init_26 : decode b_X3_init 26 = .ok (.newarray .int, 2) := by decide +kernel
theorem d_X3_init_28 : decode b_X3_init 28 = .ok (.putfield 18, 3) := by decide +kernel
theorem d_X3_init_31 : decode b_X3_init 31 = .ok (.aload_n 0, 1) := by decide +kernel
theorem d_X3_init_32 : decode b_X3_init 32 = .ok (.sipush 32100, 3) := by decide +kernel
theorem d_X3_init_35 : decode b_X3_init 35 = .ok (.newarray .int, 2) := by decide +kernel
theorem d_X3_init_37 : decode b_X3_init 37 = .ok (.putfield 21, 3) := by decide +kernel
theorem d_X3_init_40 : decode b_X3_init 40 = .ok (.aload_n 0, 1) := by decide +kernel
theorem d_X3_init_41 : decode b_X3_init 41 = .ok (.sipush 400, 3) := by decide +kernel
theorem d_X3_init_44 : decode b_X3_init 44 = .ok (.newarray .int, 2) := by decide +kernel
theorem d_X3_init_46 : decode b_X3_init 46 = .ok (.putfield 24, 3) := by decide +kernel
theorem d_X3_init_49 : decode b_X3_init 49 = .ok (.aload_n 0, 1) := by decide +kernel
theorem d_X3_init_50 : decode b_X3_init 50 = .ok (.bipush 8, 2) := by decide +kernel
theorem d_X3_init_52 : decode b_X3_init 52 = .ok (.newarray .int, 2) := by decide +kernel
theorem d_X3_init_54 : decode b_X3_init 54 = .ok (.putfield 27, 3) := by decide +kernel
theorem d_X3_init_57 : decode b_X3_init 57 = .ok (.aload_n 0, 1) := by decide +kernel
theorem d_X3_init_58 : decode b_X3_init 58 = .ok (.aload_n 1, 1) := by decide +kernel
theorem d_X3_init_59 : decode b_X3_init 59 = .ok (.putfield 30, 3) := by decide +kernel
theorem d_X3_init_62 : decode b_X3_init 62 = .ok (.return_, 1) := by decide +kernel
theorem d_X0_init_0 : decode b_X0_init 0 = .ok (.aload_n 0, 1) := by decide +kernel
theorem d_X0_init_1 : decode b_X0_init 1 = .ok (.invokespecial 7, 3) := by decide +kernel
theorem d_X0_init_4 : decode b_X0_init 4 = .ok (.aload_n 0, 1) := by decide +kernel
theorem d_X0_init_5 : decode b_X0_init 5 = .ok (.ldc 13, 2) := by decide +kernel
theorem d_X0_init_7 : decode b_X0_init 7 = .ok (.newarray .int, 2) := by decide +kernel
theorem d_X0_init_9 : decode b_X0_init 9 = .ok (.putfield 14, 3) := by decide +kernel
theorem d_X0_init_12 : decode b_X0_init 12 = .ok (.aload_n 0, 1) := by decide +kernel
theorem d_X0_init_13 : decode b_X0_init 13 = .ok (.iconst 0, 1) := by decide +kernel
theorem d_X0_init_14 : decode b_X0_init 14 = .ok (.putfield 18, 3) := by decide +kernel
theorem d_X0_init_17 : decode b_X0_init 17 = .ok (.return_, 1) := by decide +kernel
theorem d_X8_init_0 : decode b_X8_init 0 = .ok (.aload_n 0, 1) := by decide +kernel
theorem d_X8_init_1 : decode b_X8_init 1 = .ok (.invokespecial 3, 3) := by decide +kernel
theorem d_X8_init_4 : decode b_X8_init 4 = .ok (.aload_n 0, 1) := by decide +kernel
theorem d_X8_init_5 : decode b_X8_init 5 = .ok (.iconst 0, 1) := by decide +kernel
theorem d_X8_init_6 : decode b_X8_init 6 = .ok (.putfield 9, 3) := by decide +kernel
theorem d_X8_init_9 : decode b_X8_init 9 = .ok (.aload_n 0, 1) := by decide +kernel
theorem d_X8_init_10 : decode b_X8_init 10 = .ok (.sipush 10100, 3) := by decide +kernel
theorem d_X8_init_13 : decode b_X8_init 13 = .ok (.newarray .int, 2) := by decide +kernel
theorem d_X8_init_15 : decode b_X8_init 15 = .ok (.putfield 15, 3) := by decide +kernel
theorem d_X8_init_18 : decode b_X8_init 18 = .ok (.aload_n 0, 1) := by decide +kernel
theorem d_X8_init_19 : decode b_X8_init 19 = .ok (.sipush 10100, 3) := by decide +kernel
theorem d_X8_init_22 : decode b_X8_init 22 = .ok (.newarray .int, 2) := by decide +kernel
theorem d_X8_init_24 : decode b_X8_init 24 = .ok (.putfield 19, 3) := by decide +kernel
theorem d_X8_init_27 : decode b_X8_init 27 = .ok (.aload_n 0, 1) := by decide +kernel
theorem d_X8_init_28 : decode b_X8_init 28 = .ok (.sipush 10100, 3) := by decide +kernel
theorem d_X8_init_31 : decode b_X8_init 31 = .ok (.newarray .int, 2) := by decide +kernel
theorem d_X8_init_33 : decode b_X8_init 33 = .ok (.putfield 22, 3) := by decide +kernel
theorem d_X8_init_36 : decode b_X8_init 36 = .ok (.aload_n 0, 1) := by decide +kernel
theorem d_X8_init_37 : decode b_X8_init 37 = .ok (.sipush 10100, 3) := by decide +kernel
theorem d_X8_init_40 : decode b_X8_init 40 = .ok (.newarray .int, 2) := by decide +kernel
theorem d_X8_init_42 : decode b_X8_init 42 = .ok (.putfield 25, 3) := by decide +kernel
theorem d_X8_init_45 : decode b_X8_init 45 = .ok (.aload_n 0, 1) := by decide +kernel
theorem d_X8_init_46 : decode b_X8_init 46 = .ok (.sipush 10100, 3) := by decide +kernel
theorem d_X8_init_49 : decode b_X8_init 49 = .ok (.newarray .int, 2) := by decide +kernel
theorem d_X8_init_51 : decode b_X8_init 51 = .ok (.putfield 28, 3) := by decide +kernel
theorem d_X8_init_54 : decode b_X8_init 54 = .ok (.aload_n 0, 1) := by decide +kernel
theorem d_X8_init_55 : decode b_X8_init 55 = .ok (.iconst 0, 1) := by decide +kernel
theorem d_X8_init_56 : decode b_X8_init 56 = .ok (.putfield 31, 3) := by decide +kernel
theorem d_X8_init_59 : decode b_X8_init 59 = .ok (.aload_n 0, 1) := by decide +kernel
theorem d_X8_init_60 : decode b_X8_init 60 = .ok (.ldc 34, 2) := by decide +kernel
theorem d_X8_init_62 : decode b_X8_init 62 = .ok (.newarray .byte, 2) := by decide +kernel
theorem d_X8_init_64 : decode b_X8_init 64 = .ok (.putfield 35, 3) := by decide +kernel
theorem d_X8_init_67 : decode b_X8_init 67 = .ok (.aload_n 0, 1) := by decide +kernel
theorem d_X8_init_68 : decode b_X8_init 68 = .ok (.iconst 0, 1) := by decide +kernel
theorem d_X8_init_69 : decode b_X8_init 69 = .ok (.putfield 39, 3) := by decide +kernel
theorem d_X8_init_72 : decode b_X8_init 72 = .ok (.aload_n 0, 1) := by decide +kernel
theorem d_X8_init_73 : decode b_X8_init 73 = .ok (.ldc 42, 2) := by decide +kernel
theorem d_X8_init_75 : decode b_X8_init 75 = .ok (.newarray .int, 2) := by decide +kernel
theorem d_X8_init_77 : decode b_X8_init 77 = .ok (.putfield 43, 3) := by decide +kernel
theorem d_X8_init_80 : decode b_X8_init 80 = .ok (.aload_n 0, 1) := by decide +kernel
theorem d_X8_init_81 : decode b_X8_init 81 = .ok (.ldc 42, 2) := by decide +kernel
theorem d_X8_init_83 : decode b_X8_init 83 = .ok (.newarray .int, 2) := by decide +kernel
theorem d_X8_init_85 : decode b_X8_init 85 = .ok (.putfield 46, 3) := by decide +kernel
theorem d_X8_init_88 : decode b_X8_init 88 = .ok (.aload_n 0, 1) := by decide +kernel
theorem d_X8_init_89 : decode b_X8_init 89 = .ok (.ldc 42, 2) := by decide +kernel
theorem d_X8_init_91 : decode b_X8_init 91 = .ok (.newarray .int, 2) := by decide +kernel
theorem d_X8_init_93 : decode b_X8_init 93 = .ok (.putfield 49, 3) := by decide +kernel
theorem d_X8_init_96 : decode b_X8_init 96 = .ok (.aload_n 0, 1) := by decide +kernel
theorem d_X8_init_97 : decode b_X8_init 97 = .ok (.iconst 0, 1) := by decide +kernel
theorem d_X8_init_98 : decode b_X8_init 98 = .ok (.putfield 52, 3) := by decide +kernel
theorem d_X8_init_101 : decode b_X8_init 101 = .ok (.aload_n 0, 1) := by decide +kernel
theorem d_X8_init_102 : decode b_X8_init 102 = .ok (.bipush 101, 2) := by decide +kernel
theorem d_X8_init_104 : decode b_X8_init 104 = .ok (.newarray .int, 2) := by decide +kernel
theorem d_X8_init_106 : decode b_X8_init 106 = .ok (.putfield 55, 3) := by decide +kernel
theorem d_X8_init_109 : decode b_X8_init 109 = .ok (.aload_n 0, 1) := by decide +kernel
theorem d_X8_init_110 : decode b_X8_init 110 = .ok (.bipush 101, 2) := by decide +kernel
theorem d_X8_init_112 : decode b_X8_init 112 = .ok (.newarray .int, 2) := by decide +kernel
theorem d_X8_init_114 : decode b_X8_init 114 = .ok (.putfield 58, 3) := by decide +kernel
theorem d_X8_init_117 : decode b_X8_init 117 = .ok (.aload_n 0, 1) := by decide +kernel
theorem d_X8_init_118 : decode b_X8_init 118 = .ok (.bipush 101, 2) := by decide +kernel
theorem d_X8_init_120 : decode b_X8_init 120 = .ok (.newarray .int, 2) := by decide +kernel
theorem d_X8_init_122 : decode b_X8_init 122 = .ok (.putfield 61, 3) := by decide +kernel
theorem d_X8_init_125 : decode b_X8_init 125 = .ok (.aload_n 0, 1) := by decide +kernel
theorem d_X8_init_126 : decode b_X8_init 126 = .ok (.bipush 101, 2) := by decide +kernel
theorem d_X8_init_128 : decode b_X8_init 128 = .ok (.newarray .int, 2) := by decide +kernel
theorem d_X8_init_130 : decode b_X8_init 130 = .ok (.putfield 64, 3) := by decide +kernel
theorem d_X8_init_133 : decode b_X8_init 133 = .ok (.aload_n 0, 1) := by decide +kernel
theorem d_X8_init_134 : decode b_X8_init 134 = .ok (.aload_n 1, 1) := by decide +kernel
theorem d_X8_init_135 : decode b_X8_init 135 = .ok (.putfield 67, 3) := by decide +kernel
theorem d_X8_init_138 : decode b_X8_init 138 = .ok (.iconst 0, 1) := by decide +kernel
theorem d_X8_init_139 : decode b_X8_init 139 = .ok (.istore_n 2, 1) := by decide +kernel
theorem d_X8_init_140 : decode b_X8_init 140 = .ok (.iload_n 2, 1) := by decide +kernel
theorem d_X8_init_141 : decode b_X8_init 141 = .ok (.ldc 71, 2) := by decide +kernel
theorem d_X8_init_143 : decode b_X8_init 143 = .ok (.invokevirtual 73, 3) := by decide +kernel
theorem d_X8_init_146 : decode b_X8_init 146 = .ok (.if_icmp .ge 140, 3) := by decide +kernel
theorem d_X8_init_149 : decode b_X8_init 149 = .ok (.ldc 71, 2) := by decide +kernel
theorem d_X8_init_151 : decode b_X8_init 151 = .ok (.iload_n 2, 1) := by decide +kernel
theorem d_X8_init_152 : decode b_X8_init 152 = .ok (.invokevirtual 79, 3) := by decide +kernel
theorem d_X8_init_155 : decode b_X8_init 155 = .ok (.bipush 32, 2) := by decide +kernel
theorem d_X8_init_157 : decode b_X8_init 157 = .ok (.if_icmp .eq 32, 3) := by decide +kernel
theorem d_X8_init_160 : decode b_X8_init 160 = .ok (.aload_n 0, 1) := by decide +kernel
theorem d_X8_init_161 : decode b_X8_init 161 = .ok (.getfield 35, 3) := by decide +kernel
theorem d_X8_init_164 : decode b_X8_init 164 = .ok (.aload_n 0, 1) := by decide +kernel
theorem d_X8_init_165 : decode b_X8_init 165 = .ok (.getfield 31, 3) := by decide +kernel
theorem d_X8_init_168 : decode b_X8_init 168 = .ok (.ldc 71, 2) := by decide +kernel
theorem d_X8_init_170 : decode b_X8_init 170 = .ok (.iload_n 2, 1) := by decide +kernel
theorem d_X8_init_171 : decode b_X8_init 171 = .ok (.invokevirtual 79, 3) := by decide +kernel
theorem d_X8_init_174 : decode b_X8_init 174 = .ok (.i2b, 1) := by decide +kernel
theorem d_X8_init_175 : decode b_X8_init 175 = .ok (.bastore, 1) := by decide +kernel
theorem d_X8_init_176 : decode b_X8_init 176 = .ok (.aload_n 0, 1) := by decide +kernel
theorem d_X8_init_177 : decode b_X8_init 177 = .ok (.dup, 1) := by decide +kernel
theorem d_X8_init_178 : decode b_X8_init 178 = .ok (.getfield 31, 3) := by decide +kernel
theorem d_X8_init_181 : decode b_X8_init 181 = .ok (.iconst 1, 1) := by decide +kernel
theorem d_X8_init_182 : decode b_X8_init 182 = .ok (.iadd, 1) := by decide +kernel
theorem d_X8_init_183 : decode b_X8_init 183 = .ok (.putfield 31, 3) := by decide +kernel
theorem d_X8_init_186 : decode b_X8_init 186 = .ok (.goto 94, 3) := by decide +kernel
theorem d_X8_init_189 : decode b_X8_init 189 = .ok (.aload_n 0, 1) := by decide +kernel
theorem d_X8_init_190 : decode b_X8_init 190 = .ok (.getfield 15, 3) := by decide +kernel
theorem d_X8_init_193 : decode b_X8_init 193 = .ok (.aload_n 0, 1) := by decide +kernel
theorem d_X8_init_194 : decode b_X8_init 194 = .ok (.getfield 9, 3) := by decide +kernel
theorem d_X8_init_197 : decode b_X8_init 197 = .ok (.iconst 5, 1) := by decide +kernel
theorem d_X8_init_198 : decode b_X8_init 198 = .ok (.iastore, 1) := by decide +kernel
theorem d_X8_init_199 : decode b_X8_init 199 = .ok (.aload_n 0, 1) := by decide +kernel
theorem d_X8_init_200 : decode b_X8_init 200 = .ok (.getfield 19, 3) := by decide +kernel
theorem d_X8_init_203 : decode b_X8_init 203 = .ok (.aload_n 0, 1) := by decide +kernel
theorem d_X8_init_204 : decode b_X8_init 204 = .ok (.getfield 9, 3) := by decide +kernel
theorem d_X8_init_207 : decode b_X8_init 207 = .ok (.aload_n 0, 1) := by decide +kernel
theorem d_X8_init_208 : decode b_X8_init 208 = .ok (.getfield 9, 3) := by decide +kernel
theorem d_X8_init_211 : decode b_X8_init 211 = .ok (.ifCond .ne 7, 3) := by decide +kernel
theorem d_X8_init_214 : decode b_X8_init 214 = .ok (.iconst 0, 1) := by decide +kernel
theorem d_X8_init_215 : decode b_X8_init 215 = .ok (.goto 4, 3) := by decide +kernel
theorem d_X8_init_218 : decode b_X8_init 218 = .ok (.iconst (-1), 1) := by decide +kernel
theorem d_X8_init_219 : decode b_X8_init 219 = .ok (.iastore, 1) := by decide +kernel
theorem d_X8_init_220 : decode b_X8_init 220 = .ok (.aload_n 0, 1) := by decide +kernel
theorem d_X8_init_221 : decode b_X8_init 221 = .ok (.getfield 22, 3) := by decide +kernel
theorem d_X8_init_224 : decode b_X8_init 224 = .ok (.aload_n 0, 1) := by decide +kernel
theorem d_X8_init_225 : decode b_X8_init 225 = .ok (.getfield 9, 3) := by decide +kernel
theorem d_X8_init_228 : decode b_X8_init 228 = .ok (.aload_n 0, 1) := by decide +kernel
theorem d_X8_init_229 : decode b_X8_init 229 = .ok (.getfield 9, 3) := by decide +kernel
theorem d_X8_init_232 : decode b_X8_init 232 = .ok (.ifCond .ne 7, 3) := by decide +kernel
theorem d_X8_init_235 : decode b_X8_init 235 = .ok (.iconst 0, 1) := by decide +kernel
theorem d_X8_init_236 : decode b_X8_init 236 = .ok (.goto 5, 3) := by decide +kernel
theorem d_X8_init_239 : decode b_X8_init 239 = .ok (.ldc 83, 2) := by decide +kernel
theorem d_X8_init_241 : decode b_X8_init 241 = .ok (.iastore, 1) := by decide +kernel
theorem d_X8_init_242 : decode b_X8_init 242 = .ok (.aload_n 0, 1) := by decide +kernel
theorem d_X8_init_243 : decode b_X8_init 243 = .ok (.getfield 25, 3) := by decide +kernel
theorem d_X8_init_246 : decode b_X8_init 246 = .ok (.aload_n 0, 1) := by decide +kernel
theorem d_X8_init_247 : decode b_X8_init 247 = .ok (.getfield 9, 3) := by decide +kernel
theorem d_X8_init_250 : decode b_X8_init 250 = .ok (.iconst (-1), 1) := by decide +kernel
theorem d_X8_init_251 : decode b_X8_init 251 = .ok (.aload_n 0, 1) := by decide +kernel
theorem d_X8_init_252 : decode b_X8_init 252 = .ok (.getfield 9, 3) := by decide +kernel
theorem d_X8_init_255 : decode b_X8_init 255 = .ok (.isub, 1) := by decide +kernel
theorem d_X8_init_256 : decode b_X8_init 256 = .ok (.iastore, 1) := by decide +kernel
theorem d_X8_init_257 : decode b_X8_init 257 = .ok (.aload_n 0, 1) := by decide +kernel
theorem d_X8_init_258 : decode b_X8_init 258 = .ok (.getfield 28, 3) := by decide +kernel
theorem d_X8_init_261 : decode b_X8_init 261 = .ok (.aload_n 0, 1) := by decide +kernel
theorem d_X8_init_262 : decode b_X8_init 262 = .ok (.getfield 9, 3) := by decide +kernel
theorem d_X8_init_265 : decode b_X8_init 265 = .ok (.aload_n 0, 1) := by decide +kernel
theorem d_X8_init_266 : decode b_X8_init 266 = .ok (.getfield 31, 3) := by decide +kernel
theorem d_X8_init_269 : decode b_X8_init 269 = .ok (.iastore, 1) := by decide +kernel
theorem d_X8_init_270 : decode b_X8_init 270 = .ok (.aload_n 0, 1) := by decide +kernel
theorem d_X8_init_271 : decode b_X8_init 271 = .ok (.dup, 1) := by decide +kernel
theorem d_X8_init_272 : decode b_X8_init 272 = .ok (.getfield 9, 3) := by decide +kernel
theorem d_X8_init_275 : decode b_X8_init 275 = .ok (.iconst 1, 1) := by decide +kernel
theorem d_X8_init_276 : decode b_X8_init 276 = .ok (.iadd, 1) := by decide +kernel
theorem d_X8_init_277 : decode b_X8_init 277 = .ok (.putfield 9, 3) := by decide +kernel
theorem d_X8_init_280 : decode b_X8_init 280 = .ok (.iinc 2 1, 3) := by decide +kernel
theorem d_X8_init_283 : decode b_X8_init 283 = .ok (.goto (-143), 3) := by decide +kernel
theorem d_X8_init_286 : decode b_X8_init 286 = .ok (.aload_n 0, 1) := by decide +kernel
theorem d_X8_init_287 : decode b_X8_init 287 = .ok (.getfield 55, 3) := by decide +kernel
theorem d_X8_init_290 : decode b_X8_init 290 = .ok (.iconst 0, 1) := by decide +kernel
theorem d_X8_init_291 : decode b_X8_init 291 = .ok (.aload_n 0, 1) := by decide +kernel
theorem d_X8_init_292 : decode b_X8_init 292 = .ok (.getfield 9, 3) := by decide +kernel
theorem d_X8_init_295 : decode b_X8_init 295 = .ok (.iastore, 1) := by decide +kernel
theorem d_X8_init_296 : decode b_X8_init 296 = .ok (.return_, 1) := by decide +kernel
theorem d_X11_init_0 : decode b_X11_init 0 = .ok (.aload_n 0, 1) := by decide +kernel
theorem d_X11_init_1 : decode b_X11_init 1 = .ok (.invokespecial 3, 3) := by decide +kernel
theorem d_X11_init_4 : decode b_X11_init 4 = .ok (.aload_n 0, 1) := by decide +kernel
theorem d_X11_init_5 : decode b_X11_init 5 = .ok (.bipush 100, 2) := by decide +kernel
theorem d_X11_init_7 : decode b_X11_init 7 = .ok (.newarray .int, 2) := by decide +kernel
theorem d_X11_init_9 : decode b_X11_init 9 = .ok (.putfield 9, 3) := by decide +kernel
theorem d_X11_init_12 : decode b_X11_init 12 = .ok (.aload_n 0, 1) := by decide +kernel
theorem d_X11_init_13 : decode b_X11_init 13 = .ok (.bipush 100, 2) := by decide +kernel
theorem d_X11_init_15 : decode b_X11_init 15 = .ok (.newarray .int, 2) := by decide +kernel
theorem d_X11_init_17 : decode b_X11_init 17 = .ok (.putfield 15, 3) := by decide +kernel
theorem d_X11_init_20 : decode b_X11_init 20 = .ok (.aload_n 0, 1) := by decide +kernel
theorem d_X11_init_21 : decode b_X11_init 21 = .ok (.bipush 100, 2) := by decide +kernel
theorem d_X11_init_23 : decode b_X11_init 23 = .ok (.newarray .int, 2) := by decide +kernel
theorem d_X11_init_25 : decode b_X11_init 25 = .ok (.putfield 18, 3) := by decide +kernel
theorem d_X11_init_28 : decode b_X11_init 28 = .ok (.aload_n 0, 1) := by decide +kernel
theorem d_X11_init_29 : decode b_X11_init 29 = .ok (.bipush 100, 2) := by decide +kernel
theorem d_X11_init_31 : decode b_X11_init 31 = .ok (.newarray .int, 2) := by decide +kernel
theorem d_X11_init_33 : decode b_X11_init 33 = .ok (.putfield 21, 3) := by decide +kernel
theorem d_X11_init_36 : decode b_X11_init 36 = .ok (.aload_n 0, 1) := by decide +kernel
theorem d_X11_init_37 : decode b_X11_init 37 = .ok (.bipush 100, 2) := by decide +kernel
theorem d_X11_init_39 : decode b_X11_init 39 = .ok (.newarray .int, 2) := by decide +kernel
theorem d_X11_init_41 : decode b_X11_init 41 = .ok (.putfield 24, 3) := by decide +kernel
theorem d_X11_init_44 : decode b_X11_init 44 = .ok (.aload_n 0, 1) := by decide +kernel
theorem d_X11_init_45 : decode b_X11_init 45 = .ok (.bipush 100, 2) := by decide +kernel
theorem d_X11_init_47 : decode b_X11_init 47 = .ok (.newarray .int, 2) := by decide +kernel
theorem d_X11_init_49 : decode b_X11_init 49 = .ok (.putfield 27, 3) := by decide +kernel
theorem d_X11_init_52 : decode b_X11_init 52 = .ok (.aload_n 0, 1) := by decide +kernel
theorem d_X11_init_53 : decode b_X11_init 53 = .ok (.bipush 100, 2) := by decide +kernel
theorem d_X11_init_55 : decode b_X11_init 55 = .ok (.newarray .int, 2) := by decide +kernel
theorem d_X11_init_57 : decode b_X11_init 57 = .ok (.putfield 30, 3) := by decide +kernel
theorem d_X11_init_60 : decode b_X11_init 60 = .ok (.aload_n 0, 1) := by decide +kernel
theorem d_X11_init_61 : decode b_X11_init 61 = .ok (.bipush 52, 2) := by decide +kernel
theorem d_X11_init_63 : decode b_X11_init 63 = .ok (.newarray .int, 2) := by decide +kernel
theorem d_X11_init_65 : decode b_X11_init 65 = .ok (.putfield 33, 3) := by decide +kernel
theorem d_X11_init_68 : decode b_X11_init 68 = .ok (.aload_n 0, 1) := by decide +kernel
theorem d_X11_init_69 : decode b_X11_init 69 = .ok (.aload_n 1, 1) := by decide +kernel
theorem d_X11_init_70 : decode b_X11_init 70 = .ok (.putfield 36, 3) := by decide +kernel
theorem d_X11_init_73 : decode b_X11_init 73 = .ok (.aload_n 0, 1) := by decide +kernel
theorem d_X11_init_74 : decode b_X11_init 74 = .ok (.aload_n 2, 1) := by decide +kernel
theorem d_X11_init_75 : decode b_X11_init 75 = .ok (.putfield 40, 3) := by decide +kernel
theorem d_X11_init_78 : decode b_X11_init 78 = .ok (.return_, 1) := by decide +kernel
theorem d_X2_init_0 : decode b_X2_init 0 = .ok (.aload_n 0, 1) := by decide +kernel
theorem d_X2_init_1 : decode b_X2_init 1 = .ok (.invokespecial 3, 3) := by decide +kernel
theorem d_X2_init_4 : decode b_X2_init 4 = .ok (.aload_n 0, 1) := by decide +kernel
theorem d_X2_init_5 : decode b_X2_init 5 = .ok (.sipush 500, 3) := by decide +kernel
theorem d_X2_init_8 : decode b_X2_init 8 = .ok (.anewarray 11, 3) := by decide +kernel
theorem d_X2_init_11 : decode b_X2_init 11 = .ok (.putfield 13, 3) := by decide +kernel
theorem d_X2_init_14 : decode b_X2_init 14 = .ok (.aload_n 0, 1) := by decide +kernel
theorem d_X2_init_15 : decode b_X2_init 15 = .ok (.new 11, 3) := by decide +kernel
theorem d_X2_init_18 : decode b_X2_init 18 = .ok (.dup, 1) := by decide +kernel
theorem d_X2_init_19 : decode b_X2_init 19 = .ok (.invokespecial 17, 3) := by decide +kernel
theorem d_X2_init_22 : decode b_X2_init 22 = .ok (.putfield 18, 3) := by decide +kernel
theorem d_X2_init_25 : decode b_X2_init 25 = .ok (.aload_n 0, 1) := by decide +kernel
theorem d_X2_init_26 : decode b_X2_init 26 = .ok (.iconst 0, 1) := by decide +kernel
theorem d_X2_init_27 : decode b_X2_init 27 = .ok (.putfield 22, 3) := by decide +kernel
theorem d_X2_init_30 : decode b_X2_init 30 = .ok (.aload_n 0, 1) := by decide +kernel
theorem d_X2_init_31 : decode b_X2_init 31 = .ok (.aload_n 1, 1) := by decide +kernel
theorem d_X2_init_32 : decode b_X2_init 32 = .ok (.putfield 26, 3) := by decide +kernel
theorem d_X2_init_35 : decode b_X2_init 35 = .ok (.aload_n 0, 1) := by decide +kernel
theorem d_X2_init_36 : decode b_X2_init 36 = .ok (.aload_n 2, 1) := by decide +kernel
theorem d_X2_init_37 : decode b_X2_init 37 = .ok (.getfield 30, 3) := by decide +kernel
theorem d_X2_init_40 : decode b_X2_init 40 = .ok (.putfield 36, 3) := by decide +kernel
theorem d_X2_init_43 : decode b_X2_init 43 = .ok (.aload_n 0, 1) := by decide +kernel
theorem d_X2_init_44 : decode b_X2_init 44 = .ok (.aload_n 2, 1) := by decide +kernel
theorem d_X2_init_45 : decode b_X2_init 45 = .ok (.putfield 37, 3) := by decide +kernel
theorem d_X2_init_48 : decode b_X2_init 48 = .ok (.aload_n 0, 1) := by decide +kernel
theorem d_X2_init_49 : decode b_X2_init 49 = .ok (.aload_n 2, 1) := by decide +kernel
theorem d_X2_init_50 : decode b_X2_init 50 = .ok (.getfield 41, 3) := by decide +kernel
theorem d_X2_init_53 : decode b_X2_init 53 = .ok (.putfield 45, 3) := by decide +kernel
theorem d_X2_init_56 : decode b_X2_init 56 = .ok (.aload_n 0, 1) := by decide +kernel
theorem d_X2_init_57 : decode b_X2_init 57 = .ok (.aload_n 3, 1) := by decide +kernel
theorem d_X2_init_58 : decode b_X2_init 58 = .ok (.putfield 46, 3) := by decide +kernel
theorem d_X2_init_61 : decode b_X2_init 61 = .ok (.iconst 0, 1) := by decide +kernel
theorem d_X2_init_62 : decode b_X2_init 62 = .ok (.istore 4, 2) := by decide +kernel
theorem d_X2_init_64 : decode b_X2_init 64 = .ok (.iload 4, 2) := by decide +kernel
theorem d_X2_init_66 : decode b_X2_init 66 = .ok (.aload_n 0, 1) := by decide +kernel
theorem d_X2_init_67 : decode b_X2_init 67 = .ok (.getfield 13, 3) := by decide +kernel
theorem d_X2_init_70 : decode b_X2_init 70 = .ok (.arraylength, 1) := by decide +kernel
theorem d_X2_init_71 : decode b_X2_init 71 = .ok (.if_icmp .ge 23, 3) := by decide +kernel
theorem d_X2_init_74 : decode b_X2_init 74 = .ok (.aload_n 0, 1) := by decide +kernel
theorem d_X2_init_75 : decode b_X2_init 75 = .ok (.getfield 13, 3) := by decide +kernel
theorem d_X2_init_78 : decode b_X2_init 78 = .ok (.iload 4, 2) := by decide +kernel
theorem d_X2_init_80 : decode b_X2_init 80 = .ok (.new 11, 3) := by decide +kernel
theorem d_X2_init_83 : decode b_X2_init 83 = .ok (.dup, 1) := by decide +kernel
theorem d_X2_init_84 : decode b_X2_init 84 = .ok (.invokespecial 17, 3) := by decide +kernel
theorem d_X2_init_87 : decode b_X2_init 87 = .ok (.aastore, 1) := by decide +kernel
theorem d_X2_init_88 : decode b_X2_init 88 = .ok (.iinc 4 1, 3) := by decide +kernel
theorem d_X2_init_91 : decode b_X2_init 91 = .ok (.goto (-27), 3) := by decide +kernel
theorem d_X2_init_94 : decode b_X2_init 94 = .ok (.return_, 1) := by decide +kernel
theorem d_X6_init_0 : decode b_X6_init 0 = .ok (.aload_n 0, 1) := by decide +kernel
theorem d_X6_init_1 : decode b_X6_init 1 = .ok (.invokespecial 3, 3) := by decide +kernel
theorem d_X6_init_4 : decode b_X6_init 4 = .ok (.return_, 1) := by decide +kernel
theorem d_X1_init_0 : decode b_X1_init 0 = .ok (.aload_n 0, 1) := by decide +kernel
theorem d_X1_init_1 : decode b_X1_init 1 = .ok (.invokespecial 3, 3) := by decide +kernel
theorem d_X1_init_4 : decode b_X1_init 4 = .ok (.aload_n 0, 1) := by decide +kernel
theorem d_X1_init_5 : decode b_X1_init 5 = .ok (.bipush 100, 2) := by decide +kernel
theorem d_X1_init_7 : decode b_X1_init 7 = .ok (.newarray .int, 2) := by decide +kernel
theorem d_X1_init_9 : decode b_X1_init 9 = .ok (.putfield 9, 3) := by decide +kernel
theorem d_X1_init_12 : decode b_X1_init 12 = .ok (.aload_n 0, 1) := by decide +kernel
theorem d_X1_init_13 : decode b_X1_init 13 = .ok (.aload_n 1, 1) := by decide +kernel
theorem d_X1_init_14 : decode b_X1_init 14 = .ok (.putfield 15, 3) := by decide +kernel
theorem d_X1_init_17 : decode b_X1_init 17 = .ok (.aload_n 0, 1) := by decide +kernel
theorem d_X1_init_18 : decode b_X1_init 18 = .ok (.aload_n 2, 1) := by decide +kernel
theorem d_X1_init_19 : decode b_X1_init 19 = .ok (.getfield 19, 3) := by decide +kernel
theorem d_X1_init_22 : decode b_X1_init 22 = .ok (.putfield 25, 3) := by decide +kernel
theorem d_X1_init_25 : decode b_X1_init 25 = .ok (.aload_n 0, 1) := by decide +kernel
theorem d_X1_init_26 : decode b_X1_init 26 = .ok (.aload_n 2, 1) := by decide +kernel
theorem d_X1_init_27 : decode b_X1_init 27 = .ok (.putfield 26, 3) := by decide +kernel
theorem d_X1_init_30 : decode b_X1_init 30 = .ok (.aload_n 0, 1) := by decide +kernel
theorem d_X1_init_31 : decode b_X1_init 31 = .ok (.aload_n 2, 1) := by decide +kernel
theorem d_X1_init_32 : decode b_X1_init 32 = .ok (.getfield 30, 3) := by decide +kernel
theorem d_X1_init_35 : decode b_X1_init 35 = .ok (.putfield 34, 3) := by decide +kernel
theorem d_X1_init_38 : decode b_X1_init 38 = .ok (.aload_n 0, 1) := by decide +kernel
theorem d_X1_init_39 : decode b_X1_init 39 = .ok (.aload_n 3, 1) := by decide +kernel
theorem d_X1_init_40 : decode b_X1_init 40 = .ok (.getfield 35, 3) := by decide +kernel
theorem d_X1_init_43 : decode b_X1_init 43 = .ok (.putfield 41, 3) := by decide +kernel
theorem d_X1_init_46 : decode b_X1_init 46 = .ok (.aload_n 0, 1) := by decide +kernel
theorem d_X1_init_47 : decode b_X1_init 47 = .ok (.aload_n 3, 1) := by decide +kernel
theorem d_X1_init_48 : decode b_X1_init 48 = .ok (.putfield 42, 3) := by decide +kernel
theorem d_X1_init_51 : decode b_X1_init 51 = .ok (.return_, 1) := by decide +kernel
theorem d_X7_init_0 : decode b_X7_init 0 = .ok (.aload_n 0, 1) := by decide +kernel
theorem d_X7_init_1 : decode b_X7_init 1 = .ok (.invokespecial 3, 3) := by decide +kernel
theorem d_X7_init_4 : decode b_X7_init 4 = .ok (.aload_n 0, 1) := by decide +kernel
theorem d_X7_init_5 : decode b_X7_init 5 = .ok (.bipush 26, 2) := by decide +kernel
theorem d_X7_init_7 : decode b_X7_init 7 = .ok (.newarray .int, 2) := by decide +kernel
theorem d_X7_init_9 : decode b_X7_init 9 = .ok (.putfield 11, 3) := by decide +kernel
theorem d_X7_init_12 : decode b_X7_init 12 = .ok (.aload_n 0, 1) := by decide +kernel
theorem d_X7_init_13 : decode b_X7_init 13 = .ok (.bipush 26, 2) := by decide +kernel
theorem d_X7_init_15 : decode b_X7_init 15 = .ok (.newarray .int, 2) := by decide +kernel
theorem d_X7_init_17 : decode b_X7_init 17 = .ok (.putfield 15, 3) := by decide +kernel
theorem d_X7_init_20 : decode b_X7_init 20 = .ok (.aload_n 0, 1) := by decide +kernel
theorem d_X7_init_21 : decode b_X7_init 21 = .ok (.bipush 26, 2) := by decide +kernel
theorem d_X7_init_23 : decode b_X7_init 23 = .ok (.newarray .int, 2) := by decide +kernel
theorem d_X7_init_25 : decode b_X7_init 25 = .ok (.putfield 18, 3) := by decide +kernel
theorem d_X7_init_28 : decode b_X7_init 28 = .ok (.aload_n 0, 1) := by decide +kernel
theorem d_X7_init_29 : decode b_X7_init 29 = .ok (.bipush 26, 2) := by decide +kernel
theorem d_X7_init_31 : decode b_X7_init 31 = .ok (.newarray .int, 2) := by decide +kernel
theorem d_X7_init_33 : decode b_X7_init 33 = .ok (.putfield 21, 3) := by decide +kernel
theorem d_X7_init_36 : decode b_X7_init 36 = .ok (.aload_n 0, 1) := by decide +kernel
theorem d_X7_init_37 : decode b_X7_init 37 = .ok (.bipush 26, 2) := by decide +kernel
theorem d_X7_init_39 : decode b_X7_init 39 = .ok (.newarray .int, 2) := by decide +kernel
theorem d_X7_init_41 : decode b_X7_init 41 = .ok (.putfield 24, 3) := by decide +kernel
theorem d_X7_init_44 : decode b_X7_init 44 = .ok (.aload_n 0, 1) := by decide +kernel
theorem d_X7_init_45 : decode b_X7_init 45 = .ok (.bipush 26, 2) := by decide +kernel
theorem d_X7_init_47 : decode b_X7_init 47 = .ok (.newarray .int, 2) := by decide +kernel
theorem d_X7_init_49 : decode b_X7_init 49 = .ok (.putfield 27, 3) := by decide +kernel
theorem d_X7_init_52 : decode b_X7_init 52 = .ok (.aload_n 0, 1) := by decide +kernel
theorem d_X7_init_53 : decode b_X7_init 53 = .ok (.aload_n 1, 1) := by decide +kernel
theorem d_X7_init_54 : decode b_X7_init 54 = .ok (.putfield 30, 3) := by decide +kernel
theorem d_X7_init_57 : decode b_X7_init 57 = .ok (.aload_n 0, 1) := by decide +kernel
theorem d_X7_init_58 : decode b_X7_init 58 = .ok (.aload_n 2, 1) := by decide +kernel
theorem d_X7_init_59 : decode b_X7_init 59 = .ok (.putfield 34, 3) := by decide +kernel
theorem d_X7_init_62 : decode b_X7_init 62 = .ok (.aload_n 0, 1) := by decide +kernel
theorem d_X7_init_63 : decode b_X7_init 63 = .ok (.aload_n 3, 1) := by decide +kernel
theorem d_X7_init_64 : decode b_X7_init 64 = .ok (.getfield 38, 3) := by decide +kernel
theorem d_X7_init_67 : decode b_X7_init 67 = .ok (.putfield 44, 3) := by decide +kernel
theorem d_X7_init_70 : decode b_X7_init 70 = .ok (.aload_n 0, 1) := by decide +kernel
theorem d_X7_init_71 : decode b_X7_init 71 = .ok (.aload_n 3, 1) := by decide +kernel
theorem d_X7_init_72 : decode b_X7_init 72 = .ok (.getfield 45, 3) := by decide +kernel
theorem d_X7_init_75 : decode b_X7_init 75 = .ok (.putfield 49, 3) := by decide +kernel
theorem d_X7_init_78 : decode b_X7_init 78 = .ok (.aload_n 0, 1) := by decide +kernel
theorem d_X7_init_79 : decode b_X7_init 79 = .ok (.aload_n 3, 1) := by decide +kernel
theorem d_X7_init_80 : decode b_X7_init 80 = .ok (.putfield 50, 3) := by decide +kernel
theorem d_X7_init_83 : decode b_X7_init 83 = .ok (.return_, 1) := by decide +kernel
theorem d_X4_init_0 : decode b_X4_init 0 = .ok (.aload_n 0, 1) := by decide +kernel
theorem d_X4_init_1 : decode b_X4_init 1 = .ok (.invokespecial 3, 3) := by decide +kernel
theorem d_X4_init_4 : decode b_X4_init 4 = .ok (.aload_n 0, 1) := by decide +kernel
theorem d_X4_init_5 : decode b_X4_init 5 = .ok (.iconst 4, 1) := by decide +kernel
theorem d_X4_init_6 : decode b_X4_init 6 = .ok (.newarray .byte, 2) := by decide +kernel
theorem d_X4_init_8 : decode b_X4_init 8 = .ok (.putfield 11, 3) := by decide +kernel
theorem d_X4_init_11 : decode b_X4_init 11 = .ok (.aload_n 0, 1) := by decide +kernel
theorem d_X4_init_12 : decode b_X4_init 12 = .ok (.iconst 0, 1) := by decide +kernel
theorem d_X4_init_13 : decode b_X4_init 13 = .ok (.putfield 15, 3) := by decide +kernel
theorem d_X4_init_16 : decode b_X4_init 16 = .ok (.aload_n 0, 1) := by decide +kernel
theorem d_X4_init_17 : decode b_X4_init 17 = .ok (.iconst (-1), 1) := by decide +kernel
theorem d_X4_init_18 : decode b_X4_init 18 = .ok (.putfield 19, 3) := by decide +kernel
theorem d_X4_init_21 : decode b_X4_init 21 = .ok (.aload_n 0, 1) := by decide +kernel
theorem d_X4_init_22 : decode b_X4_init 22 = .ok (.iconst (-1), 1) := by decide +kernel
theorem d_X4_init_23 : decode b_X4_init 23 = .ok (.putfield 23, 3) := by decide +kernel
theorem d_X4_init_26 : decode b_X4_init 26 = .ok (.aload_n 0, 1) := by decide +kernel
theorem d_X4_init_27 : decode b_X4_init 27 = .ok (.iconst 1, 1) := by decide +kernel
theorem d_X4_init_28 : decode b_X4_init 28 = .ok (.putfield 26, 3) := by decide +kernel
theorem d_X4_init_31 : decode b_X4_init 31 = .ok (.aload_n 0, 1) := by decide +kernel
theorem d_X4_init_32 : decode b_X4_init 32 = .ok (.bipush 101, 2) := by decide +kernel
theorem d_X4_init_34 : decode b_X4_init 34 = .ok (.newarray .int, 2) := by decide +kernel
theorem d_X4_init_36 : decode b_X4_init 36 = .ok (.putfield 29, 3) := by decide +kernel
theorem d_X4_init_39 : decode b_X4_init 39 = .ok (.aload_n 0, 1) := by decide +kernel
theorem d_X4_init_40 : decode b_X4_init 40 = .ok (.iconst 0, 1) := by decide +kernel
theorem d_X4_init_41 : decode b_X4_init 41 = .ok (.putfield 33, 3) := by decide +kernel
theorem d_X4_init_44 : decode b_X4_init 44 = .ok (.aload_n 0, 1) := by decide +kernel
theorem d_X4_init_45 : decode b_X4_init 45 = .ok (.bipush 101, 2) := by decide +kernel
theorem d_X4_init_47 : decode b_X4_init 47 = .ok (.newarray .int, 2) := by decide +kernel
theorem d_X4_init_49 : decode b_X4_init 49 = .ok (.putfield 36, 3) := by decide +kernel
theorem d_X4_init_52 : decode b_X4_init 52 = .ok (.aload_n 0, 1) := by decide +kernel
theorem d_X4_init_53 : decode b_X4_init 53 = .ok (.bipush 101, 2) := by decide +kernel
theorem d_X4_init_55 : decode b_X4_init 55 = .ok (.newarray .int, 2) := by decide +kernel
theorem d_X4_init_57 : decode b_X4_init 57 = .ok (.putfield 39, 3) := by decide +kernel
theorem d_X4_init_60 : decode b_X4_init 60 = .ok (.aload_n 0, 1) := by decide +kernel
theorem d_X4_init_61 : decode b_X4_init 61 = .ok (.sipush 10100, 3) := by decide +kernel
theorem d_X4_init_64 : decode b_X4_init 64 = .ok (.newarray .int, 2) := by decide +kernel
theorem d_X4_init_66 : decode b_X4_init 66 = .ok (.putfield 44, 3) := by decide +kernel
theorem d_X4_init_69 : decode b_X4_init 69 = .ok (.aload_n 0, 1) := by decide +kernel
theorem d_X4_init_70 : decode b_X4_init 70 = .ok (.iconst 0, 1) := by decide +kernel
theorem d_X4_init_71 : decode b_X4_init 71 = .ok (.putfield 47, 3) := by decide +kernel
theorem d_X4_init_74 : decode b_X4_init 74 = .ok (.aload_n 0, 1) := by decide +kernel
theorem d_X4_init_75 : decode b_X4_init 75 = .ok (.aload_n 1, 1) := by decide +kernel
theorem d_X4_init_76 : decode b_X4_init 76 = .ok (.putfield 50, 3) := by decide +kernel
theorem d_X4_init_79 : decode b_X4_init 79 = .ok (.aload_n 0, 1) := by decide +kernel
theorem d_X4_init_80 : decode b_X4_init 80 = .ok (.getfield 11, 3) := by decide +kernel
theorem d_X4_init_83 : decode b_X4_init 83 = .ok (.iconst 0, 1) := by decide +kernel
theorem d_X4_init_84 : decode b_X4_init 84 = .ok (.bipush 109, 2) := by decide +kernel
theorem d_X4_init_86 : decode b_X4_init 86 = .ok (.bastore, 1) := by decide +kernel
theorem d_X4_init_87 : decode b_X4_init 87 = .ok (.aload_n 0, 1) := by decide +kernel
theorem d_X4_init_88 : decode b_X4_init 88 = .ok (.getfield 11, 3) := by decide +kernel
theorem d_X4_init_91 : decode b_X4_init 91 = .ok (.iconst 1, 1) := by decide +kernel
theorem d_X4_init_92 : decode b_X4_init 92 = .ok (.bipush 97, 2) := by decide +kernel
theorem d_X4_init_94 : decode b_X4_init 94 = .ok (.bastore, 1) := by decide +kernel
theorem d_X4_init_95 : decode b_X4_init 95 = .ok (.aload_n 0, 1) := by decide +kernel
theorem d_X4_init_96 : decode b_X4_init 96 = .ok (.getfield 11, 3) := by decide +kernel
theorem d_X4_init_99 : decode b_X4_init 99 = .ok (.iconst 2, 1) := by decide +kernel
theorem d_X4_init_100 : decode b_X4_init 100 = .ok (.bipush 105, 2) := by decide +kernel
theorem d_X4_init_102 : decode b_X4_init 102 = .ok (.bastore, 1) := by decide +kernel
theorem d_X4_init_103 : decode b_X4_init 103 = .ok (.aload_n 0, 1) := by decide +kernel
theorem d_X4_init_104 : decode b_X4_init 104 = .ok (.getfield 11, 3) := by decide +kernel
theorem d_X4_init_107 : decode b_X4_init 107 = .ok (.iconst 3, 1) := by decide +kernel
theorem d_X4_init_108 : decode b_X4_init 108 = .ok (.bipush 110, 2) := by decide +kernel
theorem d_X4_init_110 : decode b_X4_init 110 = .ok (.bastore, 1) := by decide +kernel
theorem d_X4_init_111 : decode b_X4_init 111 = .ok (.return_, 1) := by decide +kernel
theorem d_X9_init_0 : decode b_X9_init 0 = .ok (.aload_n 0, 1) := by decide +kernel
theorem d_X9_init_1 : decode b_X9_init 1 = .ok (.invokespecial 1, 3) := by decide +kernel
theorem d_X9_init_4 : decode b_X9_init 4 = .ok (.aload_n 0, 1) := by decide +kernel
theorem d_X9_init_5 : decode b_X9_init 5 = .ok (.iconst 0, 1) := by decide +kernel
theorem d_X9_init_6 : decode b_X9_init 6 = .ok (.putfield 7, 3) := by decide +kernel
theorem d_X9_init_9 : decode b_X9_init 9 = .ok (.aload_n 0, 1) := by decide +kernel
theorem d_X9_init_10 : decode b_X9_init 10 = .ok (.iconst 0, 1) := by decide +kernel
theorem d_X9_init_11 : decode b_X9_init 11 = .ok (.putfield 13, 3) := by decide +kernel
theorem d_X9_init_14 : decode b_X9_init 14 = .ok (.aload_n 0, 1) := by decide +kernel
theorem d_X9_init_15 : decode b_X9_init 15 = .ok (.iconst 0, 1) := by decide +kernel
theorem d_X9_init_16 : decode b_X9_init 16 = .ok (.putfield 16, 3) := by decide +kernel
theorem d_X9_init_19 : decode b_X9_init 19 = .ok (.aload_n 0, 1) := by decide +kernel
theorem d_X9_init_20 : decode b_X9_init 20 = .ok (.sipush 4096, 3) := by decide +kernel
theorem d_X9_init_23 : decode b_X9_init 23 = .ok (.newarray .byte, 2) := by decide +kernel
theorem d_X9_init_25 : decode b_X9_init 25 = .ok (.putfield 19, 3) := by decide +kernel
theorem d_X9_init_28 : decode b_X9_init 28 = .ok (.aload_n 0, 1) := by decide +kernel
theorem d_X9_init_29 : decode b_X9_init 29 = .ok (.sipush 4096, 3) := by decide +kernel
theorem d_X9_init_32 : decode b_X9_init 32 = .ok (.newarray .byte, 2) := by decide +kernel
theorem d_X9_init_34 : decode b_X9_init 34 = .ok (.putfield 23, 3) := by decide +kernel
theorem d_X9_init_37 : decode b_X9_init 37 = .ok (.return_, 1) := by decide +kernel
theorem d_X5_init_0 : decode b_X5_init 0 = .ok (.aload_n 0, 1) := by decide +kernel
theorem d_X5_init_1 : decode b_X5_init 1 = .ok (.invokespecial 5, 3) := by decide +kernel
theorem d_X5_init_4 : decode b_X5_init 4 = .ok (.aload_n 0, 1) := by decide +kernel
theorem d_X5_init_5 : decode b_X5_init 5 = .ok (.ldc 11, 2) := by decide +kernel
theorem d_X5_init_7 : decode b_X5_init 7 = .ok (.newarray .int, 2) := by decide +kernel
theorem d_X5_init_9 : decode b_X5_init 9 = .ok (.putfield 12, 3) := by decide +kernel
theorem d_X5_init_12 : decode b_X5_init 12 = .ok (.aload_n 0, 1) := by decide +kernel
theorem d_X5_init_13 : decode b_X5_init 13 = .ok (.ldc 16, 2) := by decide +kernel
theorem d_X5_init_15 : decode b_X5_init 15 = .ok (.newarray .int, 2) := by decide +kernel
theorem d_X5_init_17 : decode b_X5_init 17 = .ok (.putfield 17, 3) := by decide +kernel
theorem d_X5_init_20 : decode b_X5_init 20 = .ok (.aload_n 0, 1) := by decide +kernel
theorem d_X5_init_21 : decode b_X5_init 21 = .ok (.sipush 771, 3) := by decide +kernel
theorem d_X5_init_24 : decode b_X5_init 24 = .ok (.newarray .int, 2) := by decide +kernel
theorem d_X5_init_26 : decode b_X5_init 26 = .ok (.putfield 20, 3) := by decide +kernel
theorem d_X5_init_29 : decode b_X5_init 29 = .ok (.aload_n 0, 1) := by decide +kernel
theorem d_X5_init_30 : decode b_X5_init 30 = .ok (.iconst 0, 1) := by decide +kernel
theorem d_X5_init_31 : decode b_X5_init 31 = .ok (.putfield 23, 3) := by decide +kernel
theorem d_X5_init_34 : decode b_X5_init 34 = .ok (.aload_n 0, 1) := by decide +kernel
theorem d_X5_init_35 : decode b_X5_init 35 = .ok (.iconst 0, 1) := by decide +kernel
theorem d_X5_init_36 : decode b_X5_init 36 = .ok (.putfield 27, 3) := by decide +kernel
theorem d_X5_init_39 : decode b_X5_init 39 = .ok (.aload_n 0, 1) := by decide +kernel
theorem d_X5_init_40 : decode b_X5_init 40 = .ok (.iconst (-1), 1) := by decide +kernel
theorem d_X5_init_41 : decode b_X5_init 41 = .ok (.putfield 30, 3) := by decide +kernel
theorem d_X5_init_44 : decode b_X5_init 44 = .ok (.aload_n 0, 1) := by decide +kernel
theorem d_X5_init_45 : decode b_X5_init 45 = .ok (.iconst 0, 1) := by decide +kernel
theorem d_X5_init_46 : decode b_X5_init 46 = .ok (.putfield 33, 3) := by decide +kernel
theorem d_X5_init_49 : decode b_X5_init 49 = .ok (.aload_n 0, 1) := by decide +kernel
theorem d_X5_init_50 : decode b_X5_init 50 = .ok (.iconst 0, 1) := by decide +kernel
theorem d_X5_init_51 : decode b_X5_init 51 = .ok (.putfield 36, 3) := by decide +kernel
theorem d_X5_init_54 : decode b_X5_init 54 = .ok (.aload_n 0, 1) := by decide +kernel
theorem d_X5_init_55 : decode b_X5_init 55 = .ok (.aload_n 1, 1) := by decide +kernel
theorem d_X5_init_56 : decode b_X5_init 56 = .ok (.putfield 39, 3) := by decide +kernel
theorem d_X5_init_59 : decode b_X5_init 59 = .ok (.aload_n 0, 1) := by decide +kernel
theorem d_X5_init_60 : decode b_X5_init 60 = .ok (.aload_n 1, 1) := by decide +kernel
theorem d_X5_init_61 : decode b_X5_init 61 = .ok (.getfield 43, 3) := by decide +kernel
theorem d_X5_init_64 : decode b_X5_init 64 = .ok (.putfield 49, 3) := by decide +kernel
theorem d_X5_init_67 : decode b_X5_init 67 = .ok (.aload_n 0, 1) := by decide +kernel
theorem d_X5_init_68 : decode b_X5_init 68 = .ok (.aload_n 2, 1) := by decide +kernel
theorem d_X5_init_69 : decode b_X5_init 69 = .ok (.putfield 50, 3) := by decide +kernel
theorem d_X5_init_72 : decode b_X5_init 72 = .ok (.aload_n 0, 1) := by decide +kernel
theorem d_X5_init_73 : decode b_X5_init 73 = .ok (.aload_n 0, 1) := by decide +kernel
theorem d_X5_init_74 : decode b_X5_init 74 = .ok (.getfield 49, 3) := by decide +kernel
theorem d_X5_init_77 : decode b_X5_init 77 = .ok (.getfield 54, 3) := by decide +kernel
theorem d_X5_init_80 : decode b_X5_init 80 = .ok (.getfield 60, 3) := by decide +kernel
theorem d_X5_init_83 : decode b_X5_init 83 = .ok (.putfield 65, 3) := by decide +kernel
theorem d_X5_init_86 : decode b_X5_init 86 = .ok (.return_, 1) := by decide +kernel
theorem d_X10_listed_0 : decode b_X10_listed 0 = .ok (.iconst 0, 1) := by decide +kernel
theorem d_X10_listed_1 : decode b_X10_listed 1 = .ok (.istore_n 3, 1) := by decide +kernel
theorem d_X10_listed_2 : decode b_X10_listed 2 = .ok (.iconst 0, 1) := by decide +kernel
theorem d_X10_listed_3 : decode b_X10_listed 3 = .ok (.istore 4, 2) := by decide +kernel
theorem d_X10_listed_5 : decode b_X10_listed 5 = .ok (.iconst 0, 1) := by decide +kernel
theorem d_X10_listed_6 : decode b_X10_listed 6 = .ok (.istore 5, 2) := by decide +kernel
theorem d_X10_listed_8 : decode b_X10_listed 8 = .ok (.iload 5, 2) := by decide +kernel
theorem d_X10_listed_10 : decode b_X10_listed 10 = .ok (.aload_n 1, 1) := by decide +kernel
theorem d_X10_listed_11 : decode b_X10_listed 11 = .ok (.invokevirtual 105, 3) := by decide +kernel
theorem d_X10_listed_14 : decode b_X10_listed 14 = .ok (.if_icmp .ge 51, 3) := by decide +kernel
theorem d_X10_listed_17 : decode b_X10_listed 17 = .ok (.aload_n 1, 1) := by decide +kernel
theorem d_X10_listed_18 : decode b_X10_listed 18 = .ok (.iload 5, 2) := by decide +kernel
theorem d_X10_listed_20 : decode b_X10_listed 20 = .ok (.invokevirtual 111, 3) := by decide +kernel
theorem d_X10_listed_23 : decode b_X10_listed 23 = .ok (.bipush 32, 2) := by decide +kernel
theorem d_X10_listed_25 : decode b_X10_listed 25 = .ok (.if_icmp .ne 34, 3) := by decide +kernel
theorem d_X10_listed_28 : decode b_X10_listed 28 = .ok (.iload 5, 2) := by decide +kernel
theorem d_X10_listed_30 : decode b_X10_listed 30 = .ok (.iload 4, 2) := by decide +kernel
theorem d_X10_listed_32 : decode b_X10_listed 32 = .ok (.isub, 1) := by decide +kernel
theorem d_X10_listed_33 : decode b_X10_listed 33 = .ok (.iload_n 2, 1) := by decide +kernel
theorem d_X10_listed_34 : decode b_X10_listed 34 = .ok (.if_icmp .ne 16, 3) := by decide +kernel
theorem d_X10_listed_37 : decode b_X10_listed 37 = .ok (.aload_n 0, 1) := by decide +kernel
theorem d_X10_listed_38 : decode b_X10_listed 38 = .ok (.aload_n 1, 1) := by decide +kernel
theorem d_X10_listed_39 : decode b_X10_listed 39 = .ok (.iload 4, 2) := by decide +kernel
theorem d_X10_listed_41 : decode b_X10_listed 41 = .ok (.iload_n 2, 1) := by decide +kernel
theorem d_X10_listed_42 : decode b_X10_listed 42 = .ok (.invokevirtual 115, 3) := by decide +kernel
theorem d_X10_listed_45 : decode b_X10_listed 45 = .ok (.ifCond .eq 5, 3) := by decide +kernel
theorem d_X10_listed_48 : decode b_X10_listed 48 = .ok (.iload_n 3, 1) := by decide +kernel
theorem d_X10_listed_49 : decode b_X10_listed 49 = .ok (.ireturn, 1) := by decide +kernel
theorem d_X10_listed_50 : decode b_X10_listed 50 = .ok (.iload 5, 2) := by decide +kernel
theorem d_X10_listed_52 : decode b_X10_listed 52 = .ok (.iconst 1, 1) := by decide +kernel
theorem d_X10_listed_53 : decode b_X10_listed 53 = .ok (.iadd, 1) := by decide +kernel
theorem d_X10_listed_54 : decode b_X10_listed 54 = .ok (.istore 4, 2) := by decide +kernel
theorem d_X10_listed_56 : decode b_X10_listed 56 = .ok (.iinc 3 1, 3) := by decide +kernel
theorem d_X10_listed_59 : decode b_X10_listed 59 = .ok (.iinc 5 1, 3) := by decide +kernel
theorem d_X10_listed_62 : decode b_X10_listed 62 = .ok (.goto (-54), 3) := by decide +kernel
theorem d_X10_listed_65 : decode b_X10_listed 65 = .ok (.iconst (-1), 1) := by decide +kernel
theorem d_X10_listed_66 : decode b_X10_listed 66 = .ok (.ireturn, 1) := by decide +kernel
theorem d_X10_isNext_0 : decode b_X10_isNext 0 = .ok (.iconst 0, 1) := by decide +kernel
theorem d_X10_isNext_1 : decode b_X10_isNext 1 = .ok (.istore 4, 2) := by decide +kernel
theorem d_X10_isNext_3 : decode b_X10_isNext 3 = .ok (.iload 4, 2) := by decide +kernel
theorem d_X10_isNext_5 : decode b_X10_isNext 5 = .ok (.iload_n 3, 1) := by decide +kernel
theorem d_X10_isNext_6 : decode b_X10_isNext 6 = .ok (.if_icmp .ge 44, 3) := by decide +kernel
theorem d_X10_isNext_9 : decode b_X10_isNext 9 = .ok (.iload_n 2, 1) := by decide +kernel
theorem d_X10_isNext_10 : decode b_X10_isNext 10 = .ok (.iload 4, 2) := by decide +kernel
theorem d_X10_isNext_12 : decode b_X10_isNext 12 = .ok (.iadd, 1) := by decide +kernel
theorem d_X10_isNext_13 : decode b_X10_isNext 13 = .ok (.aload_n 1, 1) := by decide +kernel
theorem d_X10_isNext_14 : decode b_X10_isNext 14 = .ok (.invokevirtual 105, 3) := by decide +kernel
theorem d_X10_isNext_17 : decode b_X10_isNext 17 = .ok (.if_icmp .ge 25, 3) := by decide +kernel
theorem d_X10_isNext_20 : decode b_X10_isNext 20 = .ok (.aload_n 1, 1) := by decide +kernel
theorem d_X10_isNext_21 : decode b_X10_isNext 21 = .ok (.iload_n 2, 1) := by decide +kernel
theorem d_X10_isNext_22 : decode b_X10_isNext 22 = .ok (.iload 4, 2) := by decide +kernel
theorem d_X10_isNext_24 : decode b_X10_isNext 24 = .ok (.iadd, 1) := by decide +kernel
theorem d_X10_isNext_25 : decode b_X10_isNext 25 = .ok (.invokevirtual 111, 3) := by decide +kernel
theorem d_X10_isNext_28 : decode b_X10_isNext 28 = .ok (.aload_n 0, 1) := by decide +kernel
theorem d_X10_isNext_29 : decode b_X10_isNext 29 = .ok (.aload_n 0, 1) := by decide +kernel
theorem d_X10_isNext_30 : decode b_X10_isNext 30 = .ok (.getfield 35, 3) := by decide +kernel
theorem d_X10_isNext_33 : decode b_X10_isNext 33 = .ok (.iload 4, 2) := by decide +kernel
theorem d_X10_isNext_35 : decode b_X10_isNext 35 = .ok (.iadd, 1) := by decide +kernel
theorem d_X10_isNext_36 : decode b_X10_isNext 36 = .ok (.invokevirtual 51, 3) := by decide +kernel
theorem d_X10_isNext_39 : decode b_X10_isNext 39 = .ok (.if_icmp .eq 5, 3) := by decide +kernel
theorem d_X10_isNext_42 : decode b_X10_isNext 42 = .ok (.iconst 0, 1) := by decide +kernel
theorem d_X10_isNext_43 : decode b_X10_isNext 43 = .ok (.ireturn, 1) := by decide +kernel
theorem d_X10_isNext_44 : decode b_X10_isNext 44 = .ok (.iinc 4 1, 3) := by decide +kernel
theorem d_X10_isNext_47 : decode b_X10_isNext 47 = .ok (.goto (-44), 3) := by decide +kernel
theorem d_X10_isNext_50 : decode b_X10_isNext 50 = .ok (.iconst 1, 1) := by decide +kernel
theorem d_X10_isNext_51 : decode b_X10_isNext 51 = .ok (.ireturn, 1) := by decide +kernel
theorem d_X14_ctor_0 : decode b_X14_ctor 0 = .ok (.aload_n 0, 1) := by decide +kernel
theorem d_X14_ctor_1 : decode b_X14_ctor 1 = .ok (.invokespecial 3, 3) := by decide +kernel
theorem d_X14_ctor_4 : decode b_X14_ctor 4 = .ok (.aload_n 0, 1) := by decide +kernel
theorem d_X14_ctor_5 : decode b_X14_ctor 5 = .ok (.sipush 16000, 3) := by decide +kernel
theorem d_X14_ctor_8 : decode b_X14_ctor 8 = .ok (.newarray .byte, 2) := by decide +kernel
theorem d_X14_ctor_10 : decode b_X14_ctor 10 = .ok (.putfield 9, 3) := by decide +kernel
theorem d_X14_ctor_13 : decode b_X14_ctor 13 = .ok (.aload_n 0, 1) := by decide +kernel
theorem d_X14_ctor_14 : decode b_X14_ctor 14 = .ok (.sipush 16002, 3) := by decide +kernel
theorem d_X14_ctor_17 : decode b_X14_ctor 17 = .ok (.newarray .int, 2) := by decide +kernel
theorem d_X14_ctor_19 : decode b_X14_ctor 19 = .ok (.putfield 13, 3) := by decide +kernel
theorem d_X14_ctor_22 : decode b_X14_ctor 22 = .ok (.aload_n 0, 1) := by decide +kernel
theorem d_X14_ctor_23 : decode b_X14_ctor 23 = .ok (.sipush 16002, 3) := by decide +kernel
theorem d_X14_ctor_26 : decode b_X14_ctor 26 = .ok (.newarray .int, 2) := by decide +kernel
theorem d_X14_ctor_28 : decode b_X14_ctor 28 = .ok (.putfield 17, 3) := by decide +kernel
theorem d_X14_ctor_31 : decode b_X14_ctor 31 = .ok (.aload_n 0, 1) := by decide +kernel
theorem d_X14_ctor_32 : decode b_X14_ctor 32 = .ok (.sipush 16002, 3) := by decide +kernel
theorem d_X14_ctor_35 : decode b_X14_ctor 35 = .ok (.newarray .int, 2) := by decide +kernel
theorem d_X14_ctor_37 : decode b_X14_ctor 37 = .ok (.putfield 20, 3) := by decide +kernel
theorem d_X14_ctor_40 : decode b_X14_ctor 40 = .ok (.aload_n 0, 1) := by decide +kernel
theorem d_X14_ctor_41 : decode b_X14_ctor 41 = .ok (.sipush 16002, 3) := by decide +kernel
theorem d_X14_ctor_44 : decode b_X14_ctor 44 = .ok (.newarray .int, 2) := by decide +kernel
theorem d_X14_ctor_46 : decode b_X14_ctor 46 = .ok (.putfield 23, 3) := by decide +kernel
theorem d_X14_ctor_49 : decode b_X14_ctor 49 = .ok (.aload_n 0, 1) := by decide +kernel
theorem d_X14_ctor_50 : decode b_X14_ctor 50 = .ok (.sipush 16002, 3) := by decide +kernel
theorem d_X14_ctor_53 : decode b_X14_ctor 53 = .ok (.newarray .int, 2) := by decide +kernel
theorem d_X14_ctor_55 : decode b_X14_ctor 55 = .ok (.putfield 26, 3) := by decide +kernel
theorem d_X14_ctor_58 : decode b_X14_ctor 58 = .ok (.aload_n 0, 1) := by decide +kernel
theorem d_X14_ctor_59 : decode b_X14_ctor 59 = .ok (.new 29, 3) := by decide +kernel
theorem d_X14_ctor_62 : decode b_X14_ctor 62 = .ok (.dup, 1) := by decide +kernel
theorem d_X14_ctor_63 : decode b_X14_ctor 63 = .ok (.invokespecial 31, 3) := by decide +kernel
theorem d_X14_ctor_66 : decode b_X14_ctor 66 = .ok (.putfield 32, 3) := by decide +kernel
theorem d_X14_ctor_69 : decode b_X14_ctor 69 = .ok (.aload_n 0, 1) := by decide +kernel
theorem d_X14_ctor_70 : decode b_X14_ctor 70 = .ok (.iconst (-1), 1) := by decide +kernel
theorem d_X14_ctor_71 : decode b_X14_ctor 71 = .ok (.putfield 36, 3) := by decide +kernel
theorem d_X14_ctor_74 : decode b_X14_ctor 74 = .ok (.aload_n 0, 1) := by decide +kernel
theorem d_X14_ctor_75 : decode b_X14_ctor 75 = .ok (.ldc 40, 2) := by decide +kernel
theorem d_X14_ctor_77 : decode b_X14_ctor 77 = .ok (.newarray .int, 2) := by decide +kernel
theorem d_X14_ctor_79 : decode b_X14_ctor 79 = .ok (.putfield 41, 3) := by decide +kernel
theorem d_X14_ctor_82 : decode b_X14_ctor 82 = .ok (.aload_n 0, 1) := by decide +kernel
theorem d_X14_ctor_83 : decode b_X14_ctor 83 = .ok (.sipush 10000, 3) := by decide +kernel
theorem d_X14_ctor_86 : decode b_X14_ctor 86 = .ok (.newarray .int, 2) := by decide +kernel
theorem d_X14_ctor_88 : decode b_X14_ctor 88 = .ok (.putfield 44, 3) := by decide +kernel
theorem d_X14_ctor_91 : decode b_X14_ctor 91 = .ok (.aload_n 0, 1) := by decide +kernel
theorem d_X14_ctor_92 : decode b_X14_ctor 92 = .ok (.sipush 10000, 3) := by decide +kernel
theorem d_X14_ctor_95 : decode b_X14_ctor 95 = .ok (.newarray .int, 2) := by decide +kernel
theorem d_X14_ctor_97 : decode b_X14_ctor 97 = .ok (.putfield 47, 3) := by decide +kernel
theorem d_X14_ctor_100 : decode b_X14_ctor 100 = .ok (.aload_n 0, 1) := by decide +kernel
theorem d_X14_ctor_101 : decode b_X14_ctor 101 = .ok (.sipush 10000, 3) := by decide +kernel
theorem d_X14_ctor_104 : decode b_X14_ctor 104 = .ok (.newarray .int, 2) := by decide +kernel
theorem d_X14_ctor_106 : decode b_X14_ctor 106 = .ok (.putfield 50, 3) := by decide +kernel
theorem d_X14_ctor_109 : decode b_X14_ctor 109 = .ok (.aload_n 0, 1) := by decide +kernel
theorem d_X14_ctor_110 : decode b_X14_ctor 110 = .ok (.sipush 10000, 3) := by decide +kernel
theorem d_X14_ctor_113 : decode b_X14_ctor 113 = .ok (.newarray .boolean, 2) := by decide +kernel
theorem d_X14_ctor_115 : decode b_X14_ctor 115 = .ok (.putfield 53, 3) := by decide +kernel
theorem d_X14_ctor_118 : decode b_X14_ctor 118 = .ok (.aload_n 0, 1) := by decide +kernel
theorem d_X14_ctor_119 : decode b_X14_ctor 119 = .ok (.sipush 10000, 3) := by decide +kernel
theorem d_X14_ctor_122 : decode b_X14_ctor 122 = .ok (.newarray .boolean, 2) := by decide +kernel
theorem d_X14_ctor_124 : decode b_X14_ctor 124 = .ok (.putfield 57, 3) := by decide +kernel
theorem d_X14_ctor_127 : decode b_X14_ctor 127 = .ok (.aload_n 0, 1) := by decide +kernel
theorem d_X14_ctor_128 : decode b_X14_ctor 128 = .ok (.sipush 10000, 3) := by decide +kernel
theorem d_X14_ctor_131 : decode b_X14_ctor 131 = .ok (.newarray .boolean, 2) := by decide +kernel
theorem d_X14_ctor_133 : decode b_X14_ctor 133 = .ok (.putfield 60, 3) := by decide +kernel
theorem d_X14_ctor_136 : decode b_X14_ctor 136 = .ok (.aload_n 0, 1) := by decide +kernel
theorem d_X14_ctor_137 : decode b_X14_ctor 137 = .ok (.sipush 10000, 3) := by decide +kernel
theorem d_X14_ctor_140 : decode b_X14_ctor 140 = .ok (.newarray .int, 2) := by decide +kernel
theorem d_X14_ctor_142 : decode b_X14_ctor 142 = .ok (.putfield 63, 3) := by decide +kernel
theorem d_X14_ctor_145 : decode b_X14_ctor 145 = .ok (.aload_n 0, 1) := by decide +kernel
theorem d_X14_ctor_146 : decode b_X14_ctor 146 = .ok (.ldc 66, 2) := by decide +kernel
theorem d_X14_ctor_148 : decode b_X14_ctor 148 = .ok (.newarray .int, 2) := by decide +kernel
theorem d_X14_ctor_150 : decode b_X14_ctor 150 = .ok (.putfield 67, 3) := by decide +kernel
theorem d_X14_ctor_153 : decode b_X14_ctor 153 = .ok (.aload_n 0, 1) := by decide +kernel
theorem d_X14_ctor_154 : decode b_X14_ctor 154 = .ok (.sipush 10000, 3) := by decide +kernel
theorem d_X14_ctor_157 : decode b_X14_ctor 157 = .ok (.newarray .int, 2) := by decide +kernel
theorem d_X14_ctor_159 : decode b_X14_ctor 159 = .ok (.putfield 70, 3) := by decide +kernel
theorem d_X14_ctor_162 : decode b_X14_ctor 162 = .ok (.aload_n 0, 1) := by decide +kernel
theorem d_X14_ctor_163 : decode b_X14_ctor 163 = .ok (.sipush 10000, 3) := by decide +kernel
theorem d_X14_ctor_166 : decode b_X14_ctor 166 = .ok (.newarray .int, 2) := by decide +kernel
theorem d_X14_ctor_168 : decode b_X14_ctor 168 = .ok (.putfield 73, 3) := by decide +kernel
theorem d_X14_ctor_171 : decode b_X14_ctor 171 = .ok (.aload_n 0, 1) := by decide +kernel
theorem d_X14_ctor_172 : decode b_X14_ctor 172 = .ok (.sipush 10000, 3) := by decide +kernel
theorem d_X14_ctor_175 : decode b_X14_ctor 175 = .ok (.newarray .int, 2) := by decide +kernel
theorem d_X14_ctor_177 : decode b_X14_ctor 177 = .ok (.putfield 76, 3) := by decide +kernel
theorem d_X14_ctor_180 : decode b_X14_ctor 180 = .ok (.aload_n 0, 1) := by decide +kernel
theorem d_X14_ctor_181 : decode b_X14_ctor 181 = .ok (.ldc 79, 2) := by decide +kernel
theorem d_X14_ctor_183 : decode b_X14_ctor 183 = .ok (.newarray .byte, 2) := by decide +kernel
theorem d_X14_ctor_185 : decode b_X14_ctor 185 = .ok (.putfield 80, 3) := by decide +kernel
theorem d_X14_ctor_188 : decode b_X14_ctor 188 = .ok (.aload_n 0, 1) := by decide +kernel
theorem d_X14_ctor_189 : decode b_X14_ctor 189 = .ok (.bipush 100, 2) := by decide +kernel
theorem d_X14_ctor_191 : decode b_X14_ctor 191 = .ok (.newarray .int, 2) := by decide +kernel
theorem d_X14_ctor_193 : decode b_X14_ctor 193 = .ok (.putfield 83, 3) := by decide +kernel
theorem d_X14_ctor_196 : decode b_X14_ctor 196 = .ok (.aload_n 0, 1) := by decide +kernel
theorem d_X14_ctor_197 : decode b_X14_ctor 197 = .ok (.bipush 102, 2) := by decide +kernel
theorem d_X14_ctor_199 : decode b_X14_ctor 199 = .ok (.newarray .int, 2) := by decide +kernel
theorem d_X14_ctor_201 : decode b_X14_ctor 201 = .ok (.putfield 86, 3) := by decide +kernel
theorem d_X14_ctor_204 : decode b_X14_ctor 204 = .ok (.aload_n 0, 1) := by decide +kernel
theorem d_X14_ctor_205 : decode b_X14_ctor 205 = .ok (.bipush 102, 2) := by decide +kernel
theorem d_X14_ctor_207 : decode b_X14_ctor 207 = .ok (.newarray .int, 2) := by decide +kernel
theorem d_X14_ctor_209 : decode b_X14_ctor 209 = .ok (.putfield 89, 3) := by decide +kernel
theorem d_X14_ctor_212 : decode b_X14_ctor 212 = .ok (.aload_n 0, 1) := by decide +kernel
theorem d_X14_ctor_213 : decode b_X14_ctor 213 = .ok (.bipush 102, 2) := by decide +kernel
theorem d_X14_ctor_215 : decode b_X14_ctor 215 = .ok (.newarray .int, 2) := by decide +kernel
theorem d_X14_ctor_217 : decode b_X14_ctor 217 = .ok (.putfield 92, 3) := by decide +kernel
theorem d_X14_ctor_220 : decode b_X14_ctor 220 = .ok (.aload_n 0, 1) := by decide +kernel
theorem d_X14_ctor_221 : decode b_X14_ctor 221 = .ok (.ldc 95, 2) := by decide +kernel
theorem d_X14_ctor_223 : decode b_X14_ctor 223 = .ok (.newarray .int, 2) := by decide +kernel
theorem d_X14_ctor_225 : decode b_X14_ctor 225 = .ok (.putfield 96, 3) := by decide +kernel
theorem d_X14_ctor_228 : decode b_X14_ctor 228 = .ok (.aload_n 0, 1) := by decide +kernel
theorem d_X14_ctor_229 : decode b_X14_ctor 229 = .ok (.sipush 10000, 3) := by decide +kernel
theorem d_X14_ctor_232 : decode b_X14_ctor 232 = .ok (.newarray .int, 2) := by decide +kernel
theorem d_X14_ctor_234 : decode b_X14_ctor 234 = .ok (.putfield 99, 3) := by decide +kernel
theorem d_X14_ctor_237 : decode b_X14_ctor 237 = .ok (.aload_n 0, 1) := by decide +kernel
theorem d_X14_ctor_238 : decode b_X14_ctor 238 = .ok (.sipush 10000, 3) := by decide +kernel
theorem d_X14_ctor_241 : decode b_X14_ctor 241 = .ok (.newarray .int, 2) := by decide +kernel
theorem d_X14_ctor_243 : decode b_X14_ctor 243 = .ok (.putfield 102, 3) := by decide +kernel
theorem d_X14_ctor_246 : decode b_X14_ctor 246 = .ok (.aload_n 0, 1) := by decide +kernel
theorem d_X14_ctor_247 : decode b_X14_ctor 247 = .ok (.sipush 10000, 3) := by decide +kernel
theorem d_X14_ctor_250 : decode b_X14_ctor 250 = .ok (.newarray .int, 2) := by decide +kernel
theorem d_X14_ctor_252 : decode b_X14_ctor 252 = .ok (.putfield 105, 3) := by decide +kernel
theorem d_X14_ctor_255 : decode b_X14_ctor 255 = .ok (.aload_n 0, 1) := by decide +kernel
theorem d_X14_ctor_256 : decode b_X14_ctor 256 = .ok (.sipush 10000, 3) := by decide +kernel
theorem d_X14_ctor_259 : decode b_X14_ctor 259 = .ok (.newarray .int, 2) := by decide +kernel
theorem d_X14_ctor_261 : decode b_X14_ctor 261 = .ok (.putfield 108, 3) := by decide +kernel
theorem d_X14_ctor_264 : decode b_X14_ctor 264 = .ok (.aload_n 0, 1) := by decide +kernel
theorem d_X14_ctor_265 : decode b_X14_ctor 265 = .ok (.sipush 10000, 3) := by decide +kernel
theorem d_X14_ctor_268 : decode b_X14_ctor 268 = .ok (.newarray .int, 2) := by decide +kernel
theorem d_X14_ctor_270 : decode b_X14_ctor 270 = .ok (.putfield 111, 3) := by decide +kernel
theorem d_X14_ctor_273 : decode b_X14_ctor 273 = .ok (.aload_n 0, 1) := by decide +kernel
theorem d_X14_ctor_274 : decode b_X14_ctor 274 = .ok (.bipush 100, 2) := by decide +kernel
theorem d_X14_ctor_276 : decode b_X14_ctor 276 = .ok (.newarray .int, 2) := by decide +kernel
theorem d_X14_ctor_278 : decode b_X14_ctor 278 = .ok (.putfield 114, 3) := by decide +kernel
theorem d_X14_ctor_281 : decode b_X14_ctor 281 = .ok (.aload_n 0, 1) := by decide +kernel
theorem d_X14_ctor_282 : decode b_X14_ctor 282 = .ok (.bipush 100, 2) := by decide +kernel
theorem d_X14_ctor_284 : decode b_X14_ctor 284 = .ok (.newarray .int, 2) := by decide +kernel
theorem d_X14_ctor_286 : decode b_X14_ctor 286 = .ok (.putfield 117, 3) := by decide +kernel
theorem d_X14_ctor_289 : decode b_X14_ctor 289 = .ok (.aload_n 0, 1) := by decide +kernel
theorem d_X14_ctor_290 : decode b_X14_ctor 290 = .ok (.bipush 100, 2) := by decide +kernel
theorem d_X14_ctor_292 : decode b_X14_ctor 292 = .ok (.newarray .boolean, 2) := by decide +kernel
theorem d_X14_ctor_294 : decode b_X14_ctor 294 = .ok (.putfield 120, 3) := by decide +kernel
theorem d_X14_ctor_297 : decode b_X14_ctor 297 = .ok (.aload_n 0, 1) := by decide +kernel
theorem d_X14_ctor_298 : decode b_X14_ctor 298 = .ok (.bipush 100, 2) := by decide +kernel
theorem d_X14_ctor_300 : decode b_X14_ctor 300 = .ok (.newarray .int, 2) := by decide +kernel
theorem d_X14_ctor_302 : decode b_X14_ctor 302 = .ok (.putfield 123, 3) := by decide +kernel
theorem d_X14_ctor_305 : decode b_X14_ctor 305 = .ok (.aload_n 0, 1) := by decide +kernel
theorem d_X14_ctor_306 : decode b_X14_ctor 306 = .ok (.bipush 100, 2) := by decide +kernel
theorem d_X14_ctor_308 : decode b_X14_ctor 308 = .ok (.newarray .int, 2) := by decide +kernel
theorem d_X14_ctor_310 : decode b_X14_ctor 310 = .ok (.putfield 126, 3) := by decide +kernel
theorem d_X14_ctor_313 : decode b_X14_ctor 313 = .ok (.aload_n 0, 1) := by decide +kernel
theorem d_X14_ctor_314 : decode b_X14_ctor 314 = .ok (.bipush 100, 2) := by decide +kernel
theorem d_X14_ctor_316 : decode b_X14_ctor 316 = .ok (.newarray .int, 2) := by decide +kernel
theorem d_X14_ctor_318 : decode b_X14_ctor 318 = .ok (.putfield 129, 3) := by decide +kernel
theorem d_X14_ctor_321 : decode b_X14_ctor 321 = .ok (.aload_n 0, 1) := by decide +kernel
theorem d_X14_ctor_322 : decode b_X14_ctor 322 = .ok (.bipush 8, 2) := by decide +kernel
theorem d_X14_ctor_324 : decode b_X14_ctor 324 = .ok (.newarray .int, 2) := by decide +kernel
theorem d_X14_ctor_326 : decode b_X14_ctor 326 = .ok (.putfield 132, 3) := by decide +kernel
theorem d_X14_ctor_329 : decode b_X14_ctor 329 = .ok (.aload_n 0, 1) := by decide +kernel
theorem d_X14_ctor_330 : decode b_X14_ctor 330 = .ok (.bipush 8, 2) := by decide +kernel
theorem d_X14_ctor_332 : decode b_X14_ctor 332 = .ok (.newarray .int, 2) := by decide +kernel
theorem d_X14_ctor_334 : decode b_X14_ctor 334 = .ok (.putfield 135, 3) := by decide +kernel
theorem d_X14_ctor_337 : decode b_X14_ctor 337 = .ok (.aload_n 0, 1) := by decide +kernel
theorem d_X14_ctor_338 : decode b_X14_ctor 338 = .ok (.bipush 8, 2) := by decide +kernel
theorem d_X14_ctor_340 : decode b_X14_ctor 340 = .ok (.newarray .int, 2) := by decide +kernel
theorem d_X14_ctor_342 : decode b_X14_ctor 342 = .ok (.putfield 138, 3) := by decide +kernel
theorem d_X14_ctor_345 : decode b_X14_ctor 345 = .ok (.aload_n 0, 1) := by decide +kernel
theorem d_X14_ctor_346 : decode b_X14_ctor 346 = .ok (.bipush 100, 2) := by decide +kernel
theorem d_X14_ctor_348 : decode b_X14_ctor 348 = .ok (.newarray .int, 2) := by decide +kernel
theorem d_X14_ctor_350 : decode b_X14_ctor 350 = .ok (.putfield 141, 3) := by decide +kernel
theorem d_X14_ctor_353 : decode b_X14_ctor 353 = .ok (.aload_n 0, 1) := by decide +kernel
theorem d_X14_ctor_354 : decode b_X14_ctor 354 = .ok (.bipush 100, 2) := by decide +kernel
theorem d_X14_ctor_356 : decode b_X14_ctor 356 = .ok (.newarray .int, 2) := by decide +kernel
theorem d_X14_ctor_358 : decode b_X14_ctor 358 = .ok (.putfield 144, 3) := by decide +kernel
theorem d_X14_ctor_361 : decode b_X14_ctor 361 = .ok (.aload_n 0, 1) := by decide +kernel
theorem d_X14_ctor_362 : decode b_X14_ctor 362 = .ok (.bipush 100, 2) := by decide +kernel
theorem d_X14_ctor_364 : decode b_X14_ctor 364 = .ok (.newarray .int, 2) := by decide +kernel
theorem d_X14_ctor_366 : decode b_X14_ctor 366 = .ok (.putfield 147, 3) := by decide +kernel
theorem d_X14_ctor_369 : decode b_X14_ctor 369 = .ok (.aload_n 0, 1) := by decide +kernel
theorem d_X14_ctor_370 : decode b_X14_ctor 370 = .ok (.iconst (-1), 1) := by decide +kernel
theorem d_X14_ctor_371 : decode b_X14_ctor 371 = .ok (.putfield 150, 3) := by decide +kernel
theorem d_X14_ctor_374 : decode b_X14_ctor 374 = .ok (.aload_n 0, 1) := by decide +kernel
theorem d_X14_ctor_375 : decode b_X14_ctor 375 = .ok (.iconst (-1), 1) := by decide +kernel
theorem d_X14_ctor_376 : decode b_X14_ctor 376 = .ok (.putfield 153, 3) := by decide +kernel
theorem d_X14_ctor_379 : decode b_X14_ctor 379 = .ok (.aload_n 0, 1) := by decide +kernel
theorem d_X14_ctor_380 : decode b_X14_ctor 380 = .ok (.iconst (-1), 1) := by decide +kernel
theorem d_X14_ctor_381 : decode b_X14_ctor 381 = .ok (.putfield 156, 3) := by decide +kernel
theorem d_X14_ctor_384 : decode b_X14_ctor 384 = .ok (.aload_n 0, 1) := by decide +kernel
theorem d_X14_ctor_385 : decode b_X14_ctor 385 = .ok (.sipush 10000, 3) := by decide +kernel
theorem d_X14_ctor_388 : decode b_X14_ctor 388 = .ok (.newarray .int, 2) := by decide +kernel
theorem d_X14_ctor_390 : decode b_X14_ctor 390 = .ok (.putfield 159, 3) := by decide +kernel
theorem d_X14_ctor_393 : decode b_X14_ctor 393 = .ok (.aload_n 0, 1) := by decide +kernel
theorem d_X14_ctor_394 : decode b_X14_ctor 394 = .ok (.bipush 100, 2) := by decide +kernel
theorem d_X14_ctor_396 : decode b_X14_ctor 396 = .ok (.newarray .int, 2) := by decide +kernel
theorem d_X14_ctor_398 : decode b_X14_ctor 398 = .ok (.putfield 162, 3) := by decide +kernel
theorem d_X14_ctor_401 : decode b_X14_ctor 401 = .ok (.aload_n 0, 1) := by decide +kernel
theorem d_X14_ctor_402 : decode b_X14_ctor 402 = .ok (.sipush 16016, 3) := by decide +kernel
theorem d_X14_ctor_405 : decode b_X14_ctor 405 = .ok (.newarray .int, 2) := by decide +kernel
theorem d_X14_ctor_407 : decode b_X14_ctor 407 = .ok (.putfield 165, 3) := by decide +kernel
theorem d_X14_ctor_410 : decode b_X14_ctor 410 = .ok (.aload_n 0, 1) := by decide +kernel
theorem d_X14_ctor_411 : decode b_X14_ctor 411 = .ok (.ldc 168, 2) := by decide +kernel
theorem d_X14_ctor_413 : decode b_X14_ctor 413 = .ok (.newarray .int, 2) := by decide +kernel
theorem d_X14_ctor_415 : decode b_X14_ctor 415 = .ok (.putfield 169, 3) := by decide +kernel
theorem d_X14_ctor_418 : decode b_X14_ctor 418 = .ok (.aload_n 0, 1) := by decide +kernel
theorem d_X14_ctor_419 : decode b_X14_ctor 419 = .ok (.ldc 172, 2) := by decide +kernel
theorem d_X14_ctor_421 : decode b_X14_ctor 421 = .ok (.newarray .int, 2) := by decide +kernel
theorem d_X14_ctor_423 : decode b_X14_ctor 423 = .ok (.putfield 173, 3) := by decide +kernel
theorem d_X14_ctor_426 : decode b_X14_ctor 426 = .ok (.aload_n 0, 1) := by decide +kernel
theorem d_X14_ctor_427 : decode b_X14_ctor 427 = .ok (.sipush 26000, 3) := by decide +kernel
theorem d_X14_ctor_430 : decode b_X14_ctor 430 = .ok (.newarray .int, 2) := by decide +kernel
theorem d_X14_ctor_432 : decode b_X14_ctor 432 = .ok (.putfield 176, 3) := by decide +kernel
theorem d_X14_ctor_435 : decode b_X14_ctor 435 = .ok (.aload_n 0, 1) := by decide +kernel
theorem d_X14_ctor_436 : decode b_X14_ctor 436 = .ok (.sipush 260, 3) := by decide +kernel
theorem d_X14_ctor_439 : decode b_X14_ctor 439 = .ok (.newarray .int, 2) := by decide +kernel
theorem d_X14_ctor_441 : decode b_X14_ctor 441 = .ok (.putfield 179, 3) := by decide +kernel
theorem d_X14_ctor_444 : decode b_X14_ctor 444 = .ok (.aload_n 0, 1) := by decide +kernel
theorem d_X14_ctor_445 : decode b_X14_ctor 445 = .ok (.sipush 260, 3) := by decide +kernel
theorem d_X14_ctor_448 : decode b_X14_ctor 448 = .ok (.newarray .int, 2) := by decide +kernel
theorem d_X14_ctor_450 : decode b_X14_ctor 450 = .ok (.putfield 182, 3) := by decide +kernel
theorem d_X14_ctor_453 : decode b_X14_ctor 453 = .ok (.aload_n 0, 1) := by decide +kernel
theorem d_X14_ctor_454 : decode b_X14_ctor 454 = .ok (.sipush 260, 3) := by decide +kernel
theorem d_X14_ctor_457 : decode b_X14_ctor 457 = .ok (.newarray .int, 2) := by decide +kernel
theorem d_X14_ctor_459 : decode b_X14_ctor 459 = .ok (.putfield 185, 3) := by decide +kernel
theorem d_X14_ctor_462 : decode b_X14_ctor 462 = .ok (.aload_n 0, 1) := by decide +kernel
theorem d_X14_ctor_463 : decode b_X14_ctor 463 = .ok (.sipush 4096, 3) := by decide +kernel
theorem d_X14_ctor_466 : decode b_X14_ctor 466 = .ok (.newarray .byte, 2) := by decide +kernel
theorem d_X14_ctor_468 : decode b_X14_ctor 468 = .ok (.putfield 188, 3) := by decide +kernel
theorem d_X14_ctor_471 : decode b_X14_ctor 471 = .ok (.aload_n 0, 1) := by decide +kernel
theorem d_X14_ctor_472 : decode b_X14_ctor 472 = .ok (.sipush 4096, 3) := by decide +kernel
theorem d_X14_ctor_475 : decode b_X14_ctor 475 = .ok (.newarray .byte, 2) := by decide +kernel
theorem d_X14_ctor_477 : decode b_X14_ctor 477 = .ok (.putfield 191, 3) := by decide +kernel
theorem d_X14_ctor_480 : decode b_X14_ctor 480 = .ok (.aload_n 0, 1) := by decide +kernel
theorem d_X14_ctor_481 : decode b_X14_ctor 481 = .ok (.sipush 10000, 3) := by decide +kernel
theorem d_X14_ctor_484 : decode b_X14_ctor 484 = .ok (.newarray .int, 2) := by decide +kernel
theorem d_X14_ctor_486 : decode b_X14_ctor 486 = .ok (.putfield 194, 3) := by decide +kernel
theorem d_X14_ctor_489 : decode b_X14_ctor 489 = .ok (.return_, 1) := by decide +kernel
theorem d_X14_feed_0 : decode b_X14_feed 0 = .ok (.aload_n 0, 1) := by decide +kernel
theorem d_X14_feed_1 : decode b_X14_feed 1 = .ok (.getfield 197, 3) := by decide +kernel
theorem d_X14_feed_4 : decode b_X14_feed 4 = .ok (.bipush 20, 2) := by decide +kernel
theorem d_X14_feed_6 : decode b_X14_feed 6 = .ok (.iadd, 1) := by decide +kernel
theorem d_X14_feed_7 : decode b_X14_feed 7 = .ok (.sipush 16000, 3) := by decide +kernel
theorem d_X14_feed_10 : decode b_X14_feed 10 = .ok (.if_icmp .gt 15, 3) := by decide +kernel
theorem d_X14_feed_13 : decode b_X14_feed 13 = .ok (.aload_n 0, 1) := by decide +kernel
theorem d_X14_feed_14 : decode b_X14_feed 14 = .ok (.getfield 200, 3) := by decide +kernel
theorem d_X14_feed_17 : decode b_X14_feed 17 = .ok (.bipush 20, 2) := by decide +kernel
theorem d_X14_feed_19 : decode b_X14_feed 19 = .ok (.iadd, 1) := by decide +kernel
theorem d_X14_feed_20 : decode b_X14_feed 20 = .ok (.ldc 79, 2) := by decide +kernel
theorem d_X14_feed_22 : decode b_X14_feed 22 = .ok (.if_icmp .le 5, 3) := by decide +kernel
theorem d_X14_feed_25 : decode b_X14_feed 25 = .ok (.iconst (-1), 1) := by decide +kernel
theorem d_X14_feed_26 : decode b_X14_feed 26 = .ok (.ireturn, 1) := by decide +kernel
theorem d_X14_feed_27 : decode b_X14_feed 27 = .ok (.iconst 0, 1) := by decide +kernel
theorem d_X14_feed_28 : decode b_X14_feed 28 = .ok (.istore 6, 2) := by decide +kernel
theorem d_X14_feed_30 : decode b_X14_feed 30 = .ok (.iload 6, 2) := by decide +kernel
theorem d_X14_feed_32 : decode b_X14_feed 32 = .ok (.bipush 20, 2) := by decide +kernel
theorem d_X14_feed_34 : decode b_X14_feed 34 = .ok (.if_icmp .ge 83, 3) := by decide +kernel
theorem d_X14_feed_37 : decode b_X14_feed 37 = .ok (.iload 6, 2) := by decide +kernel
theorem d_X14_feed_39 : decode b_X14_feed 39 = .ok (.iconst 4, 1) := by decide +kernel
theorem d_X14_feed_40 : decode b_X14_feed 40 = .ok (.if_icmp .ge 7, 3) := by decide +kernel
theorem d_X14_feed_43 : decode b_X14_feed 43 = .ok (.iload_n 1, 1) := by decide +kernel
theorem d_X14_feed_44 : decode b_X14_feed 44 = .ok (.goto 39, 3) := by decide +kernel
theorem d_X14_feed_47 : decode b_X14_feed 47 = .ok (.iload 6, 2) := by decide +kernel
theorem d_X14_feed_49 : decode b_X14_feed 49 = .ok (.bipush 8, 2) := by decide +kernel
theorem d_X14_feed_51 : decode b_X14_feed 51 = .ok (.if_icmp .ge 7, 3) := by decide +kernel
theorem d_X14_feed_54 : decode b_X14_feed 54 = .ok (.iload_n 2, 1) := by decide +kernel
theorem d_X14_feed_55 : decode b_X14_feed 55 = .ok (.goto 28, 3) := by decide +kernel
theorem d_X14_feed_58 : decode b_X14_feed 58 = .ok (.iload 6, 2) := by decide +kernel
theorem d_X14_feed_60 : decode b_X14_feed 60 = .ok (.bipush 12, 2) := by decide +kernel
theorem d_X14_feed_62 : decode b_X14_feed 62 = .ok (.if_icmp .ge 7, 3) := by decide +kernel
theorem d_X14_feed_65 : decode b_X14_feed 65 = .ok (.iload_n 3, 1) := by decide +kernel
theorem d_X14_feed_66 : decode b_X14_feed 66 = .ok (.goto 17, 3) := by decide +kernel
theorem d_X14_feed_69 : decode b_X14_feed 69 = .ok (.iload 6, 2) := by decide +kernel
theorem d_X14_feed_71 : decode b_X14_feed 71 = .ok (.bipush 16, 2) := by decide +kernel
theorem d_X14_feed_73 : decode b_X14_feed 73 = .ok (.if_icmp .ge 8, 3) := by decide +kernel
theorem d_X14_feed_76 : decode b_X14_feed 76 = .ok (.iload 4, 2) := by decide +kernel
theorem d_X14_feed_78 : decode b_X14_feed 78 = .ok (.goto 5, 3) := by decide +kernel
theorem d_X14_feed_81 : decode b_X14_feed 81 = .ok (.iload 5, 2) := by decide +kernel
theorem d_X14_feed_83 : decode b_X14_feed 83 = .ok (.istore 7, 2) := by decide +kernel
theorem d_X14_feed_85 : decode b_X14_feed 85 = .ok (.aload_n 0, 1) := by decide +kernel
theorem d_X14_feed_86 : decode b_X14_feed 86 = .ok (.getfield 9, 3) := by decide +kernel
theorem d_X14_feed_89 : decode b_X14_feed 89 = .ok (.aload_n 0, 1) := by decide +kernel
theorem d_X14_feed_90 : decode b_X14_feed 90 = .ok (.getfield 197, 3) := by decide +kernel
theorem d_X14_feed_93 : decode b_X14_feed 93 = .ok (.iload 6, 2) := by decide +kernel
theorem d_X14_feed_95 : decode b_X14_feed 95 = .ok (.iadd, 1) := by decide +kernel
theorem d_X14_feed_96 : decode b_X14_feed 96 = .ok (.iload 7, 2) := by decide +kernel
theorem d_X14_feed_98 : decode b_X14_feed 98 = .ok (.bipush 24, 2) := by decide +kernel
theorem d_X14_feed_100 : decode b_X14_feed 100 = .ok (.bipush 8, 2) := by decide +kernel
theorem d_X14_feed_102 : decode b_X14_feed 102 = .ok (.iload 6, 2) := by decide +kernel
theorem d_X14_feed_104 : decode b_X14_feed 104 = .ok (.iconst 4, 1) := by decide +kernel
theorem d_X14_feed_105 : decode b_X14_feed 105 = .ok (.irem, 1) := by decide +kernel
theorem d_X14_feed_106 : decode b_X14_feed 106 = .ok (.imul, 1) := by decide +kernel
theorem d_X14_feed_107 : decode b_X14_feed 107 = .ok (.isub, 1) := by decide +kernel
theorem d_X14_feed_108 : decode b_X14_feed 108 = .ok (.ishr, 1) := by decide +kernel
theorem d_X14_feed_109 : decode b_X14_feed 109 = .ok (.i2b, 1) := by decide +kernel
theorem d_X14_feed_110 : decode b_X14_feed 110 = .ok (.bastore, 1) := by decide +kernel
theorem d_X14_feed_111 : decode b_X14_feed 111 = .ok (.iinc 6 1, 3) := by decide +kernel
theorem d_X14_feed_114 : decode b_X14_feed 114 = .ok (.goto (-84), 3) := by decide +kernel
theorem d_X14_feed_117 : decode b_X14_feed 117 = .ok (.aload_n 0, 1) := by decide +kernel
theorem d_X14_feed_118 : decode b_X14_feed 118 = .ok (.dup, 1) := by decide +kernel
theorem d_X14_feed_119 : decode b_X14_feed 119 = .ok (.getfield 197, 3) := by decide +kernel
theorem d_X14_feed_122 : decode b_X14_feed 122 = .ok (.bipush 20, 2) := by decide +kernel
theorem d_X14_feed_124 : decode b_X14_feed 124 = .ok (.iadd, 1) := by decide +kernel
theorem d_X14_feed_125 : decode b_X14_feed 125 = .ok (.putfield 197, 3) := by decide +kernel
theorem d_X14_feed_128 : decode b_X14_feed 128 = .ok (.aload_n 0, 1) := by decide +kernel
theorem d_X14_feed_129 : decode b_X14_feed 129 = .ok (.dup, 1) := by decide +kernel
theorem d_X14_feed_130 : decode b_X14_feed 130 = .ok (.getfield 200, 3) := by decide +kernel
theorem d_X14_feed_133 : decode b_X14_feed 133 = .ok (.bipush 20, 2) := by decide +kernel
theorem d_X14_feed_135 : decode b_X14_feed 135 = .ok (.iadd, 1) := by decide +kernel
theorem d_X14_feed_136 : decode b_X14_feed 136 = .ok (.putfield 200, 3) := by decide +kernel
theorem d_X14_feed_139 : decode b_X14_feed 139 = .ok (.aload_n 0, 1) := by decide +kernel
theorem d_X14_feed_140 : decode b_X14_feed 140 = .ok (.getfield 197, 3) := by decide +kernel
theorem d_X14_feed_143 : decode b_X14_feed 143 = .ok (.ireturn, 1) := by decide +kernel
theorem d_X14_end_0 : decode b_X14_end 0 = .ok (.iload_n 1, 1) := by decide +kernel
theorem d_X14_end_1 : decode b_X14_end 1 = .ok (.ifCond .lt 11, 3) := by decide +kernel
theorem d_X14_end_4 : decode b_X14_end 4 = .ok (.iload_n 1, 1) := by decide +kernel
theorem d_X14_end_5 : decode b_X14_end 5 = .ok (.aload_n 0, 1) := by decide +kernel
theorem d_X14_end_6 : decode b_X14_end 6 = .ok (.getfield 197, 3) := by decide +kernel
theorem d_X14_end_9 : decode b_X14_end 9 = .ok (.if_icmp .le 5, 3) := by decide +kernel
theorem d_X14_end_12 : decode b_X14_end 12 = .ok (.iconst (-1), 1) := by decide +kernel
theorem d_X14_end_13 : decode b_X14_end 13 = .ok (.ireturn, 1) := by decide +kernel
theorem d_X14_end_14 : decode b_X14_end 14 = .ok (.aload_n 0, 1) := by decide +kernel
theorem d_X14_end_15 : decode b_X14_end 15 = .ok (.iload_n 1, 1) := by decide +kernel
theorem d_X14_end_16 : decode b_X14_end 16 = .ok (.putfield 197, 3) := by decide +kernel
theorem d_X14_end_19 : decode b_X14_end 19 = .ok (.iload_n 1, 1) := by decide +kernel
theorem d_X14_end_20 : decode b_X14_end 20 = .ok (.ireturn, 1) := by decide +kernel
theorem d_X14_compile_0 : decode b_X14_compile 0 = .ok (.aload_n 0, 1) := by decide +kernel
theorem d_X14_compile_1 : decode b_X14_compile 1 = .ok (.aload_n 0, 1) := by decide +kernel
theorem d_X14_compile_2 : decode b_X14_compile 2 = .ok (.getfield 197, 3) := by decide +kernel
theorem d_X14_compile_5 : decode b_X14_compile 5 = .ok (.putfield 203, 3) := by decide +kernel
theorem d_X14_compile_8 : decode b_X14_compile 8 = .ok (.aload_n 0, 1) := by decide +kernel
theorem d_X14_compile_9 : decode b_X14_compile 9 = .ok (.iconst 0, 1) := by decide +kernel
theorem d_X14_compile_10 : decode b_X14_compile 10 = .ok (.putfield 197, 3) := by decide +kernel
theorem d_X14_compile_13 : decode b_X14_compile 13 = .ok (.aload_n 0, 1) := by decide +kernel
theorem d_X14_compile_14 : decode b_X14_compile 14 = .ok (.iconst (-1), 1) := by decide +kernel
theorem d_X14_compile_15 : decode b_X14_compile 15 = .ok (.putfield 36, 3) := by decide +kernel
theorem d_X14_compile_18 : decode b_X14_compile 18 = .ok (.iload_n 1, 1) := by decide +kernel
theorem d_X14_compile_19 : decode b_X14_compile 19 = .ok (.ifCond .lt 17, 3) := by decide +kernel
theorem d_X14_compile_22 : decode b_X14_compile 22 = .ok (.iload_n 1, 1) := by decide +kernel
theorem d_X14_compile_23 : decode b_X14_compile 23 = .ok (.iconst 3, 1) := by decide +kernel
theorem d_X14_compile_24 : decode b_X14_compile 24 = .ok (.if_icmp .gt 12, 3) := by decide +kernel
theorem d_X14_compile_27 : decode b_X14_compile 27 = .ok (.aload_n 0, 1) := by decide +kernel
theorem d_X14_compile_28 : decode b_X14_compile 28 = .ok (.getfield 327, 3) := by decide +kernel
theorem d_X14_compile_31 : decode b_X14_compile 31 = .ok (.bipush 100, 2) := by decide +kernel
theorem d_X14_compile_33 : decode b_X14_compile 33 = .ok (.if_icmp .ne 6, 3) := by decide +kernel
theorem d_X14_compile_36 : decode b_X14_compile 36 = .ok (.bipush (-14), 2) := by decide +kernel
theorem d_X14_compile_38 : decode b_X14_compile 38 = .ok (.ireturn, 1) := by decide +kernel
theorem d_X14_compile_39 : decode b_X14_compile 39 = .ok (.aload_n 0, 1) := by decide +kernel
theorem d_X14_compile_40 : decode b_X14_compile 40 = .ok (.getfield 315, 3) := by decide +kernel
theorem d_X14_compile_43 : decode b_X14_compile 43 = .ok (.istore_n 2, 1) := by decide +kernel
theorem d_X14_compile_44 : decode b_X14_compile 44 = .ok (.aload_n 0, 1) := by decide +kernel
theorem d_X14_compile_45 : decode b_X14_compile 45 = .ok (.getfield 337, 3) := by decide +kernel
theorem d_X14_compile_48 : decode b_X14_compile 48 = .ok (.istore_n 3, 1) := by decide +kernel
theorem d_X14_compile_49 : decode b_X14_compile 49 = .ok (.aload_n 0, 1) := by decide +kernel
theorem d_X14_compile_50 : decode b_X14_compile 50 = .ok (.getfield 656, 3) := by decide +kernel
theorem d_X14_compile_53 : decode b_X14_compile 53 = .ok (.istore 4, 2) := by decide +kernel
theorem d_X14_compile_55 : decode b_X14_compile 55 = .ok (.aload_n 0, 1) := by decide +kernel
theorem d_X14_compile_56 : decode b_X14_compile 56 = .ok (.getfield 324, 3) := by decide +kernel
theorem d_X14_compile_59 : decode b_X14_compile 59 = .ok (.istore 5, 2) := by decide +kernel
theorem d_X14_compile_61 : decode b_X14_compile 61 = .ok (.aload_n 0, 1) := by decide +kernel
theorem d_X14_compile_62 : decode b_X14_compile 62 = .ok (.getfield 86, 3) := by decide +kernel
theorem d_X14_compile_65 : decode b_X14_compile 65 = .ok (.aload_n 0, 1) := by decide +kernel
theorem d_X14_compile_66 : decode b_X14_compile 66 = .ok (.getfield 327, 3) := by decide +kernel
theorem d_X14_compile_69 : decode b_X14_compile 69 = .ok (.aload_n 0, 1) := by decide +kernel
theorem d_X14_compile_70 : decode b_X14_compile 70 = .ok (.getfield 330, 3) := by decide +kernel
theorem d_X14_compile_73 : decode b_X14_compile 73 = .ok (.iastore, 1) := by decide +kernel
theorem d_X14_compile_74 : decode b_X14_compile 74 = .ok (.aload_n 0, 1) := by decide +kernel
theorem d_X14_compile_75 : decode b_X14_compile 75 = .ok (.getfield 92, 3) := by decide +kernel
theorem d_X14_compile_78 : decode b_X14_compile 78 = .ok (.aload_n 0, 1) := by decide +kernel
theorem d_X14_compile_79 : decode b_X14_compile 79 = .ok (.getfield 327, 3) := by decide +kernel
theorem d_X14_compile_82 : decode b_X14_compile 82 = .ok (.aload_n 0, 1) := by decide +kernel
theorem d_X14_compile_83 : decode b_X14_compile 83 = .ok (.getfield 324, 3) := by decide +kernel
theorem d_X14_compile_86 : decode b_X14_compile 86 = .ok (.iastore, 1) := by decide +kernel
theorem d_X14_compile_87 : decode b_X14_compile 87 = .ok (.aload_n 0, 1) := by decide +kernel
theorem d_X14_compile_88 : decode b_X14_compile 88 = .ok (.iconst 0, 1) := by decide +kernel
theorem d_X14_compile_89 : decode b_X14_compile 89 = .ok (.putfield 515, 3) := by decide +kernel
theorem d_X14_compile_92 : decode b_X14_compile 92 = .ok (.aload_n 0, 1) := by decide +kernel
theorem d_X14_compile_93 : decode b_X14_compile 93 = .ok (.iconst 0, 1) := by decide +kernel
theorem d_X14_compile_94 : decode b_X14_compile 94 = .ok (.putfield 295, 3) := by decide +kernel
theorem d_X14_compile_97 : decode b_X14_compile 97 = .ok (.aload_n 0, 1) := by decide +kernel
theorem d_X14_compile_98 : decode b_X14_compile 98 = .ok (.iconst 0, 1) := by decide +kernel
theorem d_X14_compile_99 : decode b_X14_compile 99 = .ok (.putfield 298, 3) := by decide +kernel
theorem d_X14_compile_102 : decode b_X14_compile 102 = .ok (.aload_n 0, 1) := by decide +kernel
theorem d_X14_compile_103 : decode b_X14_compile 103 = .ok (.iconst 0, 1) := by decide +kernel
theorem d_X14_compile_104 : decode b_X14_compile 104 = .ok (.putfield 340, 3) := by decide +kernel
theorem d_X14_compile_107 : decode b_X14_compile 107 = .ok (.aload_n 0, 1) := by decide +kernel
theorem d_X14_compile_108 : decode b_X14_compile 108 = .ok (.iconst 0, 1) := by decide +kernel
theorem d_X14_compile_109 : decode b_X14_compile 109 = .ok (.putfield 346, 3) := by decide +kernel
theorem d_X14_compile_112 : decode b_X14_compile 112 = .ok (.aload_n 0, 1) := by decide +kernel
theorem d_X14_compile_113 : decode b_X14_compile 113 = .ok (.iconst 0, 1) := by decide +kernel
theorem d_X14_compile_114 : decode b_X14_compile 114 = .ok (.putfield 349, 3) := by decide +kernel
theorem d_X14_compile_117 : decode b_X14_compile 117 = .ok (.aload_n 0, 1) := by decide +kernel
theorem d_X14_compile_118 : decode b_X14_compile 118 = .ok (.invokevirtual 669, 3) := by decide +kernel
theorem d_X14_compile_121 : decode b_X14_compile 121 = .ok (.istore 6, 2) := by decide +kernel
theorem d_X14_compile_123 : decode b_X14_compile 123 = .ok (.iload 6, 2) := by decide +kernel
theorem d_X14_compile_125 : decode b_X14_compile 125 = .ok (.ifCond .ge 41, 3) := by decide +kernel
theorem d_X14_compile_128 : decode b_X14_compile 128 = .ok (.aload_n 0, 1) := by decide +kernel
theorem d_X14_compile_129 : decode b_X14_compile 129 = .ok (.iload_n 2, 1) := by decide +kernel
theorem d_X14_compile_130 : decode b_X14_compile 130 = .ok (.putfield 315, 3) := by decide +kernel
theorem d_X14_compile_133 : decode b_X14_compile 133 = .ok (.aload_n 0, 1) := by decide +kernel
theorem d_X14_compile_134 : decode b_X14_compile 134 = .ok (.iload_n 3, 1) := by decide +kernel
theorem d_X14_compile_135 : decode b_X14_compile 135 = .ok (.putfield 337, 3) := by decide +kernel
theorem d_X14_compile_138 : decode b_X14_compile 138 = .ok (.aload_n 0, 1) := by decide +kernel
theorem d_X14_compile_139 : decode b_X14_compile 139 = .ok (.iload 4, 2) := by decide +kernel
theorem d_X14_compile_141 : decode b_X14_compile 141 = .ok (.putfield 656, 3) := by decide +kernel
theorem d_X14_compile_144 : decode b_X14_compile 144 = .ok (.aload_n 0, 1) := by decide +kernel
theorem d_X14_compile_145 : decode b_X14_compile 145 = .ok (.iload 5, 2) := by decide +kernel
theorem d_X14_compile_147 : decode b_X14_compile 147 = .ok (.putfield 324, 3) := by decide +kernel
theorem d_X14_compile_150 : decode b_X14_compile 150 = .ok (.aload_n 0, 1) := by decide +kernel
theorem d_X14_compile_151 : decode b_X14_compile 151 = .ok (.aload_n 0, 1) := by decide +kernel
theorem d_X14_compile_152 : decode b_X14_compile 152 = .ok (.getfield 86, 3) := by decide +kernel
theorem d_X14_compile_155 : decode b_X14_compile 155 = .ok (.aload_n 0, 1) := by decide +kernel
theorem d_X14_compile_156 : decode b_X14_compile 156 = .ok (.getfield 327, 3) := by decide +kernel
theorem d_X14_compile_159 : decode b_X14_compile 159 = .ok (.iaload, 1) := by decide +kernel
theorem d_X14_compile_160 : decode b_X14_compile 160 = .ok (.putfield 330, 3) := by decide +kernel
theorem d_X14_compile_163 : decode b_X14_compile 163 = .ok (.iload 6, 2) := by decide +kernel
theorem d_X14_compile_165 : decode b_X14_compile 165 = .ok (.ireturn, 1) := by decide +kernel
theorem d_X14_compile_166 : decode b_X14_compile 166 = .ok (.aload_n 0, 1) := by decide +kernel
theorem d_X14_compile_167 : decode b_X14_compile 167 = .ok (.getfield 89, 3) := by decide +kernel
theorem d_X14_compile_170 : decode b_X14_compile 170 = .ok (.aload_n 0, 1) := by decide +kernel
theorem d_X14_compile_171 : decode b_X14_compile 171 = .ok (.getfield 327, 3) := by decide +kernel
theorem d_X14_compile_174 : decode b_X14_compile 174 = .ok (.aload_n 0, 1) := by decide +kernel
theorem d_X14_compile_175 : decode b_X14_compile 175 = .ok (.getfield 515, 3) := by decide +kernel
theorem d_X14_compile_178 : decode b_X14_compile 178 = .ok (.iastore, 1) := by decide +kernel
theorem d_X14_compile_179 : decode b_X14_compile 179 = .ok (.aload_n 0, 1) := by decide +kernel
theorem d_X14_compile_180 : decode b_X14_compile 180 = .ok (.dup, 1) := by decide +kernel
theorem d_X14_compile_181 : decode b_X14_compile 181 = .ok (.getfield 327, 3) := by decide +kernel
theorem d_X14_compile_184 : decode b_X14_compile 184 = .ok (.iconst 1, 1) := by decide +kernel
theorem d_X14_compile_185 : decode b_X14_compile 185 = .ok (.iadd, 1) := by decide +kernel
theorem d_X14_compile_186 : decode b_X14_compile 186 = .ok (.putfield 327, 3) := by decide +kernel
theorem d_X14_compile_189 : decode b_X14_compile 189 = .ok (.aload_n 0, 1) := by decide +kernel
theorem d_X14_compile_190 : decode b_X14_compile 190 = .ok (.getfield 86, 3) := by decide +kernel
theorem d_X14_compile_193 : decode b_X14_compile 193 = .ok (.aload_n 0, 1) := by decide +kernel
theorem d_X14_compile_194 : decode b_X14_compile 194 = .ok (.getfield 327, 3) := by decide +kernel
theorem d_X14_compile_197 : decode b_X14_compile 197 = .ok (.aload_n 0, 1) := by decide +kernel
theorem d_X14_compile_198 : decode b_X14_compile 198 = .ok (.getfield 330, 3) := by decide +kernel
theorem d_X14_compile_201 : decode b_X14_compile 201 = .ok (.iastore, 1) := by decide +kernel
theorem d_X14_compile_202 : decode b_X14_compile 202 = .ok (.aload_n 0, 1) := by decide +kernel
theorem d_X14_compile_203 : decode b_X14_compile 203 = .ok (.getfield 92, 3) := by decide +kernel
theorem d_X14_compile_206 : decode b_X14_compile 206 = .ok (.aload_n 0, 1) := by decide +kernel
theorem d_X14_compile_207 : decode b_X14_compile 207 = .ok (.getfield 327, 3) := by decide +kernel
theorem d_X14_compile_210 : decode b_X14_compile 210 = .ok (.aload_n 0, 1) := by decide +kernel
theorem d_X14_compile_211 : decode b_X14_compile 211 = .ok (.getfield 324, 3) := by decide +kernel
theorem d_X14_compile_214 : decode b_X14_compile 214 = .ok (.iastore, 1) := by decide +kernel
theorem d_X14_compile_215 : decode b_X14_compile 215 = .ok (.aload_n 0, 1) := by decide +kernel
theorem d_X14_compile_216 : decode b_X14_compile 216 = .ok (.getfield 327, 3) := by decide +kernel
theorem d_X14_compile_219 : decode b_X14_compile 219 = .ok (.ireturn, 1) := by decide +kernel
theorem d_X14_read_0_0 : decode b_X14_read_0 0 = .ok (.aload_n 0, 1) := by decide +kernel
theorem d_X14_read_0_1 : decode b_X14_read_0 1 = .ok (.invokevirtual 671, 3) := by decide +kernel
theorem d_X14_read_0_4 : decode b_X14_read_0 4 = .ok (.aload_n 0, 1) := by decide +kernel
theorem d_X14_read_0_5 : decode b_X14_read_0 5 = .ok (.iconst 0, 1) := by decide +kernel
theorem d_X14_read_0_6 : decode b_X14_read_0 6 = .ok (.putfield 288, 3) := by decide +kernel
theorem d_X14_read_0_9 : decode b_X14_read_0 9 = .ok (.aload_n 0, 1) := by decide +kernel
theorem d_X14_read_0_10 : decode b_X14_read_0 10 = .ok (.getfield 13, 3) := by decide +kernel
theorem d_X14_read_0_13 : decode b_X14_read_0 13 = .ok (.aload_n 0, 1) := by decide +kernel
theorem d_X14_read_0_14 : decode b_X14_read_0 14 = .ok (.getfield 288, 3) := by decide +kernel
theorem d_X14_read_0_17 : decode b_X14_read_0 17 = .ok (.iaload, 1) := by decide +kernel
theorem d_X14_read_0_18 : decode b_X14_read_0 18 = .ok (.ifCond .eq 28, 3) := by decide +kernel
theorem d_X14_read_0_21 : decode b_X14_read_0 21 = .ok (.aload_n 0, 1) := by decide +kernel
theorem d_X14_read_0_22 : decode b_X14_read_0 22 = .ok (.getfield 13, 3) := by decide +kernel
theorem d_X14_read_0_25 : decode b_X14_read_0 25 = .ok (.aload_n 0, 1) := by decide +kernel
theorem d_X14_read_0_26 : decode b_X14_read_0 26 = .ok (.getfield 288, 3) := by decide +kernel
theorem d_X14_read_0_29 : decode b_X14_read_0 29 = .ok (.iaload, 1) := by decide +kernel
theorem d_X14_read_0_30 : decode b_X14_read_0 30 = .ok (.iconst 1, 1) := by decide +kernel
theorem d_X14_read_0_31 : decode b_X14_read_0 31 = .ok (.if_icmp .ne 8, 3) := by decide +kernel
theorem d_X14_read_0_34 : decode b_X14_read_0 34 = .ok (.aload_n 0, 1) := by decide +kernel
theorem d_X14_read_0_35 : decode b_X14_read_0 35 = .ok (.invokevirtual 311, 3) := by decide +kernel
theorem d_X14_read_0_38 : decode b_X14_read_0 38 = .ok (.athrow, 1) := by decide +kernel
theorem d_X14_read_0_39 : decode b_X14_read_0 39 = .ok (.aload_n 0, 1) := by decide +kernel
theorem d_X14_read_0_40 : decode b_X14_read_0 40 = .ok (.invokevirtual 674, 3) := by decide +kernel
theorem d_X14_read_0_43 : decode b_X14_read_0 43 = .ok (.goto (-34), 3) := by decide +kernel
theorem d_X14_read_0_46 : decode b_X14_read_0 46 = .ok (.goto 7, 3) := by decide +kernel
theorem d_X14_read_0_49 : decode b_X14_read_0 49 = .ok (.astore_n 1, 1) := by decide +kernel
theorem d_X14_read_0_50 : decode b_X14_read_0 50 = .ok (.bipush (-21), 2) := by decide +kernel
theorem d_X14_read_0_52 : decode b_X14_read_0 52 = .ok (.ireturn, 1) := by decide +kernel
theorem d_X14_read_0_53 : decode b_X14_read_0 53 = .ok (.aload_n 0, 1) := by decide +kernel
theorem d_X14_read_0_54 : decode b_X14_read_0 54 = .ok (.invokevirtual 677, 3) := by decide +kernel
theorem d_X14_read_0_57 : decode b_X14_read_0 57 = .ok (.aload_n 0, 1) := by decide +kernel
theorem d_X14_read_0_58 : decode b_X14_read_0 58 = .ok (.getfield 295, 3) := by decide +kernel
theorem d_X14_read_0_61 : decode b_X14_read_0 61 = .ok (.ifCond .ne 5, 3) := by decide +kernel
theorem d_X14_read_0_64 : decode b_X14_read_0 64 = .ok (.iconst 0, 1) := by decide +kernel
theorem d_X14_read_0_65 : decode b_X14_read_0 65 = .ok (.ireturn, 1) := by decide +kernel
theorem d_X14_read_0_66 : decode b_X14_read_0 66 = .ok (.aload_n 0, 1) := by decide +kernel
theorem d_X14_read_0_67 : decode b_X14_read_0 67 = .ok (.aload_n 0, 1) := by decide +kernel
theorem d_X14_read_0_68 : decode b_X14_read_0 68 = .ok (.getfield 301, 3) := by decide +kernel
theorem d_X14_read_0_71 : decode b_X14_read_0 71 = .ok (.putfield 36, 3) := by decide +kernel
theorem d_X14_read_0_74 : decode b_X14_read_0 74 = .ok (.bipush (-20), 2) := by decide +kernel
theorem d_X14_read_0_76 : decode b_X14_read_0 76 = .ok (.aload_n 0, 1) := by decide +kernel
theorem d_X14_read_0_77 : decode b_X14_read_0 77 = .ok (.getfield 295, 3) := by decide +kernel
theorem d_X14_read_0_80 : decode b_X14_read_0 80 = .ok (.isub, 1) := by decide +kernel
theorem d_X14_read_0_81 : decode b_X14_read_0 81 = .ok (.ireturn, 1) := by decide +kernel
theorem d_X14_cut_0 : decode b_X14_cut 0 = .ok (.aload_n 0, 1) := by decide +kernel
theorem d_X14_cut_1 : decode b_X14_cut 1 = .ok (.iconst 0, 1) := by decide +kernel
theorem d_X14_cut_2 : decode b_X14_cut 2 = .ok (.putfield 206, 3) := by decide +kernel
theorem d_X14_cut_5 : decode b_X14_cut 5 = .ok (.iconst 0, 1) := by decide +kernel
theorem d_X14_cut_6 : decode b_X14_cut 6 = .ok (.istore_n 1, 1) := by decide +kernel
theorem d_X14_cut_7 : decode b_X14_cut 7 = .ok (.iconst 1, 1) := by decide +kernel
theorem d_X14_cut_8 : decode b_X14_cut 8 = .ok (.istore_n 2, 1) := by decide +kernel
theorem d_X14_cut_9 : decode b_X14_cut 9 = .ok (.iload_n 1, 1) := by decide +kernel
theorem d_X14_cut_10 : decode b_X14_cut 10 = .ok (.aload_n 0, 1) := by decide +kernel
theorem d_X14_cut_11 : decode b_X14_cut 11 = .ok (.getfield 203, 3) := by decide +kernel
theorem d_X14_cut_14 : decode b_X14_cut 14 = .ok (.if_icmp .ge 173, 3) := by decide +kernel
theorem d_X14_cut_17 : decode b_X14_cut 17 = .ok (.aload_n 0, 1) := by decide +kernel
theorem d_X14_cut_18 : decode b_X14_cut 18 = .ok (.iload_n 1, 1) := by decide +kernel
theorem d_X14_cut_19 : decode b_X14_cut 19 = .ok (.invokevirtual 209, 3) := by decide +kernel
theorem d_X14_cut_22 : decode b_X14_cut 22 = .ok (.istore_n 3, 1) := by decide +kernel
theorem d_X14_cut_23 : decode b_X14_cut 23 = .ok (.aload_n 0, 1) := by decide +kernel
theorem d_X14_cut_24 : decode b_X14_cut 24 = .ok (.getfield 206, 3) := by decide +kernel
theorem d_X14_cut_27 : decode b_X14_cut 27 = .ok (.istore 4, 2) := by decide +kernel
theorem d_X14_cut_29 : decode b_X14_cut 29 = .ok (.iload_n 1, 1) := by decide +kernel
theorem d_X14_cut_30 : decode b_X14_cut 30 = .ok (.iconst 1, 1) := by decide +kernel
theorem d_X14_cut_31 : decode b_X14_cut 31 = .ok (.iadd, 1) := by decide +kernel
theorem d_X14_cut_32 : decode b_X14_cut 32 = .ok (.istore 5, 2) := by decide +kernel
theorem d_X14_cut_34 : decode b_X14_cut 34 = .ok (.iload_n 3, 1) := by decide +kernel
theorem d_X14_cut_35 : decode b_X14_cut 35 = .ok (.invokestatic 213, 3) := by decide +kernel
theorem d_X14_cut_38 : decode b_X14_cut 38 = .ok (.ifCond .ne 16, 3) := by decide +kernel
theorem d_X14_cut_41 : decode b_X14_cut 41 = .ok (.aload_n 0, 1) := by decide +kernel
theorem d_X14_cut_42 : decode b_X14_cut 42 = .ok (.iconst 1, 1) := by decide +kernel
theorem d_X14_cut_43 : decode b_X14_cut 43 = .ok (.iload_n 1, 1) := by decide +kernel
theorem d_X14_cut_44 : decode b_X14_cut 44 = .ok (.iload 5, 2) := by decide +kernel
theorem d_X14_cut_46 : decode b_X14_cut 46 = .ok (.iload_n 2, 1) := by decide +kernel
theorem d_X14_cut_47 : decode b_X14_cut 47 = .ok (.iconst 0, 1) := by decide +kernel
theorem d_X14_cut_48 : decode b_X14_cut 48 = .ok (.invokevirtual 217, 3) := by decide +kernel
theorem d_X14_cut_51 : decode b_X14_cut 51 = .ok (.goto 75, 3) := by decide +kernel
theorem d_X14_cut_54 : decode b_X14_cut 54 = .ok (.iload_n 3, 1) := by decide +kernel
theorem d_X14_cut_55 : decode b_X14_cut 55 = .ok (.bipush 47, 2) := by decide +kernel
theorem d_X14_cut_57 : decode b_X14_cut 57 = .ok (.if_icmp .ne 25, 3) := by decide +kernel
theorem d_X14_cut_60 : decode b_X14_cut 60 = .ok (.aload_n 0, 1) := by decide +kernel
theorem d_X14_cut_61 : decode b_X14_cut 61 = .ok (.iload_n 1, 1) := by decide +kernel
theorem d_X14_cut_62 : decode b_X14_cut 62 = .ok (.iconst 1, 1) := by decide +kernel
theorem d_X14_cut_63 : decode b_X14_cut 63 = .ok (.iadd, 1) := by decide +kernel
theorem d_X14_cut_64 : decode b_X14_cut 64 = .ok (.invokevirtual 209, 3) := by decide +kernel
theorem d_X14_cut_67 : decode b_X14_cut 67 = .ok (.bipush 47, 2) := by decide +kernel
theorem d_X14_cut_69 : decode b_X14_cut 69 = .ok (.if_icmp .ne 13, 3) := by decide +kernel
theorem d_X14_cut_72 : decode b_X14_cut 72 = .ok (.aload_n 0, 1) := by decide +kernel
theorem d_X14_cut_73 : decode b_X14_cut 73 = .ok (.iload_n 1, 1) := by decide +kernel
theorem d_X14_cut_74 : decode b_X14_cut 74 = .ok (.invokevirtual 221, 3) := by decide +kernel
theorem d_X14_cut_77 : decode b_X14_cut 77 = .ok (.istore 5, 2) := by decide +kernel
theorem d_X14_cut_79 : decode b_X14_cut 79 = .ok (.goto 47, 3) := by decide +kernel
theorem d_X14_cut_82 : decode b_X14_cut 82 = .ok (.iload_n 3, 1) := by decide +kernel
theorem d_X14_cut_83 : decode b_X14_cut 83 = .ok (.bipush 47, 2) := by decide +kernel
theorem d_X14_cut_85 : decode b_X14_cut 85 = .ok (.if_icmp .ne 26, 3) := by decide +kernel
theorem d_X14_cut_88 : decode b_X14_cut 88 = .ok (.aload_n 0, 1) := by decide +kernel
theorem d_X14_cut_89 : decode b_X14_cut 89 = .ok (.iload_n 1, 1) := by decide +kernel
theorem d_X14_cut_90 : decode b_X14_cut 90 = .ok (.iconst 1, 1) := by decide +kernel
theorem d_X14_cut_91 : decode b_X14_cut 91 = .ok (.iadd, 1) := by decide +kernel
theorem d_X14_cut_92 : decode b_X14_cut 92 = .ok (.invokevirtual 209, 3) := by decide +kernel
theorem d_X14_cut_95 : decode b_X14_cut 95 = .ok (.bipush 42, 2) := by decide +kernel
theorem d_X14_cut_97 : decode b_X14_cut 97 = .ok (.if_icmp .ne 14, 3) := by decide +kernel
theorem d_X14_cut_100 : decode b_X14_cut 100 = .ok (.aload_n 0, 1) := by decide +kernel
theorem d_X14_cut_101 : decode b_X14_cut 101 = .ok (.iload_n 1, 1) := by decide +kernel
theorem d_X14_cut_102 : decode b_X14_cut 102 = .ok (.iload_n 2, 1) := by decide +kernel
theorem d_X14_cut_103 : decode b_X14_cut 103 = .ok (.invokevirtual 224, 3) := by decide +kernel
theorem d_X14_cut_106 : decode b_X14_cut 106 = .ok (.istore 5, 2) := by decide +kernel
theorem d_X14_cut_108 : decode b_X14_cut 108 = .ok (.goto 18, 3) := by decide +kernel
theorem d_X14_cut_111 : decode b_X14_cut 111 = .ok (.iload_n 3, 1) := by decide +kernel
theorem d_X14_cut_112 : decode b_X14_cut 112 = .ok (.invokestatic 228, 3) := by decide +kernel
theorem d_X14_cut_115 : decode b_X14_cut 115 = .ok (.ifCond .ne 11, 3) := by decide +kernel
theorem d_X14_cut_118 : decode b_X14_cut 118 = .ok (.aload_n 0, 1) := by decide +kernel
theorem d_X14_cut_119 : decode b_X14_cut 119 = .ok (.iload_n 1, 1) := by decide +kernel
theorem d_X14_cut_120 : decode b_X14_cut 120 = .ok (.iload_n 2, 1) := by decide +kernel
theorem d_X14_cut_121 : decode b_X14_cut 121 = .ok (.invokevirtual 231, 3) := by decide +kernel
theorem d_X14_cut_124 : decode b_X14_cut 124 = .ok (.istore 5, 2) := by decide +kernel
theorem d_X14_cut_126 : decode b_X14_cut 126 = .ok (.aload_n 0, 1) := by decide +kernel
theorem d_X14_cut_127 : decode b_X14_cut 127 = .ok (.getfield 206, 3) := by decide +kernel
theorem d_X14_cut_130 : decode b_X14_cut 130 = .ok (.iload 4, 2) := by decide +kernel
theorem d_X14_cut_132 : decode b_X14_cut 132 = .ok (.if_icmp .le 19, 3) := by decide +kernel
theorem d_X14_cut_135 : decode b_X14_cut 135 = .ok (.aload_n 0, 1) := by decide +kernel
theorem d_X14_cut_136 : decode b_X14_cut 136 = .ok (.getfield 13, 3) := by decide +kernel
theorem d_X14_cut_139 : decode b_X14_cut 139 = .ok (.aload_n 0, 1) := by decide +kernel
theorem d_X14_cut_140 : decode b_X14_cut 140 = .ok (.getfield 206, 3) := by decide +kernel
theorem d_X14_cut_143 : decode b_X14_cut 143 = .ok (.iconst 1, 1) := by decide +kernel
theorem d_X14_cut_144 : decode b_X14_cut 144 = .ok (.isub, 1) := by decide +kernel
theorem d_X14_cut_145 : decode b_X14_cut 145 = .ok (.iaload, 1) := by decide +kernel
theorem d_X14_cut_146 : decode b_X14_cut 146 = .ok (.iconst 1, 1) := by decide +kernel
theorem d_X14_cut_147 : decode b_X14_cut 147 = .ok (.if_icmp .ne 4, 3) := by decide +kernel
theorem d_X14_cut_150 : decode b_X14_cut 150 = .ok (.return_, 1) := by decide +kernel
theorem d_X14_cut_151 : decode b_X14_cut 151 = .ok (.iload_n 1, 1) := by decide +kernel
theorem d_X14_cut_152 : decode b_X14_cut 152 = .ok (.istore 6, 2) := by decide +kernel
theorem d_X14_cut_154 : decode b_X14_cut 154 = .ok (.iload 6, 2) := by decide +kernel
theorem d_X14_cut_156 : decode b_X14_cut 156 = .ok (.iload 5, 2) := by decide +kernel
theorem d_X14_cut_158 : decode b_X14_cut 158 = .ok (.if_icmp .ge 23, 3) := by decide +kernel
theorem d_X14_cut_161 : decode b_X14_cut 161 = .ok (.aload_n 0, 1) := by decide +kernel
theorem d_X14_cut_162 : decode b_X14_cut 162 = .ok (.iload 6, 2) := by decide +kernel
theorem d_X14_cut_164 : decode b_X14_cut 164 = .ok (.invokevirtual 209, 3) := by decide +kernel
theorem d_X14_cut_167 : decode b_X14_cut 167 = .ok (.bipush 10, 2) := by decide +kernel
theorem d_X14_cut_169 : decode b_X14_cut 169 = .ok (.if_icmp .ne 6, 3) := by decide +kernel
theorem d_X14_cut_172 : decode b_X14_cut 172 = .ok (.iinc 2 1, 3) := by decide +kernel
theorem d_X14_cut_175 : decode b_X14_cut 175 = .ok (.iinc 6 1, 3) := by decide +kernel
theorem d_X14_cut_178 : decode b_X14_cut 178 = .ok (.goto (-24), 3) := by decide +kernel
theorem d_X14_cut_181 : decode b_X14_cut 181 = .ok (.iload 5, 2) := by decide +kernel
theorem d_X14_cut_183 : decode b_X14_cut 183 = .ok (.istore_n 1, 1) := by decide +kernel
theorem d_X14_cut_184 : decode b_X14_cut 184 = .ok (.goto (-175), 3) := by decide +kernel
theorem d_X14_cut_187 : decode b_X14_cut 187 = .ok (.aload_n 0, 1) := by decide +kernel
theorem d_X14_cut_188 : decode b_X14_cut 188 = .ok (.iconst 0, 1) := by decide +kernel
theorem d_X14_cut_189 : decode b_X14_cut 189 = .ok (.aload_n 0, 1) := by decide +kernel
theorem d_X14_cut_190 : decode b_X14_cut 190 = .ok (.getfield 203, 3) := by decide +kernel
theorem d_X14_cut_193 : decode b_X14_cut 193 = .ok (.aload_n 0, 1) := by decide +kernel
theorem d_X14_cut_194 : decode b_X14_cut 194 = .ok (.getfield 203, 3) := by decide +kernel
theorem d_X14_cut_197 : decode b_X14_cut 197 = .ok (.iload_n 2, 1) := by decide +kernel
theorem d_X14_cut_198 : decode b_X14_cut 198 = .ok (.iconst 0, 1) := by decide +kernel
theorem d_X14_cut_199 : decode b_X14_cut 199 = .ok (.invokevirtual 217, 3) := by decide +kernel
theorem d_X14_cut_202 : decode b_X14_cut 202 = .ok (.return_, 1) := by decide +kernel
theorem d_X14_look_0 : decode b_X14_look 0 = .ok (.iload_n 1, 1) := by decide +kernel
theorem d_X14_look_1 : decode b_X14_look 1 = .ok (.aload_n 0, 1) := by decide +kernel
theorem d_X14_look_2 : decode b_X14_look 2 = .ok (.getfield 203, 3) := by decide +kernel
theorem d_X14_look_5 : decode b_X14_look 5 = .ok (.if_icmp .ge 16, 3) := by decide +kernel
theorem d_X14_look_8 : decode b_X14_look 8 = .ok (.aload_n 0, 1) := by decide +kernel
theorem d_X14_look_9 : decode b_X14_look 9 = .ok (.getfield 9, 3) := by decide +kernel
theorem d_X14_look_12 : decode b_X14_look 12 = .ok (.iload_n 1, 1) := by decide +kernel
theorem d_X14_look_13 : decode b_X14_look 13 = .ok (.baload, 1) := by decide +kernel
theorem d_X14_look_14 : decode b_X14_look 14 = .ok (.sipush 255, 3) := by decide +kernel
theorem d_X14_look_17 : decode b_X14_look 17 = .ok (.iand, 1) := by decide +kernel
theorem d_X14_look_18 : decode b_X14_look 18 = .ok (.goto 4, 3) := by decide +kernel
theorem d_X14_look_21 : decode b_X14_look 21 = .ok (.iconst (-1), 1) := by decide +kernel
theorem d_X14_look_22 : decode b_X14_look 22 = .ok (.ireturn, 1) := by decide +kernel
theorem d_X14_isAllowed_0 : decode b_X14_isAllowed 0 = .ok (.iload_n 0, 1) := by decide +kernel
theorem d_X14_isAllowed_1 : decode b_X14_isAllowed 1 = .ok (.bipush 9, 2) := by decide +kernel
theorem d_X14_isAllowed_3 : decode b_X14_isAllowed 3 = .ok (.if_icmp .eq 27, 3) := by decide +kernel
theorem d_X14_isAllowed_6 : decode b_X14_isAllowed 6 = .ok (.iload_n 0, 1) := by decide +kernel
theorem d_X14_isAllowed_7 : decode b_X14_isAllowed 7 = .ok (.bipush 10, 2) := by decide +kernel
theorem d_X14_isAllowed_9 : decode b_X14_isAllowed 9 = .ok (.if_icmp .eq 21, 3) := by decide +kernel
theorem d_X14_isAllowed_12 : decode b_X14_isAllowed 12 = .ok (.iload_n 0, 1) := by decide +kernel
theorem d_X14_isAllowed_13 : decode b_X14_isAllowed 13 = .ok (.bipush 13, 2) := by decide +kernel
theorem d_X14_isAllowed_15 : decode b_X14_isAllowed 15 = .ok (.if_icmp .eq 15, 3) := by decide +kernel
theorem d_X14_isAllowed_18 : decode b_X14_isAllowed 18 = .ok (.iload_n 0, 1) := by decide +kernel
theorem d_X14_isAllowed_19 : decode b_X14_isAllowed 19 = .ok (.bipush 32, 2) := by decide +kernel
theorem d_X14_isAllowed_21 : decode b_X14_isAllowed 21 = .ok (.if_icmp .lt 13, 3) := by decide +kernel
theorem d_X14_isAllowed_24 : decode b_X14_isAllowed 24 = .ok (.iload_n 0, 1) := by decide +kernel
theorem d_X14_isAllowed_25 : decode b_X14_isAllowed 25 = .ok (.bipush 126, 2) := by decide +kernel
theorem d_X14_isAllowed_27 : decode b_X14_isAllowed 27 = .ok (.if_icmp .gt 7, 3) := by decide +kernel
theorem d_X14_isAllowed_30 : decode b_X14_isAllowed 30 = .ok (.iconst 1, 1) := by decide +kernel
theorem d_X14_isAllowed_31 : decode b_X14_isAllowed 31 = .ok (.goto 4, 3) := by decide +kernel
theorem d_X14_isAllowed_34 : decode b_X14_isAllowed 34 = .ok (.iconst 0, 1) := by decide +kernel
theorem d_X14_isAllowed_35 : decode b_X14_isAllowed 35 = .ok (.ireturn, 1) := by decide +kernel
theorem d_X14_token_0 : decode b_X14_token 0 = .ok (.aload_n 0, 1) := by decide +kernel
theorem d_X14_token_1 : decode b_X14_token 1 = .ok (.getfield 13, 3) := by decide +kernel
theorem d_X14_token_4 : decode b_X14_token 4 = .ok (.aload_n 0, 1) := by decide +kernel
theorem d_X14_token_5 : decode b_X14_token 5 = .ok (.getfield 206, 3) := by decide +kernel
theorem d_X14_token_8 : decode b_X14_token 8 = .ok (.iload_n 1, 1) := by decide +kernel
theorem d_X14_token_9 : decode b_X14_token 9 = .ok (.iastore, 1) := by decide +kernel
theorem d_X14_token_10 : decode b_X14_token 10 = .ok (.aload_n 0, 1) := by decide +kernel
theorem d_X14_token_11 : decode b_X14_token 11 = .ok (.getfield 17, 3) := by decide +kernel
theorem d_X14_token_14 : decode b_X14_token 14 = .ok (.aload_n 0, 1) := by decide +kernel
theorem d_X14_token_15 : decode b_X14_token 15 = .ok (.getfield 206, 3) := by decide +kernel
theorem d_X14_token_18 : decode b_X14_token 18 = .ok (.iload_n 2, 1) := by decide +kernel
theorem d_X14_token_19 : decode b_X14_token 19 = .ok (.iastore, 1) := by decide +kernel
theorem d_X14_token_20 : decode b_X14_token 20 = .ok (.aload_n 0, 1) := by decide +kernel
theorem d_X14_token_21 : decode b_X14_token 21 = .ok (.getfield 20, 3) := by decide +kernel
theorem d_X14_token_24 : decode b_X14_token 24 = .ok (.aload_n 0, 1) := by decide +kernel
theorem d_X14_token_25 : decode b_X14_token 25 = .ok (.getfield 206, 3) := by decide +kernel
theorem d_X14_token_28 : decode b_X14_token 28 = .ok (.iload_n 3, 1) := by decide +kernel
theorem d_X14_token_29 : decode b_X14_token 29 = .ok (.iastore, 1) := by decide +kernel
theorem d_X14_token_30 : decode b_X14_token 30 = .ok (.aload_n 0, 1) := by decide +kernel
theorem d_X14_token_31 : decode b_X14_token 31 = .ok (.getfield 23, 3) := by decide +kernel
theorem d_X14_token_34 : decode b_X14_token 34 = .ok (.aload_n 0, 1) := by decide +kernel
theorem d_X14_token_35 : decode b_X14_token 35 = .ok (.getfield 206, 3) := by decide +kernel
theorem d_X14_token_38 : decode b_X14_token 38 = .ok (.iload 4, 2) := by decide +kernel
theorem d_X14_token_40 : decode b_X14_token 40 = .ok (.iastore, 1) := by decide +kernel
theorem d_X14_token_41 : decode b_X14_token 41 = .ok (.aload_n 0, 1) := by decide +kernel
theorem d_X14_token_42 : decode b_X14_token 42 = .ok (.getfield 26, 3) := by decide +kernel
theorem d_X14_token_45 : decode b_X14_token 45 = .ok (.aload_n 0, 1) := by decide +kernel
theorem d_X14_token_46 : decode b_X14_token 46 = .ok (.getfield 206, 3) := by decide +kernel
theorem d_X14_token_49 : decode b_X14_token 49 = .ok (.iload 5, 2) := by decide +kernel
theorem d_X14_token_51 : decode b_X14_token 51 = .ok (.iastore, 1) := by decide +kernel
theorem d_X14_token_52 : decode b_X14_token 52 = .ok (.aload_n 0, 1) := by decide +kernel
theorem d_X14_token_53 : decode b_X14_token 53 = .ok (.dup, 1) := by decide +kernel
theorem d_X14_token_54 : decode b_X14_token 54 = .ok (.getfield 206, 3) := by decide +kernel
theorem d_X14_token_57 : decode b_X14_token 57 = .ok (.iconst 1, 1) := by decide +kernel
theorem d_X14_token_58 : decode b_X14_token 58 = .ok (.iadd, 1) := by decide +kernel
theorem d_X14_token_59 : decode b_X14_token 59 = .ok (.putfield 206, 3) := by decide +kernel
theorem d_X14_token_62 : decode b_X14_token 62 = .ok (.return_, 1) := by decide +kernel
theorem d_X14_lineEnd_0 : decode b_X14_lineEnd 0 = .ok (.iload_n 1, 1) := by decide +kernel
theorem d_X14_lineEnd_1 : decode b_X14_lineEnd 1 = .ok (.istore_n 2, 1) := by decide +kernel
theorem d_X14_lineEnd_2 : decode b_X14_lineEnd 2 = .ok (.iload_n 2, 1) := by decide +kernel
theorem d_X14_lineEnd_3 : decode b_X14_lineEnd 3 = .ok (.aload_n 0, 1) := by decide +kernel
theorem d_X14_lineEnd_4 : decode b_X14_lineEnd 4 = .ok (.getfield 203, 3) := by decide +kernel
theorem d_X14_lineEnd_7 : decode b_X14_lineEnd 7 = .ok (.if_icmp .ge 36, 3) := by decide +kernel
theorem d_X14_lineEnd_10 : decode b_X14_lineEnd 10 = .ok (.aload_n 0, 1) := by decide +kernel
theorem d_X14_lineEnd_11 : decode b_X14_lineEnd 11 = .ok (.iload_n 2, 1) := by decide +kernel
theorem d_X14_lineEnd_12 : decode b_X14_lineEnd 12 = .ok (.invokevirtual 209, 3) := by decide +kernel
theorem d_X14_lineEnd_15 : decode b_X14_lineEnd 15 = .ok (.bipush 10, 2) := by decide +kernel
theorem d_X14_lineEnd_17 : decode b_X14_lineEnd 17 = .ok (.if_icmp .eq 26, 3) := by decide +kernel
theorem d_X14_lineEnd_20 : decode b_X14_lineEnd 20 = .ok (.aload_n 0, 1) := by decide +kernel
theorem d_X14_lineEnd_21 : decode b_X14_lineEnd 21 = .ok (.iload_n 2, 1) := by decide +kernel
theorem d_X14_lineEnd_22 : decode b_X14_lineEnd 22 = .ok (.invokevirtual 209, 3) := by decide +kernel
theorem d_X14_lineEnd_25 : decode b_X14_lineEnd 25 = .ok (.invokestatic 213, 3) := by decide +kernel
theorem d_X14_lineEnd_28 : decode b_X14_lineEnd 28 = .ok (.ifCond .ne 9, 3) := by decide +kernel
theorem d_X14_lineEnd_31 : decode b_X14_lineEnd 31 = .ok (.aload_n 0, 1) := by decide +kernel
theorem d_X14_lineEnd_32 : decode b_X14_lineEnd 32 = .ok (.iload_n 2, 1) := by decide +kernel
theorem d_X14_lineEnd_33 : decode b_X14_lineEnd 33 = .ok (.invokevirtual 234, 3) := by decide +kernel
theorem d_X14_lineEnd_36 : decode b_X14_lineEnd 36 = .ok (.ireturn, 1) := by decide +kernel
theorem d_X14_lineEnd_37 : decode b_X14_lineEnd 37 = .ok (.iinc 2 1, 3) := by decide +kernel
theorem d_X14_lineEnd_40 : decode b_X14_lineEnd 40 = .ok (.goto (-38), 3) := by decide +kernel
theorem d_X14_lineEnd_43 : decode b_X14_lineEnd 43 = .ok (.iload_n 2, 1) := by decide +kernel
theorem d_X14_lineEnd_44 : decode b_X14_lineEnd 44 = .ok (.ireturn, 1) := by decide +kernel
theorem d_X14_bad_0 : decode b_X14_bad 0 = .ok (.aload_n 0, 1) := by decide +kernel
theorem d_X14_bad_1 : decode b_X14_bad 1 = .ok (.iconst 1, 1) := by decide +kernel
theorem d_X14_bad_2 : decode b_X14_bad 2 = .ok (.iload_n 1, 1) := by decide +kernel
theorem d_X14_bad_3 : decode b_X14_bad 3 = .ok (.iload_n 1, 1) := by decide +kernel
theorem d_X14_bad_4 : decode b_X14_bad 4 = .ok (.iconst 0, 1) := by decide +kernel
theorem d_X14_bad_5 : decode b_X14_bad 5 = .ok (.iconst 0, 1) := by decide +kernel
theorem d_X14_bad_6 : decode b_X14_bad 6 = .ok (.invokevirtual 217, 3) := by decide +kernel
theorem d_X14_bad_9 : decode b_X14_bad 9 = .ok (.iload_n 1, 1) := by decide +kernel
theorem d_X14_bad_10 : decode b_X14_bad 10 = .ok (.ireturn, 1) := by decide +kernel
theorem d_X14_remarkEnd_0 : decode b_X14_remarkEnd 0 = .ok (.iload_n 1, 1) := by decide +kernel
theorem d_X14_remarkEnd_1 : decode b_X14_remarkEnd 1 = .ok (.iconst 2, 1) := by decide +kernel
theorem d_X14_remarkEnd_2 : decode b_X14_remarkEnd 2 = .ok (.iadd, 1) := by decide +kernel
theorem d_X14_remarkEnd_3 : decode b_X14_remarkEnd 3 = .ok (.istore_n 3, 1) := by decide +kernel
theorem d_X14_remarkEnd_4 : decode b_X14_remarkEnd 4 = .ok (.iload_n 3, 1) := by decide +kernel
theorem d_X14_remarkEnd_5 : decode b_X14_remarkEnd 5 = .ok (.aload_n 0, 1) := by decide +kernel
theorem d_X14_remarkEnd_6 : decode b_X14_remarkEnd 6 = .ok (.getfield 203, 3) := by decide +kernel
theorem d_X14_remarkEnd_9 : decode b_X14_remarkEnd 9 = .ok (.if_icmp .ge 48, 3) := by decide +kernel
theorem d_X14_remarkEnd_12 : decode b_X14_remarkEnd 12 = .ok (.aload_n 0, 1) := by decide +kernel
theorem d_X14_remarkEnd_13 : decode b_X14_remarkEnd 13 = .ok (.iload_n 3, 1) := by decide +kernel
theorem d_X14_remarkEnd_14 : decode b_X14_remarkEnd 14 = .ok (.invokevirtual 209, 3) := by decide +kernel
theorem d_X14_remarkEnd_17 : decode b_X14_remarkEnd 17 = .ok (.bipush 42, 2) := by decide +kernel
theorem d_X14_remarkEnd_19 : decode b_X14_remarkEnd 19 = .ok (.if_icmp .ne 15, 3) := by decide +kernel
theorem d_X14_remarkEnd_22 : decode b_X14_remarkEnd 22 = .ok (.aload_n 0, 1) := by decide +kernel
theorem d_X14_remarkEnd_23 : decode b_X14_remarkEnd 23 = .ok (.iload_n 3, 1) := by decide +kernel
theorem d_X14_remarkEnd_24 : decode b_X14_remarkEnd 24 = .ok (.iconst 1, 1) := by decide +kernel
theorem d_X14_remarkEnd_25 : decode b_X14_remarkEnd 25 = .ok (.iadd, 1) := by decide +kernel
theorem d_X14_remarkEnd_26 : decode b_X14_remarkEnd 26 = .ok (.invokevirtual 209, 3) := by decide +kernel
theorem d_X14_remarkEnd_29 : decode b_X14_remarkEnd 29 = .ok (.bipush 47, 2) := by decide +kernel
theorem d_X14_remarkEnd_31 : decode b_X14_remarkEnd 31 = .ok (.if_icmp .eq 26, 3) := by decide +kernel
theorem d_X14_remarkEnd_34 : decode b_X14_remarkEnd 34 = .ok (.aload_n 0, 1) := by decide +kernel
theorem d_X14_remarkEnd_35 : decode b_X14_remarkEnd 35 = .ok (.iload_n 3, 1) := by decide +kernel
theorem d_X14_remarkEnd_36 : decode b_X14_remarkEnd 36 = .ok (.invokevirtual 209, 3) := by decide +kernel
theorem d_X14_remarkEnd_39 : decode b_X14_remarkEnd 39 = .ok (.invokestatic 213, 3) := by decide +kernel
theorem d_X14_remarkEnd_42 : decode b_X14_remarkEnd 42 = .ok (.ifCond .ne 9, 3) := by decide +kernel
theorem d_X14_remarkEnd_45 : decode b_X14_remarkEnd 45 = .ok (.aload_n 0, 1) := by decide +kernel
theorem d_X14_remarkEnd_46 : decode b_X14_remarkEnd 46 = .ok (.iload_n 3, 1) := by decide +kernel
theorem d_X14_remarkEnd_47 : decode b_X14_remarkEnd 47 = .ok (.invokevirtual 234, 3) := by decide +kernel
theorem d_X14_remarkEnd_50 : decode b_X14_remarkEnd 50 = .ok (.ireturn, 1) := by decide +kernel
theorem d_X14_remarkEnd_51 : decode b_X14_remarkEnd 51 = .ok (.iinc 3 1, 3) := by decide +kernel
theorem d_X14_remarkEnd_54 : decode b_X14_remarkEnd 54 = .ok (.goto (-50), 3) := by decide +kernel
theorem d_X14_remarkEnd_57 : decode b_X14_remarkEnd 57 = .ok (.iload_n 3, 1) := by decide +kernel
theorem d_X14_remarkEnd_58 : decode b_X14_remarkEnd 58 = .ok (.aload_n 0, 1) := by decide +kernel
theorem d_X14_remarkEnd_59 : decode b_X14_remarkEnd 59 = .ok (.getfield 203, 3) := by decide +kernel
theorem d_X14_remarkEnd_62 : decode b_X14_remarkEnd 62 = .ok (.if_icmp .ge 9, 3) := by decide +kernel
theorem d_X14_remarkEnd_65 : decode b_X14_remarkEnd 65 = .ok (.iload_n 3, 1) := by decide +kernel
theorem d_X14_remarkEnd_66 : decode b_X14_remarkEnd 66 = .ok (.iconst 2, 1) := by decide +kernel
theorem d_X14_remarkEnd_67 : decode b_X14_remarkEnd 67 = .ok (.iadd, 1) := by decide +kernel
theorem d_X14_remarkEnd_68 : decode b_X14_remarkEnd 68 = .ok (.goto 8, 3) := by decide +kernel
theorem d_X14_remarkEnd_71 : decode b_X14_remarkEnd 71 = .ok (.aload_n 0, 1) := by decide +kernel
theorem d_X14_remarkEnd_72 : decode b_X14_remarkEnd 72 = .ok (.iload_n 1, 1) := by decide +kernel
theorem d_X14_remarkEnd_73 : decode b_X14_remarkEnd 73 = .ok (.invokevirtual 234, 3) := by decide +kernel
theorem d_X14_remarkEnd_76 : decode b_X14_remarkEnd 76 = .ok (.ireturn, 1) := by decide +kernel
theorem d_X14_isBlank_0 : decode b_X14_isBlank 0 = .ok (.iload_n 0, 1) := by decide +kernel
theorem d_X14_isBlank_1 : decode b_X14_isBlank 1 = .ok (.bipush 9, 2) := by decide +kernel
theorem d_X14_isBlank_3 : decode b_X14_isBlank 3 = .ok (.if_icmp .eq 21, 3) := by decide +kernel
theorem d_X14_isBlank_6 : decode b_X14_isBlank 6 = .ok (.iload_n 0, 1) := by decide +kernel
theorem d_X14_isBlank_7 : decode b_X14_isBlank 7 = .ok (.bipush 10, 2) := by decide +kernel
theorem d_X14_isBlank_9 : decode b_X14_isBlank 9 = .ok (.if_icmp .eq 15, 3) := by decide +kernel
theorem d_X14_isBlank_12 : decode b_X14_isBlank 12 = .ok (.iload_n 0, 1) := by decide +kernel
theorem d_X14_isBlank_13 : decode b_X14_isBlank 13 = .ok (.bipush 13, 2) := by decide +kernel
theorem d_X14_isBlank_15 : decode b_X14_isBlank 15 = .ok (.if_icmp .eq 9, 3) := by decide +kernel
theorem d_X14_isBlank_18 : decode b_X14_isBlank 18 = .ok (.iload_n 0, 1) := by decide +kernel
theorem d_X14_isBlank_19 : decode b_X14_isBlank 19 = .ok (.bipush 32, 2) := by decide +kernel
theorem d_X14_isBlank_21 : decode b_X14_isBlank 21 = .ok (.if_icmp .ne 7, 3) := by decide +kernel
theorem d_X14_isBlank_24 : decode b_X14_isBlank 24 = .ok (.iconst 1, 1) := by decide +kernel
theorem d_X14_isBlank_25 : decode b_X14_isBlank 25 = .ok (.goto 4, 3) := by decide +kernel
theorem d_X14_isBlank_28 : decode b_X14_isBlank 28 = .ok (.iconst 0, 1) := by decide +kernel
theorem d_X14_isBlank_29 : decode b_X14_isBlank 29 = .ok (.ireturn, 1) := by decide +kernel
theorem d_X14_one_0_0 : decode b_X14_one_0 0 = .ok (.aload_n 0, 1) := by decide +kernel
theorem d_X14_one_0_1 : decode b_X14_one_0 1 = .ok (.iload_n 1, 1) := by decide +kernel
theorem d_X14_one_0_2 : decode b_X14_one_0 2 = .ok (.invokevirtual 209, 3) := by decide +kernel
theorem d_X14_one_0_5 : decode b_X14_one_0 5 = .ok (.istore_n 3, 1) := by decide +kernel
theorem d_X14_one_0_6 : decode b_X14_one_0 6 = .ok (.iload_n 3, 1) := by decide +kernel
theorem d_X14_one_0_7 : decode b_X14_one_0 7 = .ok (.invokestatic 237, 3) := by decide +kernel
theorem d_X14_one_0_10 : decode b_X14_one_0 10 = .ok (.ifCond .eq 10, 3) := by decide +kernel
theorem d_X14_one_0_13 : decode b_X14_one_0 13 = .ok (.aload_n 0, 1) := by decide +kernel
theorem d_X14_one_0_14 : decode b_X14_one_0 14 = .ok (.iload_n 1, 1) := by decide +kernel
theorem d_X14_one_0_15 : decode b_X14_one_0 15 = .ok (.iload_n 2, 1) := by decide +kernel
theorem d_X14_one_0_16 : decode b_X14_one_0 16 = .ok (.invokevirtual 240, 3) := by decide +kernel
theorem d_X14_one_0_19 : decode b_X14_one_0 19 = .ok (.ireturn, 1) := by decide +kernel
theorem d_X14_one_0_20 : decode b_X14_one_0 20 = .ok (.iload_n 3, 1) := by decide +kernel
theorem d_X14_one_0_21 : decode b_X14_one_0 21 = .ok (.invokestatic 243, 3) := by decide +kernel
theorem d_X14_one_0_24 : decode b_X14_one_0 24 = .ok (.ifCond .eq 10, 3) := by decide +kernel
theorem d_X14_one_0_27 : decode b_X14_one_0 27 = .ok (.aload_n 0, 1) := by decide +kernel
theorem d_X14_one_0_28 : decode b_X14_one_0 28 = .ok (.iload_n 1, 1) := by decide +kernel
theorem d_X14_one_0_29 : decode b_X14_one_0 29 = .ok (.iload_n 2, 1) := by decide +kernel
theorem d_X14_one_0_30 : decode b_X14_one_0 30 = .ok (.invokevirtual 246, 3) := by decide +kernel
theorem d_X14_one_0_33 : decode b_X14_one_0 33 = .ok (.ireturn, 1) := by decide +kernel
theorem d_X14_one_0_34 : decode b_X14_one_0 34 = .ok (.iload_n 3, 1) := by decide +kernel
theorem d_X14_one_0_35 : decode b_X14_one_0 35 = .ok (.bipush 39, 2) := by decide +kernel
theorem d_X14_one_0_37 : decode b_X14_one_0 37 = .ok (.if_icmp .ne 10, 3) := by decide +kernel
theorem d_X14_one_0_40 : decode b_X14_one_0 40 = .ok (.aload_n 0, 1) := by decide +kernel
theorem d_X14_one_0_41 : decode b_X14_one_0 41 = .ok (.iload_n 1, 1) := by decide +kernel
theorem d_X14_one_0_42 : decode b_X14_one_0 42 = .ok (.iload_n 2, 1) := by decide +kernel
theorem d_X14_one_0_43 : decode b_X14_one_0 43 = .ok (.invokevirtual 249, 3) := by decide +kernel
theorem d_X14_one_0_46 : decode b_X14_one_0 46 = .ok (.ireturn, 1) := by decide +kernel
theorem d_X14_one_0_47 : decode b_X14_one_0 47 = .ok (.iload_n 3, 1) := by decide +kernel
theorem d_X14_one_0_48 : decode b_X14_one_0 48 = .ok (.bipush 34, 2) := by decide +kernel
theorem d_X14_one_0_50 : decode b_X14_one_0 50 = .ok (.if_icmp .ne 10, 3) := by decide +kernel
theorem d_X14_one_0_53 : decode b_X14_one_0 53 = .ok (.aload_n 0, 1) := by decide +kernel
theorem d_X14_one_0_54 : decode b_X14_one_0 54 = .ok (.iload_n 1, 1) := by decide +kernel
theorem d_X14_one_0_55 : decode b_X14_one_0 55 = .ok (.iload_n 2, 1) := by decide +kernel
theorem d_X14_one_0_56 : decode b_X14_one_0 56 = .ok (.invokevirtual 252, 3) := by decide +kernel
theorem d_X14_one_0_59 : decode b_X14_one_0 59 = .ok (.ireturn, 1) := by decide +kernel
theorem d_X14_one_0_60 : decode b_X14_one_0 60 = .ok (.aload_n 0, 1) := by decide +kernel
theorem d_X14_one_0_61 : decode b_X14_one_0 61 = .ok (.iload_n 1, 1) := by decide +kernel
theorem d_X14_one_0_62 : decode b_X14_one_0 62 = .ok (.iload_n 2, 1) := by decide +kernel
theorem d_X14_one_0_63 : decode b_X14_one_0 63 = .ok (.invokevirtual 255, 3) := by decide +kernel
theorem d_X14_one_0_66 : decode b_X14_one_0 66 = .ok (.ireturn, 1) := by decide +kernel
theorem d_X14_isLetter_0 : decode b_X14_isLetter 0 = .ok (.iload_n 0, 1) := by decide +kernel
theorem d_X14_isLetter_1 : decode b_X14_isLetter 1 = .ok (.bipush 97, 2) := by decide +kernel
theorem d_X14_isLetter_3 : decode b_X14_isLetter 3 = .ok (.if_icmp .lt 9, 3) := by decide +kernel
theorem d_X14_isLetter_6 : decode b_X14_isLetter 6 = .ok (.iload_n 0, 1) := by decide +kernel
theorem d_X14_isLetter_7 : decode b_X14_isLetter 7 = .ok (.bipush 122, 2) := by decide +kernel
theorem d_X14_isLetter_9 : decode b_X14_isLetter 9 = .ok (.if_icmp .le 21, 3) := by decide +kernel
theorem d_X14_isLetter_12 : decode b_X14_isLetter 12 = .ok (.iload_n 0, 1) := by decide +kernel
theorem d_X14_isLetter_13 : decode b_X14_isLetter 13 = .ok (.bipush 65, 2) := by decide +kernel
theorem d_X14_isLetter_15 : decode b_X14_isLetter 15 = .ok (.if_icmp .lt 9, 3) := by decide +kernel
theorem d_X14_isLetter_18 : decode b_X14_isLetter 18 = .ok (.iload_n 0, 1) := by decide +kernel
theorem d_X14_isLetter_19 : decode b_X14_isLetter 19 = .ok (.bipush 90, 2) := by decide +kernel
theorem d_X14_isLetter_21 : decode b_X14_isLetter 21 = .ok (.if_icmp .le 9, 3) := by decide +kernel
theorem d_X14_isLetter_24 : decode b_X14_isLetter 24 = .ok (.iload_n 0, 1) := by decide +kernel
theorem d_X14_isLetter_25 : decode b_X14_isLetter 25 = .ok (.bipush 95, 2) := by decide +kernel
theorem d_X14_isLetter_27 : decode b_X14_isLetter 27 = .ok (.if_icmp .ne 7, 3) := by decide +kernel
theorem d_X14_isLetter_30 : decode b_X14_isLetter 30 = .ok (.iconst 1, 1) := by decide +kernel
theorem d_X14_isLetter_31 : decode b_X14_isLetter 31 = .ok (.goto 4, 3) := by decide +kernel
theorem d_X14_isLetter_34 : decode b_X14_isLetter 34 = .ok (.iconst 0, 1) := by decide +kernel
theorem d_X14_isLetter_35 : decode b_X14_isLetter 35 = .ok (.ireturn, 1) := by decide +kernel
theorem d_X14_nameEnd_0 : decode b_X14_nameEnd 0 = .ok (.iload_n 1, 1) := by decide +kernel
theorem d_X14_nameEnd_1 : decode b_X14_nameEnd 1 = .ok (.istore_n 3, 1) := by decide +kernel
theorem d_X14_nameEnd_2 : decode b_X14_nameEnd 2 = .ok (.aload_n 0, 1) := by decide +kernel
theorem d_X14_nameEnd_3 : decode b_X14_nameEnd 3 = .ok (.iload_n 3, 1) := by decide +kernel
theorem d_X14_nameEnd_4 : decode b_X14_nameEnd 4 = .ok (.invokevirtual 209, 3) := by decide +kernel
theorem d_X14_nameEnd_7 : decode b_X14_nameEnd 7 = .ok (.invokestatic 237, 3) := by decide +kernel
theorem d_X14_nameEnd_10 : decode b_X14_nameEnd 10 = .ok (.ifCond .ne 14, 3) := by decide +kernel
theorem d_X14_nameEnd_13 : decode b_X14_nameEnd 13 = .ok (.aload_n 0, 1) := by decide +kernel
theorem d_X14_nameEnd_14 : decode b_X14_nameEnd 14 = .ok (.iload_n 3, 1) := by decide +kernel
theorem d_X14_nameEnd_15 : decode b_X14_nameEnd 15 = .ok (.invokevirtual 209, 3) := by decide +kernel
theorem d_X14_nameEnd_18 : decode b_X14_nameEnd 18 = .ok (.invokestatic 243, 3) := by decide +kernel
theorem d_X14_nameEnd_21 : decode b_X14_nameEnd 21 = .ok (.ifCond .eq 9, 3) := by decide +kernel
theorem d_X14_nameEnd_24 : decode b_X14_nameEnd 24 = .ok (.iinc 3 1, 3) := by decide +kernel
theorem d_X14_nameEnd_27 : decode b_X14_nameEnd 27 = .ok (.goto (-25), 3) := by decide +kernel
theorem d_X14_nameEnd_30 : decode b_X14_nameEnd 30 = .ok (.iload_n 3, 1) := by decide +kernel
theorem d_X14_nameEnd_31 : decode b_X14_nameEnd 31 = .ok (.iload_n 1, 1) := by decide +kernel
theorem d_X14_nameEnd_32 : decode b_X14_nameEnd 32 = .ok (.isub, 1) := by decide +kernel
theorem d_X14_nameEnd_33 : decode b_X14_nameEnd 33 = .ok (.bipush 24, 2) := by decide +kernel
theorem d_X14_nameEnd_35 : decode b_X14_nameEnd 35 = .ok (.if_icmp .le 9, 3) := by decide +kernel
theorem d_X14_nameEnd_38 : decode b_X14_nameEnd 38 = .ok (.aload_n 0, 1) := by decide +kernel
theorem d_X14_nameEnd_39 : decode b_X14_nameEnd 39 = .ok (.iload_n 1, 1) := by decide +kernel
theorem d_X14_nameEnd_40 : decode b_X14_nameEnd 40 = .ok (.invokevirtual 234, 3) := by decide +kernel
theorem d_X14_nameEnd_43 : decode b_X14_nameEnd 43 = .ok (.ireturn, 1) := by decide +kernel
theorem d_X14_nameEnd_44 : decode b_X14_nameEnd 44 = .ok (.aload_n 0, 1) := by decide +kernel
theorem d_X14_nameEnd_45 : decode b_X14_nameEnd 45 = .ok (.iload_n 1, 1) := by decide +kernel
theorem d_X14_nameEnd_46 : decode b_X14_nameEnd 46 = .ok (.iload_n 3, 1) := by decide +kernel
theorem d_X14_nameEnd_47 : decode b_X14_nameEnd 47 = .ok (.ldc_w 258, 3) := by decide +kernel
theorem d_X14_nameEnd_50 : decode b_X14_nameEnd 50 = .ok (.invokevirtual 260, 3) := by decide +kernel
theorem d_X14_nameEnd_53 : decode b_X14_nameEnd 53 = .ok (.istore 4, 2) := by decide +kernel
theorem d_X14_nameEnd_55 : decode b_X14_nameEnd 55 = .ok (.aload_n 0, 1) := by decide +kernel
theorem d_X14_nameEnd_56 : decode b_X14_nameEnd 56 = .ok (.iload 4, 2) := by decide +kernel
theorem d_X14_nameEnd_58 : decode b_X14_nameEnd 58 = .ok (.ifCond .lt 10, 3) := by decide +kernel
theorem d_X14_nameEnd_61 : decode b_X14_nameEnd 61 = .ok (.iconst 5, 1) := by decide +kernel
theorem d_X14_nameEnd_62 : decode b_X14_nameEnd 62 = .ok (.iload 4, 2) := by decide +kernel
theorem d_X14_nameEnd_64 : decode b_X14_nameEnd 64 = .ok (.iadd, 1) := by decide +kernel
theorem d_X14_nameEnd_65 : decode b_X14_nameEnd 65 = .ok (.goto 4, 3) := by decide +kernel
theorem d_X14_nameEnd_68 : decode b_X14_nameEnd 68 = .ok (.iconst 2, 1) := by decide +kernel
theorem d_X14_nameEnd_69 : decode b_X14_nameEnd 69 = .ok (.iload_n 1, 1) := by decide +kernel
theorem d_X14_nameEnd_70 : decode b_X14_nameEnd 70 = .ok (.iload_n 3, 1) := by decide +kernel
theorem d_X14_nameEnd_71 : decode b_X14_nameEnd 71 = .ok (.iload_n 2, 1) := by decide +kernel
theorem d_X14_nameEnd_72 : decode b_X14_nameEnd 72 = .ok (.iconst 0, 1) := by decide +kernel
theorem d_X14_nameEnd_73 : decode b_X14_nameEnd 73 = .ok (.invokevirtual 217, 3) := by decide +kernel
theorem d_X14_nameEnd_76 : decode b_X14_nameEnd 76 = .ok (.iload_n 3, 1) := by decide +kernel
theorem d_X14_nameEnd_77 : decode b_X14_nameEnd 77 = .ok (.ireturn, 1) := by decide +kernel
theorem d_X14_isDigit_0 : decode b_X14_isDigit 0 = .ok (.iload_n 0, 1) := by decide +kernel
theorem d_X14_isDigit_1 : decode b_X14_isDigit 1 = .ok (.bipush 48, 2) := by decide +kernel
theorem d_X14_isDigit_3 : decode b_X14_isDigit 3 = .ok (.if_icmp .lt 13, 3) := by decide +kernel
theorem d_X14_isDigit_6 : decode b_X14_isDigit 6 = .ok (.iload_n 0, 1) := by decide +kernel
theorem d_X14_isDigit_7 : decode b_X14_isDigit 7 = .ok (.bipush 57, 2) := by decide +kernel
theorem d_X14_isDigit_9 : decode b_X14_isDigit 9 = .ok (.if_icmp .gt 7, 3) := by decide +kernel
theorem d_X14_isDigit_12 : decode b_X14_isDigit 12 = .ok (.iconst 1, 1) := by decide +kernel
theorem d_X14_isDigit_13 : decode b_X14_isDigit 13 = .ok (.goto 4, 3) := by decide +kernel
theorem d_X14_isDigit_16 : decode b_X14_isDigit 16 = .ok (.iconst 0, 1) := by decide +kernel
theorem d_X14_isDigit_17 : decode b_X14_isDigit 17 = .ok (.ireturn, 1) := by decide +kernel
theorem d_X14_among_0 : decode b_X14_among 0 = .ok (.iconst 0, 1) := by decide +kernel
theorem d_X14_among_1 : decode b_X14_among 1 = .ok (.istore 4, 2) := by decide +kernel
theorem d_X14_among_3 : decode b_X14_among 3 = .ok (.iconst 1, 1) := by decide +kernel
theorem d_X14_among_4 : decode b_X14_among 4 = .ok (.istore 5, 2) := by decide +kernel
theorem d_X14_among_6 : decode b_X14_among 6 = .ok (.iload 5, 2) := by decide +kernel
theorem d_X14_among_8 : decode b_X14_among 8 = .ok (.aload_n 3, 1) := by decide +kernel
theorem d_X14_among_9 : decode b_X14_among 9 = .ok (.invokevirtual 264, 3) := by decide +kernel
theorem d_X14_among_12 : decode b_X14_among 12 = .ok (.if_icmp .ge 112, 3) := by decide +kernel
theorem d_X14_among_15 : decode b_X14_among 15 = .ok (.iload 5, 2) := by decide +kernel
theorem d_X14_among_17 : decode b_X14_among 17 = .ok (.istore 6, 2) := by decide +kernel
theorem d_X14_among_19 : decode b_X14_among 19 = .ok (.aload_n 3, 1) := by decide +kernel
theorem d_X14_among_20 : decode b_X14_among 20 = .ok (.iload 6, 2) := by decide +kernel
theorem d_X14_among_22 : decode b_X14_among 22 = .ok (.invokevirtual 270, 3) := by decide +kernel
theorem d_X14_among_25 : decode b_X14_among 25 = .ok (.bipush 32, 2) := by decide +kernel
theorem d_X14_among_27 : decode b_X14_among 27 = .ok (.if_icmp .eq 9, 3) := by decide +kernel
theorem d_X14_among_30 : decode b_X14_among 30 = .ok (.iinc 6 1, 3) := by decide +kernel
theorem d_X14_among_33 : decode b_X14_among 33 = .ok (.goto (-14), 3) := by decide +kernel
theorem d_X14_among_36 : decode b_X14_among 36 = .ok (.iload 6, 2) := by decide +kernel
theorem d_X14_among_38 : decode b_X14_among 38 = .ok (.iload 5, 2) := by decide +kernel
theorem d_X14_among_40 : decode b_X14_among 40 = .ok (.isub, 1) := by decide +kernel
theorem d_X14_among_41 : decode b_X14_among 41 = .ok (.iload_n 2, 1) := by decide +kernel
theorem d_X14_among_42 : decode b_X14_among 42 = .ok (.iload_n 1, 1) := by decide +kernel
theorem d_X14_among_43 : decode b_X14_among 43 = .ok (.isub, 1) := by decide +kernel
theorem d_X14_among_44 : decode b_X14_among 44 = .ok (.if_icmp .ne 7, 3) := by decide +kernel
theorem d_X14_among_47 : decode b_X14_among 47 = .ok (.iconst 1, 1) := by decide +kernel
theorem d_X14_among_48 : decode b_X14_among 48 = .ok (.goto 4, 3) := by decide +kernel
theorem d_X14_among_51 : decode b_X14_among 51 = .ok (.iconst 0, 1) := by decide +kernel
theorem d_X14_among_52 : decode b_X14_among 52 = .ok (.istore 7, 2) := by decide +kernel
theorem d_X14_among_54 : decode b_X14_among 54 = .ok (.iconst 0, 1) := by decide +kernel
theorem d_X14_among_55 : decode b_X14_among 55 = .ok (.istore 8, 2) := by decide +kernel
theorem d_X14_among_57 : decode b_X14_among 57 = .ok (.iload 7, 2) := by decide +kernel
theorem d_X14_among_59 : decode b_X14_among 59 = .ok (.ifCond .eq 45, 3) := by decide +kernel
theorem d_X14_among_62 : decode b_X14_among 62 = .ok (.iload 8, 2) := by decide +kernel
theorem d_X14_among_64 : decode b_X14_among 64 = .ok (.iload_n 2, 1) := by decide +kernel
theorem d_X14_among_65 : decode b_X14_among 65 = .ok (.iload_n 1, 1) := by decide +kernel
theorem d_X14_among_66 : decode b_X14_among 66 = .ok (.isub, 1) := by decide +kernel
theorem d_X14_among_67 : decode b_X14_among 67 = .ok (.if_icmp .ge 37, 3) := by decide +kernel
theorem d_X14_among_70 : decode b_X14_among 70 = .ok (.aload_n 0, 1) := by decide +kernel
theorem d_X14_among_71 : decode b_X14_among 71 = .ok (.getfield 9, 3) := by decide +kernel
theorem d_X14_among_74 : decode b_X14_among 74 = .ok (.iload_n 1, 1) := by decide +kernel
theorem d_X14_among_75 : decode b_X14_among 75 = .ok (.iload 8, 2) := by decide +kernel
theorem d_X14_among_77 : decode b_X14_among 77 = .ok (.iadd, 1) := by decide +kernel
theorem d_X14_among_78 : decode b_X14_among 78 = .ok (.baload, 1) := by decide +kernel
theorem d_X14_among_79 : decode b_X14_among 79 = .ok (.aload_n 3, 1) := by decide +kernel
theorem d_X14_among_80 : decode b_X14_among 80 = .ok (.iload 5, 2) := by decide +kernel
theorem d_X14_among_82 : decode b_X14_among 82 = .ok (.iload 8, 2) := by decide +kernel
theorem d_X14_among_84 : decode b_X14_among 84 = .ok (.iadd, 1) := by decide +kernel
theorem d_X14_among_85 : decode b_X14_among 85 = .ok (.invokevirtual 270, 3) := by decide +kernel
theorem d_X14_among_88 : decode b_X14_among 88 = .ok (.if_icmp .ne 7, 3) := by decide +kernel
theorem d_X14_among_91 : decode b_X14_among 91 = .ok (.iconst 1, 1) := by decide +kernel
theorem d_X14_among_92 : decode b_X14_among 92 = .ok (.goto 4, 3) := by decide +kernel
theorem d_X14_among_95 : decode b_X14_among 95 = .ok (.iconst 0, 1) := by decide +kernel
theorem d_X14_among_96 : decode b_X14_among 96 = .ok (.istore 7, 2) := by decide +kernel
theorem d_X14_among_98 : decode b_X14_among 98 = .ok (.iinc 8 1, 3) := by decide +kernel
theorem d_X14_among_101 : decode b_X14_among 101 = .ok (.goto (-44), 3) := by decide +kernel
theorem d_X14_among_104 : decode b_X14_among 104 = .ok (.iload 7, 2) := by decide +kernel
theorem d_X14_among_106 : decode b_X14_among 106 = .ok (.ifCond .eq 6, 3) := by decide +kernel
theorem d_X14_among_109 : decode b_X14_among 109 = .ok (.iload 4, 2) := by decide +kernel
theorem d_X14_among_111 : decode b_X14_among 111 = .ok (.ireturn, 1) := by decide +kernel
theorem d_X14_among_112 : decode b_X14_among 112 = .ok (.iinc 4 1, 3) := by decide +kernel
theorem d_X14_among_115 : decode b_X14_among 115 = .ok (.iload 6, 2) := by decide +kernel
theorem d_X14_among_117 : decode b_X14_among 117 = .ok (.iconst 1, 1) := by decide +kernel
theorem d_X14_among_118 : decode b_X14_among 118 = .ok (.iadd, 1) := by decide +kernel
theorem d_X14_among_119 : decode b_X14_among 119 = .ok (.istore 5, 2) := by decide +kernel
theorem d_X14_among_121 : decode b_X14_among 121 = .ok (.goto (-115), 3) := by decide +kernel
theorem d_X14_among_124 : decode b_X14_among 124 = .ok (.iconst (-1), 1) := by decide +kernel
theorem d_X14_among_125 : decode b_X14_among 125 = .ok (.ireturn, 1) := by decide +kernel
theorem d_X14_numberEnd_0 : decode b_X14_numberEnd 0 = .ok (.aload_n 0, 1) := by decide +kernel
theorem d_X14_numberEnd_1 : decode b_X14_numberEnd 1 = .ok (.iload_n 1, 1) := by decide +kernel
theorem d_X14_numberEnd_2 : decode b_X14_numberEnd 2 = .ok (.invokevirtual 209, 3) := by decide +kernel
theorem d_X14_numberEnd_5 : decode b_X14_numberEnd 5 = .ok (.bipush 48, 2) := by decide +kernel
theorem d_X14_numberEnd_7 : decode b_X14_numberEnd 7 = .ok (.if_icmp .ne 93, 3) := by decide +kernel
theorem d_X14_numberEnd_10 : decode b_X14_numberEnd 10 = .ok (.aload_n 0, 1) := by decide +kernel
theorem d_X14_numberEnd_11 : decode b_X14_numberEnd 11 = .ok (.iload_n 1, 1) := by decide +kernel
theorem d_X14_numberEnd_12 : decode b_X14_numberEnd 12 = .ok (.iconst 1, 1) := by decide +kernel
theorem d_X14_numberEnd_13 : decode b_X14_numberEnd 13 = .ok (.iadd, 1) := by decide +kernel
theorem d_X14_numberEnd_14 : decode b_X14_numberEnd 14 = .ok (.invokevirtual 209, 3) := by decide +kernel
theorem d_X14_numberEnd_17 : decode b_X14_numberEnd 17 = .ok (.bipush 120, 2) := by decide +kernel
theorem d_X14_numberEnd_19 : decode b_X14_numberEnd 19 = .ok (.if_icmp .ne 81, 3) := by decide +kernel
theorem d_X14_numberEnd_22 : decode b_X14_numberEnd 22 = .ok (.aload_n 0, 1) := by decide +kernel
theorem d_X14_numberEnd_23 : decode b_X14_numberEnd 23 = .ok (.iload_n 1, 1) := by decide +kernel
theorem d_X14_numberEnd_24 : decode b_X14_numberEnd 24 = .ok (.iconst 2, 1) := by decide +kernel
theorem d_X14_numberEnd_25 : decode b_X14_numberEnd 25 = .ok (.iadd, 1) := by decide +kernel
theorem d_X14_numberEnd_26 : decode b_X14_numberEnd 26 = .ok (.invokevirtual 209, 3) := by decide +kernel
theorem d_X14_numberEnd_29 : decode b_X14_numberEnd 29 = .ok (.invokestatic 274, 3) := by decide +kernel
theorem d_X14_numberEnd_32 : decode b_X14_numberEnd 32 = .ok (.ifCond .lt 68, 3) := by decide +kernel
theorem d_X14_numberEnd_35 : decode b_X14_numberEnd 35 = .ok (.iload_n 1, 1) := by decide +kernel
theorem d_X14_numberEnd_36 : decode b_X14_numberEnd 36 = .ok (.iconst 2, 1) := by decide +kernel
theorem d_X14_numberEnd_37 : decode b_X14_numberEnd 37 = .ok (.iadd, 1) := by decide +kernel
theorem d_X14_numberEnd_38 : decode b_X14_numberEnd 38 = .ok (.istore_n 3, 1) := by decide +kernel
theorem d_X14_numberEnd_39 : decode b_X14_numberEnd 39 = .ok (.iconst 0, 1) := by decide +kernel
theorem d_X14_numberEnd_40 : decode b_X14_numberEnd 40 = .ok (.istore 4, 2) := by decide +kernel
theorem d_X14_numberEnd_42 : decode b_X14_numberEnd 42 = .ok (.aload_n 0, 1) := by decide +kernel
theorem d_X14_numberEnd_43 : decode b_X14_numberEnd 43 = .ok (.iload_n 3, 1) := by decide +kernel
theorem d_X14_numberEnd_44 : decode b_X14_numberEnd 44 = .ok (.invokevirtual 209, 3) := by decide +kernel
theorem d_X14_numberEnd_47 : decode b_X14_numberEnd 47 = .ok (.invokestatic 274, 3) := by decide +kernel
theorem d_X14_numberEnd_50 : decode b_X14_numberEnd 50 = .ok (.ifCond .lt 24, 3) := by decide +kernel
theorem d_X14_numberEnd_53 : decode b_X14_numberEnd 53 = .ok (.iload 4, 2) := by decide +kernel
theorem d_X14_numberEnd_55 : decode b_X14_numberEnd 55 = .ok (.iconst 4, 1) := by decide +kernel
theorem d_X14_numberEnd_56 : decode b_X14_numberEnd 56 = .ok (.ishl, 1) := by decide +kernel
theorem d_X14_numberEnd_57 : decode b_X14_numberEnd 57 = .ok (.aload_n 0, 1) := by decide +kernel
theorem d_X14_numberEnd_58 : decode b_X14_numberEnd 58 = .ok (.iload_n 3, 1) := by decide +kernel
theorem d_X14_numberEnd_59 : decode b_X14_numberEnd 59 = .ok (.invokevirtual 209, 3) := by decide +kernel
theorem d_X14_numberEnd_62 : decode b_X14_numberEnd 62 = .ok (.invokestatic 274, 3) := by decide +kernel
theorem d_X14_numberEnd_65 : decode b_X14_numberEnd 65 = .ok (.ior, 1) := by decide +kernel
theorem d_X14_numberEnd_66 : decode b_X14_numberEnd 66 = .ok (.istore 4, 2) := by decide +kernel
theorem d_X14_numberEnd_68 : decode b_X14_numberEnd 68 = .ok (.iinc 3 1, 3) := by decide +kernel
theorem d_X14_numberEnd_71 : decode b_X14_numberEnd 71 = .ok (.goto (-29), 3) := by decide +kernel
theorem d_X14_numberEnd_74 : decode b_X14_numberEnd 74 = .ok (.iload_n 3, 1) := by decide +kernel
theorem d_X14_numberEnd_75 : decode b_X14_numberEnd 75 = .ok (.iload_n 1, 1) := by decide +kernel
theorem d_X14_numberEnd_76 : decode b_X14_numberEnd 76 = .ok (.isub, 1) := by decide +kernel
theorem d_X14_numberEnd_77 : decode b_X14_numberEnd 77 = .ok (.bipush 10, 2) := by decide +kernel
theorem d_X14_numberEnd_79 : decode b_X14_numberEnd 79 = .ok (.if_icmp .le 9, 3) := by decide +kernel
theorem d_X14_numberEnd_82 : decode b_X14_numberEnd 82 = .ok (.aload_n 0, 1) := by decide +kernel
theorem d_X14_numberEnd_83 : decode b_X14_numberEnd 83 = .ok (.iload_n 1, 1) := by decide +kernel
theorem d_X14_numberEnd_84 : decode b_X14_numberEnd 84 = .ok (.invokevirtual 234, 3) := by decide +kernel
theorem d_X14_numberEnd_87 : decode b_X14_numberEnd 87 = .ok (.ireturn, 1) := by decide +kernel
theorem d_X14_numberEnd_88 : decode b_X14_numberEnd 88 = .ok (.aload_n 0, 1) := by decide +kernel
theorem d_X14_numberEnd_89 : decode b_X14_numberEnd 89 = .ok (.iconst 3, 1) := by decide +kernel
theorem d_X14_numberEnd_90 : decode b_X14_numberEnd 90 = .ok (.iload_n 1, 1) := by decide +kernel
theorem d_X14_numberEnd_91 : decode b_X14_numberEnd 91 = .ok (.iload_n 3, 1) := by decide +kernel
theorem d_X14_numberEnd_92 : decode b_X14_numberEnd 92 = .ok (.iload_n 2, 1) := by decide +kernel
theorem d_X14_numberEnd_93 : decode b_X14_numberEnd 93 = .ok (.iload 4, 2) := by decide +kernel
theorem d_X14_numberEnd_95 : decode b_X14_numberEnd 95 = .ok (.invokevirtual 217, 3) := by decide +kernel
theorem d_X14_numberEnd_98 : decode b_X14_numberEnd 98 = .ok (.iload_n 3, 1) := by decide +kernel
theorem d_X14_numberEnd_99 : decode b_X14_numberEnd 99 = .ok (.ireturn, 1) := by decide +kernel
theorem d_X14_numberEnd_100 : decode b_X14_numberEnd 100 = .ok (.iload_n 1, 1) := by decide +kernel
theorem d_X14_numberEnd_101 : decode b_X14_numberEnd 101 = .ok (.istore_n 3, 1) := by decide +kernel
theorem d_X14_numberEnd_102 : decode b_X14_numberEnd 102 = .ok (.lconst 0, 1) := by decide +kernel
theorem d_X14_numberEnd_103 : decode b_X14_numberEnd 103 = .ok (.lstore 4, 2) := by decide +kernel
theorem d_X14_numberEnd_105 : decode b_X14_numberEnd 105 = .ok (.aload_n 0, 1) := by decide +kernel
theorem d_X14_numberEnd_106 : decode b_X14_numberEnd 106 = .ok (.iload_n 3, 1) := by decide +kernel
theorem d_X14_numberEnd_107 : decode b_X14_numberEnd 107 = .ok (.invokevirtual 209, 3) := by decide +kernel
theorem d_X14_numberEnd_110 : decode b_X14_numberEnd 110 = .ok (.invokestatic 243, 3) := by decide +kernel
theorem d_X14_numberEnd_113 : decode b_X14_numberEnd 113 = .ok (.ifCond .eq 37, 3) := by decide +kernel
theorem d_X14_numberEnd_116 : decode b_X14_numberEnd 116 = .ok (.lload 4, 2) := by decide +kernel
theorem d_X14_numberEnd_118 : decode b_X14_numberEnd 118 = .ok (.ldc2_w 277, 3) := by decide +kernel
theorem d_X14_numberEnd_121 : decode b_X14_numberEnd 121 = .ok (.lcmp, 1) := by decide +kernel
theorem d_X14_numberEnd_122 : decode b_X14_numberEnd 122 = .ok (.ifCond .gt 22, 3) := by decide +kernel
theorem d_X14_numberEnd_125 : decode b_X14_numberEnd 125 = .ok (.ldc2_w 279, 3) := by decide +kernel
theorem d_X14_numberEnd_128 : decode b_X14_numberEnd 128 = .ok (.lload 4, 2) := by decide +kernel
theorem d_X14_numberEnd_130 : decode b_X14_numberEnd 130 = .ok (.lmul, 1) := by decide +kernel
theorem d_X14_numberEnd_131 : decode b_X14_numberEnd 131 = .ok (.aload_n 0, 1) := by decide +kernel
theorem d_X14_numberEnd_132 : decode b_X14_numberEnd 132 = .ok (.iload_n 3, 1) := by decide +kernel
theorem d_X14_numberEnd_133 : decode b_X14_numberEnd 133 = .ok (.invokevirtual 209, 3) := by decide +kernel
theorem d_X14_numberEnd_136 : decode b_X14_numberEnd 136 = .ok (.i2l, 1) := by decide +kernel
theorem d_X14_numberEnd_137 : decode b_X14_numberEnd 137 = .ok (.ladd, 1) := by decide +kernel
theorem d_X14_numberEnd_138 : decode b_X14_numberEnd 138 = .ok (.ldc2_w 281, 3) := by decide +kernel
theorem d_X14_numberEnd_141 : decode b_X14_numberEnd 141 = .ok (.lsub, 1) := by decide +kernel
theorem d_X14_numberEnd_142 : decode b_X14_numberEnd 142 = .ok (.lstore 4, 2) := by decide +kernel
theorem d_X14_numberEnd_144 : decode b_X14_numberEnd 144 = .ok (.iinc 3 1, 3) := by decide +kernel
theorem d_X14_numberEnd_147 : decode b_X14_numberEnd 147 = .ok (.goto (-42), 3) := by decide +kernel
theorem d_X14_numberEnd_150 : decode b_X14_numberEnd 150 = .ok (.lload 4, 2) := by decide +kernel
theorem d_X14_numberEnd_152 : decode b_X14_numberEnd 152 = .ok (.ldc2_w 277, 3) := by decide +kernel
theorem d_X14_numberEnd_155 : decode b_X14_numberEnd 155 = .ok (.lcmp, 1) := by decide +kernel
theorem d_X14_numberEnd_156 : decode b_X14_numberEnd 156 = .ok (.ifCond .le 9, 3) := by decide +kernel
theorem d_X14_numberEnd_159 : decode b_X14_numberEnd 159 = .ok (.aload_n 0, 1) := by decide +kernel
theorem d_X14_numberEnd_160 : decode b_X14_numberEnd 160 = .ok (.iload_n 1, 1) := by decide +kernel
theorem d_X14_numberEnd_161 : decode b_X14_numberEnd 161 = .ok (.invokevirtual 234, 3) := by decide +kernel
theorem d_X14_numberEnd_164 : decode b_X14_numberEnd 164 = .ok (.ireturn, 1) := by decide +kernel
theorem d_X14_numberEnd_165 : decode b_X14_numberEnd 165 = .ok (.aload_n 0, 1) := by decide +kernel
theorem d_X14_numberEnd_166 : decode b_X14_numberEnd 166 = .ok (.iconst 3, 1) := by decide +kernel
theorem d_X14_numberEnd_167 : decode b_X14_numberEnd 167 = .ok (.iload_n 1, 1) := by decide +kernel
theorem d_X14_numberEnd_168 : decode b_X14_numberEnd 168 = .ok (.iload_n 3, 1) := by decide +kernel
theorem d_X14_numberEnd_169 : decode b_X14_numberEnd 169 = .ok (.iload_n 2, 1) := by decide +kernel
theorem d_X14_numberEnd_170 : decode b_X14_numberEnd 170 = .ok (.lload 4, 2) := by decide +kernel
theorem d_X14_numberEnd_172 : decode b_X14_numberEnd 172 = .ok (.l2i, 1) := by decide +kernel
theorem d_X14_numberEnd_173 : decode b_X14_numberEnd 173 = .ok (.invokevirtual 217, 3) := by decide +kernel
theorem d_X14_numberEnd_176 : decode b_X14_numberEnd 176 = .ok (.iload_n 3, 1) := by decide +kernel
theorem d_X14_numberEnd_177 : decode b_X14_numberEnd 177 = .ok (.ireturn, 1) := by decide +kernel
theorem d_X14_sixteen_0 : decode b_X14_sixteen 0 = .ok (.iload_n 0, 1) := by decide +kernel
theorem d_X14_sixteen_1 : decode b_X14_sixteen 1 = .ok (.invokestatic 243, 3) := by decide +kernel
theorem d_X14_sixteen_4 : decode b_X14_sixteen 4 = .ok (.ifCond .eq 8, 3) := by decide +kernel
theorem d_X14_sixteen_7 : decode b_X14_sixteen 7 = .ok (.iload_n 0, 1) := by decide +kernel
theorem d_X14_sixteen_8 : decode b_X14_sixteen 8 = .ok (.bipush 48, 2) := by decide +kernel
theorem d_X14_sixteen_10 : decode b_X14_sixteen 10 = .ok (.isub, 1) := by decide +kernel
theorem d_X14_sixteen_11 : decode b_X14_sixteen 11 = .ok (.ireturn, 1) := by decide +kernel
theorem d_X14_sixteen_12 : decode b_X14_sixteen 12 = .ok (.iload_n 0, 1) := by decide +kernel
theorem d_X14_sixteen_13 : decode b_X14_sixteen 13 = .ok (.bipush 97, 2) := by decide +kernel
theorem d_X14_sixteen_15 : decode b_X14_sixteen 15 = .ok (.if_icmp .lt 17, 3) := by decide +kernel
theorem d_X14_sixteen_18 : decode b_X14_sixteen 18 = .ok (.iload_n 0, 1) := by decide +kernel
theorem d_X14_sixteen_19 : decode b_X14_sixteen 19 = .ok (.bipush 102, 2) := by decide +kernel
theorem d_X14_sixteen_21 : decode b_X14_sixteen 21 = .ok (.if_icmp .gt 11, 3) := by decide +kernel
theorem d_X14_sixteen_24 : decode b_X14_sixteen 24 = .ok (.iload_n 0, 1) := by decide +kernel
theorem d_X14_sixteen_25 : decode b_X14_sixteen 25 = .ok (.bipush 97, 2) := by decide +kernel
theorem d_X14_sixteen_27 : decode b_X14_sixteen 27 = .ok (.isub, 1) := by decide +kernel
theorem d_X14_sixteen_28 : decode b_X14_sixteen 28 = .ok (.bipush 10, 2) := by decide +kernel
theorem d_X14_sixteen_30 : decode b_X14_sixteen 30 = .ok (.iadd, 1) := by decide +kernel
theorem d_X14_sixteen_31 : decode b_X14_sixteen 31 = .ok (.ireturn, 1) := by decide +kernel
theorem d_X14_sixteen_32 : decode b_X14_sixteen 32 = .ok (.iload_n 0, 1) := by decide +kernel
theorem d_X14_sixteen_33 : decode b_X14_sixteen 33 = .ok (.bipush 65, 2) := by decide +kernel
theorem d_X14_sixteen_35 : decode b_X14_sixteen 35 = .ok (.if_icmp .lt 19, 3) := by decide +kernel
theorem d_X14_sixteen_38 : decode b_X14_sixteen 38 = .ok (.iload_n 0, 1) := by decide +kernel
theorem d_X14_sixteen_39 : decode b_X14_sixteen 39 = .ok (.bipush 70, 2) := by decide +kernel
theorem d_X14_sixteen_41 : decode b_X14_sixteen 41 = .ok (.if_icmp .gt 13, 3) := by decide +kernel
theorem d_X14_sixteen_44 : decode b_X14_sixteen 44 = .ok (.iload_n 0, 1) := by decide +kernel
theorem d_X14_sixteen_45 : decode b_X14_sixteen 45 = .ok (.bipush 65, 2) := by decide +kernel
theorem d_X14_sixteen_47 : decode b_X14_sixteen 47 = .ok (.isub, 1) := by decide +kernel
theorem d_X14_sixteen_48 : decode b_X14_sixteen 48 = .ok (.bipush 10, 2) := by decide +kernel
theorem d_X14_sixteen_50 : decode b_X14_sixteen 50 = .ok (.iadd, 1) := by decide +kernel
theorem d_X14_sixteen_51 : decode b_X14_sixteen 51 = .ok (.goto 4, 3) := by decide +kernel
theorem d_X14_sixteen_54 : decode b_X14_sixteen 54 = .ok (.iconst (-1), 1) := by decide +kernel
theorem d_X14_sixteen_55 : decode b_X14_sixteen 55 = .ok (.ireturn, 1) := by decide +kernel
theorem d_X14_codeEnd_0 : decode b_X14_codeEnd 0 = .ok (.aload_n 0, 1) := by decide +kernel
theorem d_X14_codeEnd_1 : decode b_X14_codeEnd 1 = .ok (.iload_n 1, 1) := by decide +kernel
theorem d_X14_codeEnd_2 : decode b_X14_codeEnd 2 = .ok (.iconst 1, 1) := by decide +kernel
theorem d_X14_codeEnd_3 : decode b_X14_codeEnd 3 = .ok (.iadd, 1) := by decide +kernel
theorem d_X14_codeEnd_4 : decode b_X14_codeEnd 4 = .ok (.bipush 39, 2) := by decide +kernel
theorem d_X14_codeEnd_6 : decode b_X14_codeEnd 6 = .ok (.invokevirtual 283, 3) := by decide +kernel
theorem d_X14_codeEnd_9 : decode b_X14_codeEnd 9 = .ok (.istore_n 3, 1) := by decide +kernel
theorem d_X14_codeEnd_10 : decode b_X14_codeEnd 10 = .ok (.iload_n 1, 1) := by decide +kernel
theorem d_X14_codeEnd_11 : decode b_X14_codeEnd 11 = .ok (.aload_n 0, 1) := by decide +kernel
theorem d_X14_codeEnd_12 : decode b_X14_codeEnd 12 = .ok (.iload_n 1, 1) := by decide +kernel
theorem d_X14_codeEnd_13 : decode b_X14_codeEnd 13 = .ok (.iconst 1, 1) := by decide +kernel
theorem d_X14_codeEnd_14 : decode b_X14_codeEnd 14 = .ok (.iadd, 1) := by decide +kernel
theorem d_X14_codeEnd_15 : decode b_X14_codeEnd 15 = .ok (.invokevirtual 209, 3) := by decide +kernel
theorem d_X14_codeEnd_18 : decode b_X14_codeEnd 18 = .ok (.bipush 92, 2) := by decide +kernel
theorem d_X14_codeEnd_20 : decode b_X14_codeEnd 20 = .ok (.if_icmp .ne 7, 3) := by decide +kernel
theorem d_X14_codeEnd_23 : decode b_X14_codeEnd 23 = .ok (.iconst 3, 1) := by decide +kernel
theorem d_X14_codeEnd_24 : decode b_X14_codeEnd 24 = .ok (.goto 4, 3) := by decide +kernel
theorem d_X14_codeEnd_27 : decode b_X14_codeEnd 27 = .ok (.iconst 2, 1) := by decide +kernel
theorem d_X14_codeEnd_28 : decode b_X14_codeEnd 28 = .ok (.iadd, 1) := by decide +kernel
theorem d_X14_codeEnd_29 : decode b_X14_codeEnd 29 = .ok (.istore 4, 2) := by decide +kernel
theorem d_X14_codeEnd_31 : decode b_X14_codeEnd 31 = .ok (.iload_n 3, 1) := by decide +kernel
theorem d_X14_codeEnd_32 : decode b_X14_codeEnd 32 = .ok (.ifCond .lt 14, 3) := by decide +kernel
theorem d_X14_codeEnd_35 : decode b_X14_codeEnd 35 = .ok (.aload_n 0, 1) := by decide +kernel
theorem d_X14_codeEnd_36 : decode b_X14_codeEnd 36 = .ok (.iload 4, 2) := by decide +kernel
theorem d_X14_codeEnd_38 : decode b_X14_codeEnd 38 = .ok (.invokevirtual 209, 3) := by decide +kernel
theorem d_X14_codeEnd_41 : decode b_X14_codeEnd 41 = .ok (.bipush 39, 2) := by decide +kernel
theorem d_X14_codeEnd_43 : decode b_X14_codeEnd 43 = .ok (.if_icmp .eq 9, 3) := by decide +kernel
theorem d_X14_codeEnd_46 : decode b_X14_codeEnd 46 = .ok (.aload_n 0, 1) := by decide +kernel
theorem d_X14_codeEnd_47 : decode b_X14_codeEnd 47 = .ok (.iload_n 1, 1) := by decide +kernel
theorem d_X14_codeEnd_48 : decode b_X14_codeEnd 48 = .ok (.invokevirtual 234, 3) := by decide +kernel
theorem d_X14_codeEnd_51 : decode b_X14_codeEnd 51 = .ok (.ireturn, 1) := by decide +kernel
theorem d_X14_codeEnd_52 : decode b_X14_codeEnd 52 = .ok (.aload_n 0, 1) := by decide +kernel
theorem d_X14_codeEnd_53 : decode b_X14_codeEnd 53 = .ok (.iconst 3, 1) := by decide +kernel
theorem d_X14_codeEnd_54 : decode b_X14_codeEnd 54 = .ok (.iload_n 1, 1) := by decide +kernel
theorem d_X14_codeEnd_55 : decode b_X14_codeEnd 55 = .ok (.iload 4, 2) := by decide +kernel
theorem d_X14_codeEnd_57 : decode b_X14_codeEnd 57 = .ok (.iconst 1, 1) := by decide +kernel
theorem d_X14_codeEnd_58 : decode b_X14_codeEnd 58 = .ok (.iadd, 1) := by decide +kernel
theorem d_X14_codeEnd_59 : decode b_X14_codeEnd 59 = .ok (.iload_n 2, 1) := by decide +kernel
theorem d_X14_codeEnd_60 : decode b_X14_codeEnd 60 = .ok (.iload_n 3, 1) := by decide +kernel
theorem d_X14_codeEnd_61 : decode b_X14_codeEnd 61 = .ok (.invokevirtual 217, 3) := by decide +kernel
theorem d_X14_codeEnd_64 : decode b_X14_codeEnd 64 = .ok (.iload 4, 2) := by decide +kernel
theorem d_X14_codeEnd_66 : decode b_X14_codeEnd 66 = .ok (.iconst 1, 1) := by decide +kernel
theorem d_X14_codeEnd_67 : decode b_X14_codeEnd 67 = .ok (.iadd, 1) := by decide +kernel
theorem d_X14_codeEnd_68 : decode b_X14_codeEnd 68 = .ok (.ireturn, 1) := by decide +kernel
theorem d_X14_code_0 : decode b_X14_code 0 = .ok (.aload_n 0, 1) := by decide +kernel
theorem d_X14_code_1 : decode b_X14_code 1 = .ok (.iload_n 1, 1) := by decide +kernel
theorem d_X14_code_2 : decode b_X14_code 2 = .ok (.invokevirtual 209, 3) := by decide +kernel
theorem d_X14_code_5 : decode b_X14_code 5 = .ok (.istore_n 3, 1) := by decide +kernel
theorem d_X14_code_6 : decode b_X14_code 6 = .ok (.iload_n 3, 1) := by decide +kernel
theorem d_X14_code_7 : decode b_X14_code 7 = .ok (.bipush 92, 2) := by decide +kernel
theorem d_X14_code_9 : decode b_X14_code 9 = .ok (.if_icmp .ne 63, 3) := by decide +kernel
theorem d_X14_code_12 : decode b_X14_code 12 = .ok (.aload_n 0, 1) := by decide +kernel
theorem d_X14_code_13 : decode b_X14_code 13 = .ok (.iload_n 1, 1) := by decide +kernel
theorem d_X14_code_14 : decode b_X14_code 14 = .ok (.iconst 1, 1) := by decide +kernel
theorem d_X14_code_15 : decode b_X14_code 15 = .ok (.iadd, 1) := by decide +kernel
theorem d_X14_code_16 : decode b_X14_code 16 = .ok (.invokevirtual 209, 3) := by decide +kernel
theorem d_X14_code_19 : decode b_X14_code 19 = .ok (.istore 4, 2) := by decide +kernel
theorem d_X14_code_21 : decode b_X14_code 21 = .ok (.iload 4, 2) := by decide +kernel
theorem d_X14_code_23 : decode b_X14_code 23 = .ok (.bipush 110, 2) := by decide +kernel
theorem d_X14_code_25 : decode b_X14_code 25 = .ok (.if_icmp .ne 8, 3) := by decide +kernel
theorem d_X14_code_28 : decode b_X14_code 28 = .ok (.bipush 10, 2) := by decide +kernel
theorem d_X14_code_30 : decode b_X14_code 30 = .ok (.goto 41, 3) := by decide +kernel
theorem d_X14_code_33 : decode b_X14_code 33 = .ok (.iload 4, 2) := by decide +kernel
theorem d_X14_code_35 : decode b_X14_code 35 = .ok (.bipush 48, 2) := by decide +kernel
theorem d_X14_code_37 : decode b_X14_code 37 = .ok (.if_icmp .ne 7, 3) := by decide +kernel
theorem d_X14_code_40 : decode b_X14_code 40 = .ok (.iconst 0, 1) := by decide +kernel
theorem d_X14_code_41 : decode b_X14_code 41 = .ok (.goto 30, 3) := by decide +kernel
theorem d_X14_code_44 : decode b_X14_code 44 = .ok (.iload 4, 2) := by decide +kernel
theorem d_X14_code_46 : decode b_X14_code 46 = .ok (.bipush 92, 2) := by decide +kernel
theorem d_X14_code_48 : decode b_X14_code 48 = .ok (.if_icmp .eq 17, 3) := by decide +kernel
theorem d_X14_code_51 : decode b_X14_code 51 = .ok (.iload 4, 2) := by decide +kernel
theorem d_X14_code_53 : decode b_X14_code 53 = .ok (.bipush 39, 2) := by decide +kernel
theorem d_X14_code_55 : decode b_X14_code 55 = .ok (.if_icmp .eq 10, 3) := by decide +kernel
theorem d_X14_code_58 : decode b_X14_code 58 = .ok (.iload 4, 2) := by decide +kernel
theorem d_X14_code_60 : decode b_X14_code 60 = .ok (.bipush 34, 2) := by decide +kernel
theorem d_X14_code_62 : decode b_X14_code 62 = .ok (.if_icmp .ne 8, 3) := by decide +kernel
theorem d_X14_code_65 : decode b_X14_code 65 = .ok (.iload 4, 2) := by decide +kernel
theorem d_X14_code_67 : decode b_X14_code 67 = .ok (.goto 4, 3) := by decide +kernel
theorem d_X14_code_70 : decode b_X14_code 70 = .ok (.iconst (-1), 1) := by decide +kernel
theorem d_X14_code_71 : decode b_X14_code 71 = .ok (.ireturn, 1) := by decide +kernel
theorem d_X14_code_72 : decode b_X14_code 72 = .ok (.iload_n 3, 1) := by decide +kernel
theorem d_X14_code_73 : decode b_X14_code 73 = .ok (.bipush 32, 2) := by decide +kernel
theorem d_X14_code_75 : decode b_X14_code 75 = .ok (.if_icmp .lt 18, 3) := by decide +kernel
theorem d_X14_code_78 : decode b_X14_code 78 = .ok (.iload_n 3, 1) := by decide +kernel
theorem d_X14_code_79 : decode b_X14_code 79 = .ok (.bipush 126, 2) := by decide +kernel
theorem d_X14_code_81 : decode b_X14_code 81 = .ok (.if_icmp .gt 12, 3) := by decide +kernel
theorem d_X14_code_84 : decode b_X14_code 84 = .ok (.iload_n 3, 1) := by decide +kernel
theorem d_X14_code_85 : decode b_X14_code 85 = .ok (.iload_n 2, 1) := by decide +kernel
theorem d_X14_code_86 : decode b_X14_code 86 = .ok (.if_icmp .eq 7, 3) := by decide +kernel
theorem d_X14_code_89 : decode b_X14_code 89 = .ok (.iload_n 3, 1) := by decide +kernel
theorem d_X14_code_90 : decode b_X14_code 90 = .ok (.goto 4, 3) := by decide +kernel
theorem d_X14_code_93 : decode b_X14_code 93 = .ok (.iconst (-1), 1) := by decide +kernel
theorem d_X14_code_94 : decode b_X14_code 94 = .ok (.ireturn, 1) := by decide +kernel
theorem d_X14_stringEnd_0 : decode b_X14_stringEnd 0 = .ok (.iload_n 1, 1) := by decide +kernel
theorem d_X14_stringEnd_1 : decode b_X14_stringEnd 1 = .ok (.iconst 1, 1) := by decide +kernel
theorem d_X14_stringEnd_2 : decode b_X14_stringEnd 2 = .ok (.iadd, 1) := by decide +kernel
theorem d_X14_stringEnd_3 : decode b_X14_stringEnd 3 = .ok (.istore_n 3, 1) := by decide +kernel
theorem d_X14_stringEnd_4 : decode b_X14_stringEnd 4 = .ok (.iconst 0, 1) := by decide +kernel
theorem d_X14_stringEnd_5 : decode b_X14_stringEnd 5 = .ok (.istore 4, 2) := by decide +kernel
theorem d_X14_stringEnd_7 : decode b_X14_stringEnd 7 = .ok (.aload_n 0, 1) := by decide +kernel
theorem d_X14_stringEnd_8 : decode b_X14_stringEnd 8 = .ok (.iload_n 3, 1) := by decide +kernel
theorem d_X14_stringEnd_9 : decode b_X14_stringEnd 9 = .ok (.invokevirtual 209, 3) := by decide +kernel
theorem d_X14_stringEnd_12 : decode b_X14_stringEnd 12 = .ok (.bipush 34, 2) := by decide +kernel
theorem d_X14_stringEnd_14 : decode b_X14_stringEnd 14 = .ok (.if_icmp .eq 51, 3) := by decide +kernel
theorem d_X14_stringEnd_17 : decode b_X14_stringEnd 17 = .ok (.aload_n 0, 1) := by decide +kernel
theorem d_X14_stringEnd_18 : decode b_X14_stringEnd 18 = .ok (.iload_n 3, 1) := by decide +kernel
theorem d_X14_stringEnd_19 : decode b_X14_stringEnd 19 = .ok (.bipush 34, 2) := by decide +kernel
theorem d_X14_stringEnd_21 : decode b_X14_stringEnd 21 = .ok (.invokevirtual 283, 3) := by decide +kernel
theorem d_X14_stringEnd_24 : decode b_X14_stringEnd 24 = .ok (.ifCond .lt 11, 3) := by decide +kernel
theorem d_X14_stringEnd_27 : decode b_X14_stringEnd 27 = .ok (.iload 4, 2) := by decide +kernel
theorem d_X14_stringEnd_29 : decode b_X14_stringEnd 29 = .ok (.sipush 200, 3) := by decide +kernel
theorem d_X14_stringEnd_32 : decode b_X14_stringEnd 32 = .ok (.if_icmp .ne 9, 3) := by decide +kernel
theorem d_X14_stringEnd_35 : decode b_X14_stringEnd 35 = .ok (.aload_n 0, 1) := by decide +kernel
theorem d_X14_stringEnd_36 : decode b_X14_stringEnd 36 = .ok (.iload_n 1, 1) := by decide +kernel
theorem d_X14_stringEnd_37 : decode b_X14_stringEnd 37 = .ok (.invokevirtual 234, 3) := by decide +kernel
theorem d_X14_stringEnd_40 : decode b_X14_stringEnd 40 = .ok (.ireturn, 1) := by decide +kernel
theorem d_X14_stringEnd_41 : decode b_X14_stringEnd 41 = .ok (.iload_n 3, 1) := by decide +kernel
theorem d_X14_stringEnd_42 : decode b_X14_stringEnd 42 = .ok (.aload_n 0, 1) := by decide +kernel
theorem d_X14_stringEnd_43 : decode b_X14_stringEnd 43 = .ok (.iload_n 3, 1) := by decide +kernel
theorem d_X14_stringEnd_44 : decode b_X14_stringEnd 44 = .ok (.invokevirtual 209, 3) := by decide +kernel
theorem d_X14_stringEnd_47 : decode b_X14_stringEnd 47 = .ok (.bipush 92, 2) := by decide +kernel
theorem d_X14_stringEnd_49 : decode b_X14_stringEnd 49 = .ok (.if_icmp .ne 7, 3) := by decide +kernel
theorem d_X14_stringEnd_52 : decode b_X14_stringEnd 52 = .ok (.iconst 2, 1) := by decide +kernel
theorem d_X14_stringEnd_53 : decode b_X14_stringEnd 53 = .ok (.goto 4, 3) := by decide +kernel
theorem d_X14_stringEnd_56 : decode b_X14_stringEnd 56 = .ok (.iconst 1, 1) := by decide +kernel
theorem d_X14_stringEnd_57 : decode b_X14_stringEnd 57 = .ok (.iadd, 1) := by decide +kernel
theorem d_X14_stringEnd_58 : decode b_X14_stringEnd 58 = .ok (.istore_n 3, 1) := by decide +kernel
theorem d_X14_stringEnd_59 : decode b_X14_stringEnd 59 = .ok (.iinc 4 1, 3) := by decide +kernel
theorem d_X14_stringEnd_62 : decode b_X14_stringEnd 62 = .ok (.goto (-55), 3) := by decide +kernel
theorem d_X14_stringEnd_65 : decode b_X14_stringEnd 65 = .ok (.aload_n 0, 1) := by decide +kernel
theorem d_X14_stringEnd_66 : decode b_X14_stringEnd 66 = .ok (.iconst 4, 1) := by decide +kernel
theorem d_X14_stringEnd_67 : decode b_X14_stringEnd 67 = .ok (.iload_n 1, 1) := by decide +kernel
theorem d_X14_stringEnd_68 : decode b_X14_stringEnd 68 = .ok (.iload_n 3, 1) := by decide +kernel
theorem d_X14_stringEnd_69 : decode b_X14_stringEnd 69 = .ok (.iconst 1, 1) := by decide +kernel
theorem d_X14_stringEnd_70 : decode b_X14_stringEnd 70 = .ok (.iadd, 1) := by decide +kernel
theorem d_X14_stringEnd_71 : decode b_X14_stringEnd 71 = .ok (.iload_n 2, 1) := by decide +kernel
theorem d_X14_stringEnd_72 : decode b_X14_stringEnd 72 = .ok (.iload 4, 2) := by decide +kernel
theorem d_X14_stringEnd_74 : decode b_X14_stringEnd 74 = .ok (.invokevirtual 217, 3) := by decide +kernel
theorem d_X14_stringEnd_77 : decode b_X14_stringEnd 77 = .ok (.iload_n 3, 1) := by decide +kernel
theorem d_X14_stringEnd_78 : decode b_X14_stringEnd 78 = .ok (.iconst 1, 1) := by decide +kernel
theorem d_X14_stringEnd_79 : decode b_X14_stringEnd 79 = .ok (.iadd, 1) := by decide +kernel
theorem d_X14_stringEnd_80 : decode b_X14_stringEnd 80 = .ok (.ireturn, 1) := by decide +kernel
theorem d_X14_signEnd_0 : decode b_X14_signEnd 0 = .ok (.iconst 3, 1) := by decide +kernel
theorem d_X14_signEnd_1 : decode b_X14_signEnd 1 = .ok (.istore_n 3, 1) := by decide +kernel
theorem d_X14_signEnd_2 : decode b_X14_signEnd 2 = .ok (.iload_n 3, 1) := by decide +kernel
theorem d_X14_signEnd_3 : decode b_X14_signEnd 3 = .ok (.ifCond .le 63, 3) := by decide +kernel
theorem d_X14_signEnd_6 : decode b_X14_signEnd 6 = .ok (.iload_n 1, 1) := by decide +kernel
theorem d_X14_signEnd_7 : decode b_X14_signEnd 7 = .ok (.iload_n 3, 1) := by decide +kernel
theorem d_X14_signEnd_8 : decode b_X14_signEnd 8 = .ok (.iadd, 1) := by decide +kernel
theorem d_X14_signEnd_9 : decode b_X14_signEnd 9 = .ok (.aload_n 0, 1) := by decide +kernel
theorem d_X14_signEnd_10 : decode b_X14_signEnd 10 = .ok (.getfield 203, 3) := by decide +kernel
theorem d_X14_signEnd_13 : decode b_X14_signEnd 13 = .ok (.if_icmp .gt 17, 3) := by decide +kernel
theorem d_X14_signEnd_16 : decode b_X14_signEnd 16 = .ok (.aload_n 0, 1) := by decide +kernel
theorem d_X14_signEnd_17 : decode b_X14_signEnd 17 = .ok (.iload_n 1, 1) := by decide +kernel
theorem d_X14_signEnd_18 : decode b_X14_signEnd 18 = .ok (.iload_n 1, 1) := by decide +kernel
theorem d_X14_signEnd_19 : decode b_X14_signEnd 19 = .ok (.iload_n 3, 1) := by decide +kernel
theorem d_X14_signEnd_20 : decode b_X14_signEnd 20 = .ok (.iadd, 1) := by decide +kernel
theorem d_X14_signEnd_21 : decode b_X14_signEnd 21 = .ok (.ldc_w 286, 3) := by decide +kernel
theorem d_X14_signEnd_24 : decode b_X14_signEnd 24 = .ok (.invokevirtual 260, 3) := by decide +kernel
theorem d_X14_signEnd_27 : decode b_X14_signEnd 27 = .ok (.goto 4, 3) := by decide +kernel
theorem d_X14_signEnd_30 : decode b_X14_signEnd 30 = .ok (.iconst (-1), 1) := by decide +kernel
theorem d_X14_signEnd_31 : decode b_X14_signEnd 31 = .ok (.istore 4, 2) := by decide +kernel
theorem d_X14_signEnd_33 : decode b_X14_signEnd 33 = .ok (.iload 4, 2) := by decide +kernel
theorem d_X14_signEnd_35 : decode b_X14_signEnd 35 = .ok (.ifCond .ge 6, 3) := by decide +kernel
theorem d_X14_signEnd_38 : decode b_X14_signEnd 38 = .ok (.goto 22, 3) := by decide +kernel
theorem d_X14_signEnd_41 : decode b_X14_signEnd 41 = .ok (.aload_n 0, 1) := by decide +kernel
theorem d_X14_signEnd_42 : decode b_X14_signEnd 42 = .ok (.bipush 32, 2) := by decide +kernel
theorem d_X14_signEnd_44 : decode b_X14_signEnd 44 = .ok (.iload 4, 2) := by decide +kernel
theorem d_X14_signEnd_46 : decode b_X14_signEnd 46 = .ok (.iadd, 1) := by decide +kernel
theorem d_X14_signEnd_47 : decode b_X14_signEnd 47 = .ok (.iload_n 1, 1) := by decide +kernel
theorem d_X14_signEnd_48 : decode b_X14_signEnd 48 = .ok (.iload_n 1, 1) := by decide +kernel
theorem d_X14_signEnd_49 : decode b_X14_signEnd 49 = .ok (.iload_n 3, 1) := by decide +kernel
theorem d_X14_signEnd_50 : decode b_X14_signEnd 50 = .ok (.iadd, 1) := by decide +kernel
theorem d_X14_signEnd_51 : decode b_X14_signEnd 51 = .ok (.iload_n 2, 1) := by decide +kernel
theorem d_X14_signEnd_52 : decode b_X14_signEnd 52 = .ok (.iconst 0, 1) := by decide +kernel
theorem d_X14_signEnd_53 : decode b_X14_signEnd 53 = .ok (.invokevirtual 217, 3) := by decide +kernel
theorem d_X14_signEnd_56 : decode b_X14_signEnd 56 = .ok (.iload_n 1, 1) := by decide +kernel
theorem d_X14_signEnd_57 : decode b_X14_signEnd 57 = .ok (.iload_n 3, 1) := by decide +kernel
theorem d_X14_signEnd_58 : decode b_X14_signEnd 58 = .ok (.iadd, 1) := by decide +kernel
theorem d_X14_signEnd_59 : decode b_X14_signEnd 59 = .ok (.ireturn, 1) := by decide +kernel
theorem d_X14_signEnd_60 : decode b_X14_signEnd 60 = .ok (.iinc 3 (-1), 3) := by decide +kernel
theorem d_X14_signEnd_63 : decode b_X14_signEnd 63 = .ok (.goto (-61), 3) := by decide +kernel
theorem d_X14_signEnd_66 : decode b_X14_signEnd 66 = .ok (.aload_n 0, 1) := by decide +kernel
theorem d_X14_signEnd_67 : decode b_X14_signEnd 67 = .ok (.iload_n 1, 1) := by decide +kernel
theorem d_X14_signEnd_68 : decode b_X14_signEnd 68 = .ok (.invokevirtual 234, 3) := by decide +kernel
theorem d_X14_signEnd_71 : decode b_X14_signEnd 71 = .ok (.ireturn, 1) := by decide +kernel
theorem d_X14_wrong_0 : decode b_X14_wrong 0 = .ok (.aload_n 0, 1) := by decide +kernel
theorem d_X14_wrong_1 : decode b_X14_wrong 1 = .ok (.aload_n 0, 1) := by decide +kernel
theorem d_X14_wrong_2 : decode b_X14_wrong 2 = .ok (.getfield 288, 3) := by decide +kernel
theorem d_X14_wrong_5 : decode b_X14_wrong 5 = .ok (.invokevirtual 291, 3) := by decide +kernel
theorem d_X14_wrong_8 : decode b_X14_wrong 8 = .ok (.areturn, 1) := by decide +kernel
theorem d_X14_wrongAt_0 : decode b_X14_wrongAt 0 = .ok (.aload_n 0, 1) := by decide +kernel
theorem d_X14_wrongAt_1 : decode b_X14_wrongAt 1 = .ok (.aload_n 0, 1) := by decide +kernel
theorem d_X14_wrongAt_2 : decode b_X14_wrongAt 2 = .ok (.getfield 17, 3) := by decide +kernel
theorem d_X14_wrongAt_5 : decode b_X14_wrongAt 5 = .ok (.iload_n 1, 1) := by decide +kernel
theorem d_X14_wrongAt_6 : decode b_X14_wrongAt 6 = .ok (.iaload, 1) := by decide +kernel
theorem d_X14_wrongAt_7 : decode b_X14_wrongAt 7 = .ok (.putfield 36, 3) := by decide +kernel
theorem d_X14_wrongAt_10 : decode b_X14_wrongAt 10 = .ok (.aload_n 0, 1) := by decide +kernel
theorem d_X14_wrongAt_11 : decode b_X14_wrongAt 11 = .ok (.getfield 32, 3) := by decide +kernel
theorem d_X14_wrongAt_14 : decode b_X14_wrongAt 14 = .ok (.areturn, 1) := by decide +kernel
theorem d_X14_item_0 : decode b_X14_item 0 = .ok (.aload_n 0, 1) := by decide +kernel
theorem d_X14_item_1 : decode b_X14_item 1 = .ok (.bipush 7, 2) := by decide +kernel
theorem d_X14_item_3 : decode b_X14_item 3 = .ok (.invokevirtual 552, 3) := by decide +kernel
theorem d_X14_item_6 : decode b_X14_item 6 = .ok (.istore_n 1, 1) := by decide +kernel
theorem d_X14_item_7 : decode b_X14_item 7 = .ok (.aload_n 0, 1) := by decide +kernel
theorem d_X14_item_8 : decode b_X14_item 8 = .ok (.bipush 8, 2) := by decide +kernel
theorem d_X14_item_10 : decode b_X14_item 10 = .ok (.invokevirtual 552, 3) := by decide +kernel
theorem d_X14_item_13 : decode b_X14_item 13 = .ok (.istore_n 2, 1) := by decide +kernel
theorem d_X14_item_14 : decode b_X14_item 14 = .ok (.iload_n 1, 1) := by decide +kernel
theorem d_X14_item_15 : decode b_X14_item 15 = .ok (.ifCond .ne 7, 3) := by decide +kernel
theorem d_X14_item_18 : decode b_X14_item 18 = .ok (.iload_n 2, 1) := by decide +kernel
theorem d_X14_item_19 : decode b_X14_item 19 = .ok (.ifCond .eq 13, 3) := by decide +kernel
theorem d_X14_item_22 : decode b_X14_item 22 = .ok (.aload_n 0, 1) := by decide +kernel
theorem d_X14_item_23 : decode b_X14_item 23 = .ok (.dup, 1) := by decide +kernel
theorem d_X14_item_24 : decode b_X14_item 24 = .ok (.getfield 288, 3) := by decide +kernel
theorem d_X14_item_27 : decode b_X14_item 27 = .ok (.iconst 1, 1) := by decide +kernel
theorem d_X14_item_28 : decode b_X14_item 28 = .ok (.iadd, 1) := by decide +kernel
theorem d_X14_item_29 : decode b_X14_item 29 = .ok (.putfield 288, 3) := by decide +kernel
theorem d_X14_item_32 : decode b_X14_item 32 = .ok (.aload_n 0, 1) := by decide +kernel
theorem d_X14_item_33 : decode b_X14_item 33 = .ok (.getfield 13, 3) := by decide +kernel
theorem d_X14_item_36 : decode b_X14_item 36 = .ok (.aload_n 0, 1) := by decide +kernel
theorem d_X14_item_37 : decode b_X14_item 37 = .ok (.getfield 288, 3) := by decide +kernel
theorem d_X14_item_40 : decode b_X14_item 40 = .ok (.iaload, 1) := by decide +kernel
theorem d_X14_item_41 : decode b_X14_item 41 = .ok (.bipush 6, 2) := by decide +kernel
theorem d_X14_item_43 : decode b_X14_item 43 = .ok (.if_icmp .ne 54, 3) := by decide +kernel
theorem d_X14_item_46 : decode b_X14_item 46 = .ok (.aload_n 0, 1) := by decide +kernel
theorem d_X14_item_47 : decode b_X14_item 47 = .ok (.dup, 1) := by decide +kernel
theorem d_X14_item_48 : decode b_X14_item 48 = .ok (.getfield 288, 3) := by decide +kernel
theorem d_X14_item_51 : decode b_X14_item 51 = .ok (.iconst 1, 1) := by decide +kernel
theorem d_X14_item_52 : decode b_X14_item 52 = .ok (.iadd, 1) := by decide +kernel
theorem d_X14_item_53 : decode b_X14_item 53 = .ok (.putfield 288, 3) := by decide +kernel
theorem d_X14_item_56 : decode b_X14_item 56 = .ok (.aload_n 0, 1) := by decide +kernel
theorem d_X14_item_57 : decode b_X14_item 57 = .ok (.getfield 13, 3) := by decide +kernel
theorem d_X14_item_60 : decode b_X14_item 60 = .ok (.aload_n 0, 1) := by decide +kernel
theorem d_X14_item_61 : decode b_X14_item 61 = .ok (.getfield 288, 3) := by decide +kernel
theorem d_X14_item_64 : decode b_X14_item 64 = .ok (.iaload, 1) := by decide +kernel
theorem d_X14_item_65 : decode b_X14_item 65 = .ok (.iconst 2, 1) := by decide +kernel
theorem d_X14_item_66 : decode b_X14_item 66 = .ok (.if_icmp .eq 8, 3) := by decide +kernel
theorem d_X14_item_69 : decode b_X14_item 69 = .ok (.aload_n 0, 1) := by decide +kernel
theorem d_X14_item_70 : decode b_X14_item 70 = .ok (.invokevirtual 311, 3) := by decide +kernel
theorem d_X14_item_73 : decode b_X14_item 73 = .ok (.athrow, 1) := by decide +kernel
theorem d_X14_item_74 : decode b_X14_item 74 = .ok (.aload_n 0, 1) := by decide +kernel
theorem d_X14_item_75 : decode b_X14_item 75 = .ok (.getfield 288, 3) := by decide +kernel
theorem d_X14_item_78 : decode b_X14_item 78 = .ok (.istore_n 3, 1) := by decide +kernel
theorem d_X14_item_79 : decode b_X14_item 79 = .ok (.aload_n 0, 1) := by decide +kernel
theorem d_X14_item_80 : decode b_X14_item 80 = .ok (.dup, 1) := by decide +kernel
theorem d_X14_item_81 : decode b_X14_item 81 = .ok (.getfield 288, 3) := by decide +kernel
theorem d_X14_item_84 : decode b_X14_item 84 = .ok (.iconst 1, 1) := by decide +kernel
theorem d_X14_item_85 : decode b_X14_item 85 = .ok (.iadd, 1) := by decide +kernel
theorem d_X14_item_86 : decode b_X14_item 86 = .ok (.putfield 288, 3) := by decide +kernel
theorem d_X14_item_89 : decode b_X14_item 89 = .ok (.aload_n 0, 1) := by decide +kernel
theorem d_X14_item_90 : decode b_X14_item 90 = .ok (.iload_n 3, 1) := by decide +kernel
theorem d_X14_item_91 : decode b_X14_item 91 = .ok (.iconst (-1), 1) := by decide +kernel
theorem d_X14_item_92 : decode b_X14_item 92 = .ok (.iload_n 1, 1) := by decide +kernel
theorem d_X14_item_93 : decode b_X14_item 93 = .ok (.invokevirtual 665, 3) := by decide +kernel
theorem d_X14_item_96 : decode b_X14_item 96 = .ok (.return_, 1) := by decide +kernel
theorem d_X14_item_97 : decode b_X14_item 97 = .ok (.aload_n 0, 1) := by decide +kernel
theorem d_X14_item_98 : decode b_X14_item 98 = .ok (.getfield 13, 3) := by decide +kernel
theorem d_X14_item_101 : decode b_X14_item 101 = .ok (.aload_n 0, 1) := by decide +kernel
theorem d_X14_item_102 : decode b_X14_item 102 = .ok (.getfield 288, 3) := by decide +kernel
theorem d_X14_item_105 : decode b_X14_item 105 = .ok (.iaload, 1) := by decide +kernel
theorem d_X14_item_106 : decode b_X14_item 106 = .ok (.iconst 5, 1) := by decide +kernel
theorem d_X14_item_107 : decode b_X14_item 107 = .ok (.if_icmp .eq 8, 3) := by decide +kernel
theorem d_X14_item_110 : decode b_X14_item 110 = .ok (.aload_n 0, 1) := by decide +kernel
theorem d_X14_item_111 : decode b_X14_item 111 = .ok (.invokevirtual 311, 3) := by decide +kernel
theorem d_X14_item_114 : decode b_X14_item 114 = .ok (.athrow, 1) := by decide +kernel
theorem d_X14_item_115 : decode b_X14_item 115 = .ok (.aload_n 0, 1) := by decide +kernel
theorem d_X14_item_116 : decode b_X14_item 116 = .ok (.dup, 1) := by decide +kernel
theorem d_X14_item_117 : decode b_X14_item 117 = .ok (.getfield 288, 3) := by decide +kernel
theorem d_X14_item_120 : decode b_X14_item 120 = .ok (.iconst 1, 1) := by decide +kernel
theorem d_X14_item_121 : decode b_X14_item 121 = .ok (.iadd, 1) := by decide +kernel
theorem d_X14_item_122 : decode b_X14_item 122 = .ok (.putfield 288, 3) := by decide +kernel
theorem d_X14_item_125 : decode b_X14_item 125 = .ok (.aload_n 0, 1) := by decide +kernel
theorem d_X14_item_126 : decode b_X14_item 126 = .ok (.getfield 288, 3) := by decide +kernel
theorem d_X14_item_129 : decode b_X14_item 129 = .ok (.istore_n 3, 1) := by decide +kernel
theorem d_X14_item_130 : decode b_X14_item 130 = .ok (.aload_n 0, 1) := by decide +kernel
theorem d_X14_item_131 : decode b_X14_item 131 = .ok (.invokevirtual 494, 3) := by decide +kernel
theorem d_X14_item_134 : decode b_X14_item 134 = .ok (.istore 4, 2) := by decide +kernel
theorem d_X14_item_136 : decode b_X14_item 136 = .ok (.aload_n 0, 1) := by decide +kernel
theorem d_X14_item_137 : decode b_X14_item 137 = .ok (.getfield 13, 3) := by decide +kernel
theorem d_X14_item_140 : decode b_X14_item 140 = .ok (.aload_n 0, 1) := by decide +kernel
theorem d_X14_item_141 : decode b_X14_item 141 = .ok (.getfield 288, 3) := by decide +kernel
theorem d_X14_item_144 : decode b_X14_item 144 = .ok (.iaload, 1) := by decide +kernel
theorem d_X14_item_145 : decode b_X14_item 145 = .ok (.iconst 2, 1) := by decide +kernel
theorem d_X14_item_146 : decode b_X14_item 146 = .ok (.if_icmp .eq 8, 3) := by decide +kernel
theorem d_X14_item_149 : decode b_X14_item 149 = .ok (.aload_n 0, 1) := by decide +kernel
theorem d_X14_item_150 : decode b_X14_item 150 = .ok (.invokevirtual 311, 3) := by decide +kernel
theorem d_X14_item_153 : decode b_X14_item 153 = .ok (.athrow, 1) := by decide +kernel
theorem d_X14_item_154 : decode b_X14_item 154 = .ok (.aload_n 0, 1) := by decide +kernel
theorem d_X14_item_155 : decode b_X14_item 155 = .ok (.getfield 288, 3) := by decide +kernel
theorem d_X14_item_158 : decode b_X14_item 158 = .ok (.istore 5, 2) := by decide +kernel
theorem d_X14_item_160 : decode b_X14_item 160 = .ok (.aload_n 0, 1) := by decide +kernel
theorem d_X14_item_161 : decode b_X14_item 161 = .ok (.dup, 1) := by decide +kernel
theorem d_X14_item_162 : decode b_X14_item 162 = .ok (.getfield 288, 3) := by decide +kernel
theorem d_X14_item_165 : decode b_X14_item 165 = .ok (.iconst 1, 1) := by decide +kernel
theorem d_X14_item_166 : decode b_X14_item 166 = .ok (.iadd, 1) := by decide +kernel
theorem d_X14_item_167 : decode b_X14_item 167 = .ok (.putfield 288, 3) := by decide +kernel
theorem d_X14_item_170 : decode b_X14_item 170 = .ok (.aload_n 0, 1) := by decide +kernel
theorem d_X14_item_171 : decode b_X14_item 171 = .ok (.bipush 20, 2) := by decide +kernel
theorem d_X14_item_173 : decode b_X14_item 173 = .ok (.invokevirtual 308, 3) := by decide +kernel
theorem d_X14_item_176 : decode b_X14_item 176 = .ok (.ifCond .eq 13, 3) := by decide +kernel
theorem d_X14_item_179 : decode b_X14_item 179 = .ok (.aload_n 0, 1) := by decide +kernel
theorem d_X14_item_180 : decode b_X14_item 180 = .ok (.iload 5, 2) := by decide +kernel
theorem d_X14_item_182 : decode b_X14_item 182 = .ok (.iload 4, 2) := by decide +kernel
theorem d_X14_item_184 : decode b_X14_item 184 = .ok (.iload_n 1, 1) := by decide +kernel
theorem d_X14_item_185 : decode b_X14_item 185 = .ok (.invokevirtual 665, 3) := by decide +kernel
theorem d_X14_item_188 : decode b_X14_item 188 = .ok (.return_, 1) := by decide +kernel
theorem d_X14_item_189 : decode b_X14_item 189 = .ok (.aload_n 0, 1) := by decide +kernel
theorem d_X14_item_190 : decode b_X14_item 190 = .ok (.iload_n 3, 1) := by decide +kernel
theorem d_X14_item_191 : decode b_X14_item 191 = .ok (.putfield 288, 3) := by decide +kernel
theorem d_X14_item_194 : decode b_X14_item 194 = .ok (.aload_n 0, 1) := by decide +kernel
theorem d_X14_item_195 : decode b_X14_item 195 = .ok (.iload_n 1, 1) := by decide +kernel
theorem d_X14_item_196 : decode b_X14_item 196 = .ok (.iload_n 2, 1) := by decide +kernel
theorem d_X14_item_197 : decode b_X14_item 197 = .ok (.iconst 0, 1) := by decide +kernel
theorem d_X14_item_198 : decode b_X14_item 198 = .ok (.invokevirtual 542, 3) := by decide +kernel
theorem d_X14_item_201 : decode b_X14_item 201 = .ok (.return_, 1) := by decide +kernel
theorem d_X14_isWord_0 : decode b_X14_isWord 0 = .ok (.aload_n 0, 1) := by decide +kernel
theorem d_X14_isWord_1 : decode b_X14_isWord 1 = .ok (.getfield 13, 3) := by decide +kernel
theorem d_X14_isWord_4 : decode b_X14_isWord 4 = .ok (.aload_n 0, 1) := by decide +kernel
theorem d_X14_isWord_5 : decode b_X14_isWord 5 = .ok (.getfield 288, 3) := by decide +kernel
theorem d_X14_isWord_8 : decode b_X14_isWord 8 = .ok (.iaload, 1) := by decide +kernel
theorem d_X14_isWord_9 : decode b_X14_isWord 9 = .ok (.iload_n 1, 1) := by decide +kernel
theorem d_X14_isWord_10 : decode b_X14_isWord 10 = .ok (.if_icmp .ne 7, 3) := by decide +kernel
theorem d_X14_isWord_13 : decode b_X14_isWord 13 = .ok (.iconst 1, 1) := by decide +kernel
theorem d_X14_isWord_14 : decode b_X14_isWord 14 = .ok (.goto 4, 3) := by decide +kernel
theorem d_X14_isWord_17 : decode b_X14_isWord 17 = .ok (.iconst 0, 1) := by decide +kernel
theorem d_X14_isWord_18 : decode b_X14_isWord 18 = .ok (.ireturn, 1) := by decide +kernel
theorem d_X14_function_0 : decode b_X14_function 0 = .ok (.aload_n 0, 1) := by decide +kernel
theorem d_X14_function_1 : decode b_X14_function 1 = .ok (.invokevirtual 650, 3) := by decide +kernel
theorem d_X14_function_4 : decode b_X14_function 4 = .ok (.aload_n 0, 1) := by decide +kernel
theorem d_X14_function_5 : decode b_X14_function 5 = .ok (.bipush 22, 2) := by decide +kernel
theorem d_X14_function_7 : decode b_X14_function 7 = .ok (.invokevirtual 308, 3) := by decide +kernel
theorem d_X14_function_10 : decode b_X14_function 10 = .ok (.istore 4, 2) := by decide +kernel
theorem d_X14_function_12 : decode b_X14_function 12 = .ok (.aload_n 0, 1) := by decide +kernel
theorem d_X14_function_13 : decode b_X14_function 13 = .ok (.iload_n 1, 1) := by decide +kernel
theorem d_X14_function_14 : decode b_X14_function 14 = .ok (.invokevirtual 527, 3) := by decide +kernel
theorem d_X14_function_17 : decode b_X14_function 17 = .ok (.istore 5, 2) := by decide +kernel
theorem d_X14_function_19 : decode b_X14_function 19 = .ok (.iload 5, 2) := by decide +kernel
theorem d_X14_function_21 : decode b_X14_function 21 = .ok (.ifCond .lt 63, 3) := by decide +kernel
theorem d_X14_function_24 : decode b_X14_function 24 = .ok (.aload_n 0, 1) := by decide +kernel
theorem d_X14_function_25 : decode b_X14_function 25 = .ok (.aload_n 0, 1) := by decide +kernel
theorem d_X14_function_26 : decode b_X14_function 26 = .ok (.getfield 44, 3) := by decide +kernel
theorem d_X14_function_29 : decode b_X14_function 29 = .ok (.iload 5, 2) := by decide +kernel
theorem d_X14_function_31 : decode b_X14_function 31 = .ok (.iaload, 1) := by decide +kernel
theorem d_X14_function_32 : decode b_X14_function 32 = .ok (.iconst 2, 1) := by decide +kernel
theorem d_X14_function_33 : decode b_X14_function 33 = .ok (.if_icmp .ne 43, 3) := by decide +kernel
theorem d_X14_function_36 : decode b_X14_function 36 = .ok (.aload_n 0, 1) := by decide +kernel
theorem d_X14_function_37 : decode b_X14_function 37 = .ok (.iload 5, 2) := by decide +kernel
theorem d_X14_function_39 : decode b_X14_function 39 = .ok (.iload_n 2, 1) := by decide +kernel
theorem d_X14_function_40 : decode b_X14_function 40 = .ok (.invokevirtual 653, 3) := by decide +kernel
theorem d_X14_function_43 : decode b_X14_function 43 = .ok (.ifCond .eq 33, 3) := by decide +kernel
theorem d_X14_function_46 : decode b_X14_function 46 = .ok (.aload_n 0, 1) := by decide +kernel
theorem d_X14_function_47 : decode b_X14_function 47 = .ok (.getfield 53, 3) := by decide +kernel
theorem d_X14_function_50 : decode b_X14_function 50 = .ok (.iload 5, 2) := by decide +kernel
theorem d_X14_function_52 : decode b_X14_function 52 = .ok (.baload, 1) := by decide +kernel
theorem d_X14_function_53 : decode b_X14_function 53 = .ok (.iload_n 3, 1) := by decide +kernel
theorem d_X14_function_54 : decode b_X14_function 54 = .ok (.if_icmp .ne 22, 3) := by decide +kernel
theorem d_X14_function_57 : decode b_X14_function 57 = .ok (.iload 4, 2) := by decide +kernel
theorem d_X14_function_59 : decode b_X14_function 59 = .ok (.ifCond .eq 13, 3) := by decide +kernel
theorem d_X14_function_62 : decode b_X14_function 62 = .ok (.aload_n 0, 1) := by decide +kernel
theorem d_X14_function_63 : decode b_X14_function 63 = .ok (.getfield 57, 3) := by decide +kernel
theorem d_X14_function_66 : decode b_X14_function 66 = .ok (.iload 5, 2) := by decide +kernel
theorem d_X14_function_68 : decode b_X14_function 68 = .ok (.baload, 1) := by decide +kernel
theorem d_X14_function_69 : decode b_X14_function 69 = .ok (.ifCond .ne 7, 3) := by decide +kernel
theorem d_X14_function_72 : decode b_X14_function 72 = .ok (.iconst 1, 1) := by decide +kernel
theorem d_X14_function_73 : decode b_X14_function 73 = .ok (.goto 4, 3) := by decide +kernel
theorem d_X14_function_76 : decode b_X14_function 76 = .ok (.iconst 0, 1) := by decide +kernel
theorem d_X14_function_77 : decode b_X14_function 77 = .ok (.iload_n 1, 1) := by decide +kernel
theorem d_X14_function_78 : decode b_X14_function 78 = .ok (.invokevirtual 410, 3) := by decide +kernel
theorem d_X14_function_81 : decode b_X14_function 81 = .ok (.goto 81, 3) := by decide +kernel
theorem d_X14_function_84 : decode b_X14_function 84 = .ok (.aload_n 0, 1) := by decide +kernel
theorem d_X14_function_85 : decode b_X14_function 85 = .ok (.iload_n 1, 1) := by decide +kernel
theorem d_X14_function_86 : decode b_X14_function 86 = .ok (.iconst 2, 1) := by decide +kernel
theorem d_X14_function_87 : decode b_X14_function 87 = .ok (.invokevirtual 631, 3) := by decide +kernel
theorem d_X14_function_90 : decode b_X14_function 90 = .ok (.istore 5, 2) := by decide +kernel
theorem d_X14_function_92 : decode b_X14_function 92 = .ok (.iload 5, 2) := by decide +kernel
theorem d_X14_function_94 : decode b_X14_function 94 = .ok (.ifCond .lt 68, 3) := by decide +kernel
theorem d_X14_function_97 : decode b_X14_function 97 = .ok (.aload_n 0, 1) := by decide +kernel
theorem d_X14_function_98 : decode b_X14_function 98 = .ok (.getfield 47, 3) := by decide +kernel
theorem d_X14_function_101 : decode b_X14_function 101 = .ok (.iload 5, 2) := by decide +kernel
theorem d_X14_function_103 : decode b_X14_function 103 = .ok (.iload_n 2, 1) := by decide +kernel
theorem d_X14_function_104 : decode b_X14_function 104 = .ok (.iastore, 1) := by decide +kernel
theorem d_X14_function_105 : decode b_X14_function 105 = .ok (.aload_n 0, 1) := by decide +kernel
theorem d_X14_function_106 : decode b_X14_function 106 = .ok (.getfield 53, 3) := by decide +kernel
theorem d_X14_function_109 : decode b_X14_function 109 = .ok (.iload 5, 2) := by decide +kernel
theorem d_X14_function_111 : decode b_X14_function 111 = .ok (.iload_n 3, 1) := by decide +kernel
theorem d_X14_function_112 : decode b_X14_function 112 = .ok (.bastore, 1) := by decide +kernel
theorem d_X14_function_113 : decode b_X14_function 113 = .ok (.aload_n 0, 1) := by decide +kernel
theorem d_X14_function_114 : decode b_X14_function 114 = .ok (.getfield 63, 3) := by decide +kernel
theorem d_X14_function_117 : decode b_X14_function 117 = .ok (.iload 5, 2) := by decide +kernel
theorem d_X14_function_119 : decode b_X14_function 119 = .ok (.aload_n 0, 1) := by decide +kernel
theorem d_X14_function_120 : decode b_X14_function 120 = .ok (.getfield 647, 3) := by decide +kernel
theorem d_X14_function_123 : decode b_X14_function 123 = .ok (.iastore, 1) := by decide +kernel
theorem d_X14_function_124 : decode b_X14_function 124 = .ok (.iconst 0, 1) := by decide +kernel
theorem d_X14_function_125 : decode b_X14_function 125 = .ok (.istore 6, 2) := by decide +kernel
theorem d_X14_function_127 : decode b_X14_function 127 = .ok (.iload 6, 2) := by decide +kernel
theorem d_X14_function_129 : decode b_X14_function 129 = .ok (.aload_n 0, 1) := by decide +kernel
theorem d_X14_function_130 : decode b_X14_function 130 = .ok (.getfield 647, 3) := by decide +kernel
theorem d_X14_function_133 : decode b_X14_function 133 = .ok (.if_icmp .ge 29, 3) := by decide +kernel
theorem d_X14_function_136 : decode b_X14_function 136 = .ok (.aload_n 0, 1) := by decide +kernel
theorem d_X14_function_137 : decode b_X14_function 137 = .ok (.getfield 67, 3) := by decide +kernel
theorem d_X14_function_140 : decode b_X14_function 140 = .ok (.bipush 8, 2) := by decide +kernel
theorem d_X14_function_142 : decode b_X14_function 142 = .ok (.iload 5, 2) := by decide +kernel
theorem d_X14_function_144 : decode b_X14_function 144 = .ok (.imul, 1) := by decide +kernel
theorem d_X14_function_145 : decode b_X14_function 145 = .ok (.iload 6, 2) := by decide +kernel
theorem d_X14_function_147 : decode b_X14_function 147 = .ok (.iadd, 1) := by decide +kernel
theorem d_X14_function_148 : decode b_X14_function 148 = .ok (.aload_n 0, 1) := by decide +kernel
theorem d_X14_function_149 : decode b_X14_function 149 = .ok (.getfield 132, 3) := by decide +kernel
theorem d_X14_function_152 : decode b_X14_function 152 = .ok (.iload 6, 2) := by decide +kernel
theorem d_X14_function_154 : decode b_X14_function 154 = .ok (.iaload, 1) := by decide +kernel
theorem d_X14_function_155 : decode b_X14_function 155 = .ok (.iastore, 1) := by decide +kernel
theorem d_X14_function_156 : decode b_X14_function 156 = .ok (.iinc 6 1, 3) := by decide +kernel
theorem d_X14_function_159 : decode b_X14_function 159 = .ok (.goto (-32), 3) := by decide +kernel
theorem d_X14_function_162 : decode b_X14_function 162 = .ok (.iload 4, 2) := by decide +kernel
theorem d_X14_function_164 : decode b_X14_function 164 = .ok (.ifCond .ne 10, 3) := by decide +kernel
theorem d_X14_function_167 : decode b_X14_function 167 = .ok (.aload_n 0, 1) := by decide +kernel
theorem d_X14_function_168 : decode b_X14_function 168 = .ok (.bipush 27, 2) := by decide +kernel
theorem d_X14_function_170 : decode b_X14_function 170 = .ok (.invokevirtual 497, 3) := by decide +kernel
theorem d_X14_function_173 : decode b_X14_function 173 = .ok (.return_, 1) := by decide +kernel
theorem d_X14_function_174 : decode b_X14_function 174 = .ok (.iload 5, 2) := by decide +kernel
theorem d_X14_function_176 : decode b_X14_function 176 = .ok (.ifCond .lt 33, 3) := by decide +kernel
theorem d_X14_function_179 : decode b_X14_function 179 = .ok (.aload_n 0, 1) := by decide +kernel
theorem d_X14_function_180 : decode b_X14_function 180 = .ok (.getfield 44, 3) := by decide +kernel
theorem d_X14_function_183 : decode b_X14_function 183 = .ok (.iload 5, 2) := by decide +kernel
theorem d_X14_function_185 : decode b_X14_function 185 = .ok (.iaload, 1) := by decide +kernel
theorem d_X14_function_186 : decode b_X14_function 186 = .ok (.iconst 2, 1) := by decide +kernel
theorem d_X14_function_187 : decode b_X14_function 187 = .ok (.if_icmp .ne 22, 3) := by decide +kernel
theorem d_X14_function_190 : decode b_X14_function 190 = .ok (.aload_n 0, 1) := by decide +kernel
theorem d_X14_function_191 : decode b_X14_function 191 = .ok (.getfield 57, 3) := by decide +kernel
theorem d_X14_function_194 : decode b_X14_function 194 = .ok (.iload 5, 2) := by decide +kernel
theorem d_X14_function_196 : decode b_X14_function 196 = .ok (.iconst 1, 1) := by decide +kernel
theorem d_X14_function_197 : decode b_X14_function 197 = .ok (.bastore, 1) := by decide +kernel
theorem d_X14_function_198 : decode b_X14_function 198 = .ok (.aload_n 0, 1) := by decide +kernel
theorem d_X14_function_199 : decode b_X14_function 199 = .ok (.getfield 70, 3) := by decide +kernel
theorem d_X14_function_202 : decode b_X14_function 202 = .ok (.iload 5, 2) := by decide +kernel
theorem d_X14_function_204 : decode b_X14_function 204 = .ok (.aload_n 0, 1) := by decide +kernel
theorem d_X14_function_205 : decode b_X14_function 205 = .ok (.getfield 656, 3) := by decide +kernel
theorem d_X14_function_208 : decode b_X14_function 208 = .ok (.iastore, 1) := by decide +kernel
theorem d_X14_function_209 : decode b_X14_function 209 = .ok (.aload_n 0, 1) := by decide +kernel
theorem d_X14_function_210 : decode b_X14_function 210 = .ok (.iconst 0, 1) := by decide +kernel
theorem d_X14_function_211 : decode b_X14_function 211 = .ok (.putfield 349, 3) := by decide +kernel
theorem d_X14_function_214 : decode b_X14_function 214 = .ok (.aload_n 0, 1) := by decide +kernel
theorem d_X14_function_215 : decode b_X14_function 215 = .ok (.iconst 0, 1) := by decide +kernel
theorem d_X14_function_216 : decode b_X14_function 216 = .ok (.putfield 340, 3) := by decide +kernel
theorem d_X14_function_219 : decode b_X14_function 219 = .ok (.aload_n 0, 1) := by decide +kernel
theorem d_X14_function_220 : decode b_X14_function 220 = .ok (.iconst 1, 1) := by decide +kernel
theorem d_X14_function_221 : decode b_X14_function 221 = .ok (.putfield 346, 3) := by decide +kernel
theorem d_X14_function_224 : decode b_X14_function 224 = .ok (.aload_n 0, 1) := by decide +kernel
theorem d_X14_function_225 : decode b_X14_function 225 = .ok (.aload_n 0, 1) := by decide +kernel
theorem d_X14_function_226 : decode b_X14_function 226 = .ok (.getfield 647, 3) := by decide +kernel
theorem d_X14_function_229 : decode b_X14_function 229 = .ok (.putfield 659, 3) := by decide +kernel
theorem d_X14_function_232 : decode b_X14_function 232 = .ok (.iconst 0, 1) := by decide +kernel
theorem d_X14_function_233 : decode b_X14_function 233 = .ok (.istore 6, 2) := by decide +kernel
theorem d_X14_function_235 : decode b_X14_function 235 = .ok (.iload 6, 2) := by decide +kernel
theorem d_X14_function_237 : decode b_X14_function 237 = .ok (.aload_n 0, 1) := by decide +kernel
theorem d_X14_function_238 : decode b_X14_function 238 = .ok (.getfield 647, 3) := by decide +kernel
theorem d_X14_function_241 : decode b_X14_function 241 = .ok (.if_icmp .ge 116, 3) := by decide +kernel
theorem d_X14_function_244 : decode b_X14_function 244 = .ok (.aload_n 0, 1) := by decide +kernel
theorem d_X14_function_245 : decode b_X14_function 245 = .ok (.getfield 135, 3) := by decide +kernel
theorem d_X14_function_248 : decode b_X14_function 248 = .ok (.iload 6, 2) := by decide +kernel
theorem d_X14_function_250 : decode b_X14_function 250 = .ok (.iaload, 1) := by decide +kernel
theorem d_X14_function_251 : decode b_X14_function 251 = .ok (.ifCond .ge 37, 3) := by decide +kernel
theorem d_X14_function_254 : decode b_X14_function 254 = .ok (.aload_n 0, 1) := by decide +kernel
theorem d_X14_function_255 : decode b_X14_function 255 = .ok (.iconst 2, 1) := by decide +kernel
theorem d_X14_function_256 : decode b_X14_function 256 = .ok (.aload_n 0, 1) := by decide +kernel
theorem d_X14_function_257 : decode b_X14_function 257 = .ok (.getfield 138, 3) := by decide +kernel
theorem d_X14_function_260 : decode b_X14_function 260 = .ok (.iload 6, 2) := by decide +kernel
theorem d_X14_function_262 : decode b_X14_function 262 = .ok (.iaload, 1) := by decide +kernel
theorem d_X14_function_263 : decode b_X14_function 263 = .ok (.invokevirtual 304, 3) := by decide +kernel
theorem d_X14_function_266 : decode b_X14_function 266 = .ok (.aload_n 0, 1) := by decide +kernel
theorem d_X14_function_267 : decode b_X14_function 267 = .ok (.aload_n 0, 1) := by decide +kernel
theorem d_X14_function_268 : decode b_X14_function 268 = .ok (.getfield 138, 3) := by decide +kernel
theorem d_X14_function_271 : decode b_X14_function 271 = .ok (.iload 6, 2) := by decide +kernel
theorem d_X14_function_273 : decode b_X14_function 273 = .ok (.iaload, 1) := by decide +kernel
theorem d_X14_function_274 : decode b_X14_function 274 = .ok (.aload_n 0, 1) := by decide +kernel
theorem d_X14_function_275 : decode b_X14_function 275 = .ok (.getfield 132, 3) := by decide +kernel
theorem d_X14_function_278 : decode b_X14_function 278 = .ok (.iload 6, 2) := by decide +kernel
theorem d_X14_function_280 : decode b_X14_function 280 = .ok (.iaload, 1) := by decide +kernel
theorem d_X14_function_281 : decode b_X14_function 281 = .ok (.invokevirtual 628, 3) := by decide +kernel
theorem d_X14_function_284 : decode b_X14_function 284 = .ok (.pop, 1) := by decide +kernel
theorem d_X14_function_285 : decode b_X14_function 285 = .ok (.goto 66, 3) := by decide +kernel
theorem d_X14_function_288 : decode b_X14_function 288 = .ok (.aload_n 0, 1) := by decide +kernel
theorem d_X14_function_289 : decode b_X14_function 289 = .ok (.aload_n 0, 1) := by decide +kernel
theorem d_X14_function_290 : decode b_X14_function 290 = .ok (.aload_n 0, 1) := by decide +kernel
theorem d_X14_function_291 : decode b_X14_function 291 = .ok (.getfield 135, 3) := by decide +kernel
theorem d_X14_function_294 : decode b_X14_function 294 = .ok (.iload 6, 2) := by decide +kernel
theorem d_X14_function_296 : decode b_X14_function 296 = .ok (.iaload, 1) := by decide +kernel
theorem d_X14_function_297 : decode b_X14_function 297 = .ok (.invokevirtual 625, 3) := by decide +kernel
theorem d_X14_function_300 : decode b_X14_function 300 = .ok (.ifCond .ne 7, 3) := by decide +kernel
theorem d_X14_function_303 : decode b_X14_function 303 = .ok (.iconst 1, 1) := by decide +kernel
theorem d_X14_function_304 : decode b_X14_function 304 = .ok (.goto 4, 3) := by decide +kernel
theorem d_X14_function_307 : decode b_X14_function 307 = .ok (.iconst 0, 1) := by decide +kernel
theorem d_X14_function_308 : decode b_X14_function 308 = .ok (.aload_n 0, 1) := by decide +kernel
theorem d_X14_function_309 : decode b_X14_function 309 = .ok (.getfield 135, 3) := by decide +kernel
theorem d_X14_function_312 : decode b_X14_function 312 = .ok (.iload 6, 2) := by decide +kernel
theorem d_X14_function_314 : decode b_X14_function 314 = .ok (.iaload, 1) := by decide +kernel
theorem d_X14_function_315 : decode b_X14_function 315 = .ok (.invokevirtual 410, 3) := by decide +kernel
theorem d_X14_function_318 : decode b_X14_function 318 = .ok (.aload_n 0, 1) := by decide +kernel
theorem d_X14_function_319 : decode b_X14_function 319 = .ok (.aload_n 0, 1) := by decide +kernel
theorem d_X14_function_320 : decode b_X14_function 320 = .ok (.getfield 135, 3) := by decide +kernel
theorem d_X14_function_323 : decode b_X14_function 323 = .ok (.iload 6, 2) := by decide +kernel
theorem d_X14_function_325 : decode b_X14_function 325 = .ok (.iaload, 1) := by decide +kernel
theorem d_X14_function_326 : decode b_X14_function 326 = .ok (.aload_n 0, 1) := by decide +kernel
theorem d_X14_function_327 : decode b_X14_function 327 = .ok (.getfield 132, 3) := by decide +kernel
theorem d_X14_function_330 : decode b_X14_function 330 = .ok (.iload 6, 2) := by decide +kernel
theorem d_X14_function_332 : decode b_X14_function 332 = .ok (.iaload, 1) := by decide +kernel
theorem d_X14_function_333 : decode b_X14_function 333 = .ok (.invokevirtual 628, 3) := by decide +kernel
theorem d_X14_function_336 : decode b_X14_function 336 = .ok (.istore 7, 2) := by decide +kernel
theorem d_X14_function_338 : decode b_X14_function 338 = .ok (.aload_n 0, 1) := by decide +kernel
theorem d_X14_function_339 : decode b_X14_function 339 = .ok (.aload_n 0, 1) := by decide +kernel
theorem d_X14_function_340 : decode b_X14_function 340 = .ok (.getfield 135, 3) := by decide +kernel
theorem d_X14_function_343 : decode b_X14_function 343 = .ok (.iload 6, 2) := by decide +kernel
theorem d_X14_function_345 : decode b_X14_function 345 = .ok (.iaload, 1) := by decide +kernel
theorem d_X14_function_346 : decode b_X14_function 346 = .ok (.iload 7, 2) := by decide +kernel
theorem d_X14_function_348 : decode b_X14_function 348 = .ok (.invokevirtual 614, 3) := by decide +kernel
theorem d_X14_function_351 : decode b_X14_function 351 = .ok (.iinc 6 1, 3) := by decide +kernel
theorem d_X14_function_354 : decode b_X14_function 354 = .ok (.goto (-119), 3) := by decide +kernel
theorem d_X14_function_357 : decode b_X14_function 357 = .ok (.aload_n 0, 1) := by decide +kernel
theorem d_X14_function_358 : decode b_X14_function 358 = .ok (.iload_n 2, 1) := by decide +kernel
theorem d_X14_function_359 : decode b_X14_function 359 = .ok (.invokevirtual 662, 3) := by decide +kernel
theorem d_X14_function_362 : decode b_X14_function 362 = .ok (.return_, 1) := by decide +kernel
theorem d_X14_head_0 : decode b_X14_head 0 = .ok (.aload_n 0, 1) := by decide +kernel
theorem d_X14_head_1 : decode b_X14_head 1 = .ok (.iconst 0, 1) := by decide +kernel
theorem d_X14_head_2 : decode b_X14_head 2 = .ok (.putfield 647, 3) := by decide +kernel
theorem d_X14_head_5 : decode b_X14_head 5 = .ok (.aload_n 0, 1) := by decide +kernel
theorem d_X14_head_6 : decode b_X14_head 6 = .ok (.bipush 20, 2) := by decide +kernel
theorem d_X14_head_8 : decode b_X14_head 8 = .ok (.invokevirtual 497, 3) := by decide +kernel
theorem d_X14_head_11 : decode b_X14_head 11 = .ok (.aload_n 0, 1) := by decide +kernel
theorem d_X14_head_12 : decode b_X14_head 12 = .ok (.bipush 21, 2) := by decide +kernel
theorem d_X14_head_14 : decode b_X14_head 14 = .ok (.invokevirtual 530, 3) := by decide +kernel
theorem d_X14_head_17 : decode b_X14_head 17 = .ok (.ifCond .eq 4, 3) := by decide +kernel
theorem d_X14_head_20 : decode b_X14_head 20 = .ok (.return_, 1) := by decide +kernel
theorem d_X14_head_21 : decode b_X14_head 21 = .ok (.aload_n 0, 1) := by decide +kernel
theorem d_X14_head_22 : decode b_X14_head 22 = .ok (.getfield 13, 3) := by decide +kernel
theorem d_X14_head_25 : decode b_X14_head 25 = .ok (.aload_n 0, 1) := by decide +kernel
theorem d_X14_head_26 : decode b_X14_head 26 = .ok (.getfield 288, 3) := by decide +kernel
theorem d_X14_head_29 : decode b_X14_head 29 = .ok (.iaload, 1) := by decide +kernel
theorem d_X14_head_30 : decode b_X14_head 30 = .ok (.bipush 6, 2) := by decide +kernel
theorem d_X14_head_32 : decode b_X14_head 32 = .ok (.if_icmp .ne 20, 3) := by decide +kernel
theorem d_X14_head_35 : decode b_X14_head 35 = .ok (.aload_n 0, 1) := by decide +kernel
theorem d_X14_head_36 : decode b_X14_head 36 = .ok (.dup, 1) := by decide +kernel
theorem d_X14_head_37 : decode b_X14_head 37 = .ok (.getfield 288, 3) := by decide +kernel
theorem d_X14_head_40 : decode b_X14_head 40 = .ok (.iconst 1, 1) := by decide +kernel
theorem d_X14_head_41 : decode b_X14_head 41 = .ok (.iadd, 1) := by decide +kernel
theorem d_X14_head_42 : decode b_X14_head 42 = .ok (.putfield 288, 3) := by decide +kernel
theorem d_X14_head_45 : decode b_X14_head 45 = .ok (.aload_n 0, 1) := by decide +kernel
theorem d_X14_head_46 : decode b_X14_head 46 = .ok (.bipush 21, 2) := by decide +kernel
theorem d_X14_head_48 : decode b_X14_head 48 = .ok (.invokevirtual 497, 3) := by decide +kernel
theorem d_X14_head_51 : decode b_X14_head 51 = .ok (.return_, 1) := by decide +kernel
theorem d_X14_head_52 : decode b_X14_head 52 = .ok (.aload_n 0, 1) := by decide +kernel
theorem d_X14_head_53 : decode b_X14_head 53 = .ok (.getfield 13, 3) := by decide +kernel
theorem d_X14_head_56 : decode b_X14_head 56 = .ok (.aload_n 0, 1) := by decide +kernel
theorem d_X14_head_57 : decode b_X14_head 57 = .ok (.getfield 288, 3) := by decide +kernel
theorem d_X14_head_60 : decode b_X14_head 60 = .ok (.iaload, 1) := by decide +kernel
theorem d_X14_head_61 : decode b_X14_head 61 = .ok (.iconst 5, 1) := by decide +kernel
theorem d_X14_head_62 : decode b_X14_head 62 = .ok (.if_icmp .ne 12, 3) := by decide +kernel
theorem d_X14_head_65 : decode b_X14_head 65 = .ok (.aload_n 0, 1) := by decide +kernel
theorem d_X14_head_66 : decode b_X14_head 66 = .ok (.getfield 647, 3) := by decide +kernel
theorem d_X14_head_69 : decode b_X14_head 69 = .ok (.bipush 8, 2) := by decide +kernel
theorem d_X14_head_71 : decode b_X14_head 71 = .ok (.if_icmp .ne 8, 3) := by decide +kernel
theorem d_X14_head_74 : decode b_X14_head 74 = .ok (.aload_n 0, 1) := by decide +kernel
theorem d_X14_head_75 : decode b_X14_head 75 = .ok (.invokevirtual 311, 3) := by decide +kernel
theorem d_X14_head_78 : decode b_X14_head 78 = .ok (.athrow, 1) := by decide +kernel
theorem d_X14_head_79 : decode b_X14_head 79 = .ok (.aload_n 0, 1) := by decide +kernel
theorem d_X14_head_80 : decode b_X14_head 80 = .ok (.dup, 1) := by decide +kernel
theorem d_X14_head_81 : decode b_X14_head 81 = .ok (.getfield 288, 3) := by decide +kernel
theorem d_X14_head_84 : decode b_X14_head 84 = .ok (.iconst 1, 1) := by decide +kernel
theorem d_X14_head_85 : decode b_X14_head 85 = .ok (.iadd, 1) := by decide +kernel
theorem d_X14_head_86 : decode b_X14_head 86 = .ok (.putfield 288, 3) := by decide +kernel
theorem d_X14_head_89 : decode b_X14_head 89 = .ok (.aload_n 0, 1) := by decide +kernel
theorem d_X14_head_90 : decode b_X14_head 90 = .ok (.invokevirtual 494, 3) := by decide +kernel
theorem d_X14_head_93 : decode b_X14_head 93 = .ok (.istore_n 1, 1) := by decide +kernel
theorem d_X14_head_94 : decode b_X14_head 94 = .ok (.iconst (-1), 1) := by decide +kernel
theorem d_X14_head_95 : decode b_X14_head 95 = .ok (.istore_n 2, 1) := by decide +kernel
theorem d_X14_head_96 : decode b_X14_head 96 = .ok (.aload_n 0, 1) := by decide +kernel
theorem d_X14_head_97 : decode b_X14_head 97 = .ok (.getfield 13, 3) := by decide +kernel
theorem d_X14_head_100 : decode b_X14_head 100 = .ok (.aload_n 0, 1) := by decide +kernel
theorem d_X14_head_101 : decode b_X14_head 101 = .ok (.getfield 288, 3) := by decide +kernel
theorem d_X14_head_104 : decode b_X14_head 104 = .ok (.iaload, 1) := by decide +kernel
theorem d_X14_head_105 : decode b_X14_head 105 = .ok (.iconst 2, 1) := by decide +kernel
theorem d_X14_head_106 : decode b_X14_head 106 = .ok (.if_icmp .ne 18, 3) := by decide +kernel
theorem d_X14_head_109 : decode b_X14_head 109 = .ok (.aload_n 0, 1) := by decide +kernel
theorem d_X14_head_110 : decode b_X14_head 110 = .ok (.getfield 288, 3) := by decide +kernel
theorem d_X14_head_113 : decode b_X14_head 113 = .ok (.istore_n 2, 1) := by decide +kernel
theorem d_X14_head_114 : decode b_X14_head 114 = .ok (.aload_n 0, 1) := by decide +kernel
theorem d_X14_head_115 : decode b_X14_head 115 = .ok (.dup, 1) := by decide +kernel
theorem d_X14_head_116 : decode b_X14_head 116 = .ok (.getfield 288, 3) := by decide +kernel
theorem d_X14_head_119 : decode b_X14_head 119 = .ok (.iconst 1, 1) := by decide +kernel
theorem d_X14_head_120 : decode b_X14_head 120 = .ok (.iadd, 1) := by decide +kernel
theorem d_X14_head_121 : decode b_X14_head 121 = .ok (.putfield 288, 3) := by decide +kernel
theorem d_X14_head_124 : decode b_X14_head 124 = .ok (.aload_n 0, 1) := by decide +kernel
theorem d_X14_head_125 : decode b_X14_head 125 = .ok (.bipush 24, 2) := by decide +kernel
theorem d_X14_head_127 : decode b_X14_head 127 = .ok (.invokevirtual 530, 3) := by decide +kernel
theorem d_X14_head_130 : decode b_X14_head 130 = .ok (.ifCond .eq 12, 3) := by decide +kernel
theorem d_X14_head_133 : decode b_X14_head 133 = .ok (.aload_n 0, 1) := by decide +kernel
theorem d_X14_head_134 : decode b_X14_head 134 = .ok (.bipush 25, 2) := by decide +kernel
theorem d_X14_head_136 : decode b_X14_head 136 = .ok (.invokevirtual 497, 3) := by decide +kernel
theorem d_X14_head_139 : decode b_X14_head 139 = .ok (.iinc 1 1, 3) := by decide +kernel
theorem d_X14_head_142 : decode b_X14_head 142 = .ok (.aload_n 0, 1) := by decide +kernel
theorem d_X14_head_143 : decode b_X14_head 143 = .ok (.getfield 132, 3) := by decide +kernel
theorem d_X14_head_146 : decode b_X14_head 146 = .ok (.aload_n 0, 1) := by decide +kernel
theorem d_X14_head_147 : decode b_X14_head 147 = .ok (.getfield 647, 3) := by decide +kernel
theorem d_X14_head_150 : decode b_X14_head 150 = .ok (.iload_n 1, 1) := by decide +kernel
theorem d_X14_head_151 : decode b_X14_head 151 = .ok (.iastore, 1) := by decide +kernel
theorem d_X14_head_152 : decode b_X14_head 152 = .ok (.aload_n 0, 1) := by decide +kernel
theorem d_X14_head_153 : decode b_X14_head 153 = .ok (.getfield 135, 3) := by decide +kernel
theorem d_X14_head_156 : decode b_X14_head 156 = .ok (.aload_n 0, 1) := by decide +kernel
theorem d_X14_head_157 : decode b_X14_head 157 = .ok (.getfield 647, 3) := by decide +kernel
theorem d_X14_head_160 : decode b_X14_head 160 = .ok (.iload_n 2, 1) := by decide +kernel
theorem d_X14_head_161 : decode b_X14_head 161 = .ok (.iastore, 1) := by decide +kernel
theorem d_X14_head_162 : decode b_X14_head 162 = .ok (.aload_n 0, 1) := by decide +kernel
theorem d_X14_head_163 : decode b_X14_head 163 = .ok (.getfield 138, 3) := by decide +kernel
theorem d_X14_head_166 : decode b_X14_head 166 = .ok (.aload_n 0, 1) := by decide +kernel
theorem d_X14_head_167 : decode b_X14_head 167 = .ok (.getfield 647, 3) := by decide +kernel
theorem d_X14_head_170 : decode b_X14_head 170 = .ok (.aload_n 0, 1) := by decide +kernel
theorem d_X14_head_171 : decode b_X14_head 171 = .ok (.getfield 288, 3) := by decide +kernel
theorem d_X14_head_174 : decode b_X14_head 174 = .ok (.iastore, 1) := by decide +kernel
theorem d_X14_head_175 : decode b_X14_head 175 = .ok (.aload_n 0, 1) := by decide +kernel
theorem d_X14_head_176 : decode b_X14_head 176 = .ok (.dup, 1) := by decide +kernel
theorem d_X14_head_177 : decode b_X14_head 177 = .ok (.getfield 647, 3) := by decide +kernel
theorem d_X14_head_180 : decode b_X14_head 180 = .ok (.iconst 1, 1) := by decide +kernel
theorem d_X14_head_181 : decode b_X14_head 181 = .ok (.iadd, 1) := by decide +kernel
theorem d_X14_head_182 : decode b_X14_head 182 = .ok (.putfield 647, 3) := by decide +kernel
theorem d_X14_head_185 : decode b_X14_head 185 = .ok (.aload_n 0, 1) := by decide +kernel
theorem d_X14_head_186 : decode b_X14_head 186 = .ok (.bipush 26, 2) := by decide +kernel
theorem d_X14_head_188 : decode b_X14_head 188 = .ok (.invokevirtual 530, 3) := by decide +kernel
theorem d_X14_head_191 : decode b_X14_head 191 = .ok (.ifCond .ne (-139), 3) := by decide +kernel
theorem d_X14_head_194 : decode b_X14_head 194 = .ok (.aload_n 0, 1) := by decide +kernel
theorem d_X14_head_195 : decode b_X14_head 195 = .ok (.bipush 21, 2) := by decide +kernel
theorem d_X14_head_197 : decode b_X14_head 197 = .ok (.invokevirtual 497, 3) := by decide +kernel
theorem d_X14_head_200 : decode b_X14_head 200 = .ok (.return_, 1) := by decide +kernel
theorem d_X14_expect_0 : decode b_X14_expect 0 = .ok (.aload_n 0, 1) := by decide +kernel
theorem d_X14_expect_1 : decode b_X14_expect 1 = .ok (.iload_n 1, 1) := by decide +kernel
theorem d_X14_expect_2 : decode b_X14_expect 2 = .ok (.invokevirtual 308, 3) := by decide +kernel
theorem d_X14_expect_5 : decode b_X14_expect 5 = .ok (.ifCond .ne 8, 3) := by decide +kernel
theorem d_X14_expect_8 : decode b_X14_expect 8 = .ok (.aload_n 0, 1) := by decide +kernel
theorem d_X14_expect_9 : decode b_X14_expect 9 = .ok (.invokevirtual 311, 3) := by decide +kernel
theorem d_X14_expect_12 : decode b_X14_expect 12 = .ok (.athrow, 1) := by decide +kernel
theorem d_X14_expect_13 : decode b_X14_expect 13 = .ok (.aload_n 0, 1) := by decide +kernel
theorem d_X14_expect_14 : decode b_X14_expect 14 = .ok (.dup, 1) := by decide +kernel
theorem d_X14_expect_15 : decode b_X14_expect 15 = .ok (.getfield 288, 3) := by decide +kernel
