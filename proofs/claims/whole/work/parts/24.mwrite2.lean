/-! the reference: writing methods, laid by program -/
theorem dM_pieces_0 : decode cM_pieces 0 = .ok (.aload_n 0, 1) := by decide +kernel
theorem dM_pieces_1 : decode cM_pieces 1 = .ok (.getfield 44, 3) := by decide +kernel
theorem dM_pieces_4 : decode cM_pieces 4 = .ok (.iload_n 1, 1) := by decide +kernel
theorem dM_pieces_5 : decode cM_pieces 5 = .ok (.iconst 0, 1) := by decide +kernel
theorem dM_pieces_6 : decode cM_pieces 6 = .ok (.iastore, 1) := by decide +kernel
theorem dM_pieces_7 : decode cM_pieces 7 = .ok (.aload_n 0, 1) := by decide +kernel
theorem dM_pieces_8 : decode cM_pieces 8 = .ok (.getfield 7, 3) := by decide +kernel
theorem dM_pieces_11 : decode cM_pieces 11 = .ok (.iload_n 2, 1) := by decide +kernel
theorem dM_pieces_12 : decode cM_pieces 12 = .ok (.iaload, 1) := by decide +kernel
theorem dM_pieces_13 : decode cM_pieces 13 = .ok (.ifCond .eq 23, 3) := by decide +kernel
theorem dM_pieces_16 : decode cM_pieces 16 = .ok (.aload_n 0, 1) := by decide +kernel
theorem dM_pieces_17 : decode cM_pieces 17 = .ok (.getfield 7, 3) := by decide +kernel
theorem dM_pieces_20 : decode cM_pieces 20 = .ok (.iload_n 2, 1) := by decide +kernel
theorem dM_pieces_21 : decode cM_pieces 21 = .ok (.iaload, 1) := by decide +kernel
theorem dM_pieces_22 : decode cM_pieces 22 = .ok (.iconst 3, 1) := by decide +kernel
theorem dM_pieces_23 : decode cM_pieces 23 = .ok (.if_icmp .ne 45, 3) := by decide +kernel
theorem dM_pieces_26 : decode cM_pieces 26 = .ok (.aload_n 0, 1) := by decide +kernel
theorem dM_pieces_27 : decode cM_pieces 27 = .ok (.getfield 23, 3) := by decide +kernel
theorem dM_pieces_30 : decode cM_pieces 30 = .ok (.iload_n 2, 1) := by decide +kernel
theorem dM_pieces_31 : decode cM_pieces 31 = .ok (.iaload, 1) := by decide +kernel
theorem dM_pieces_32 : decode cM_pieces 32 = .ok (.iconst 1, 1) := by decide +kernel
theorem dM_pieces_33 : decode cM_pieces 33 = .ok (.if_icmp .ne 35, 3) := by decide +kernel
theorem dM_pieces_36 : decode cM_pieces 36 = .ok (.aload_n 0, 1) := by decide +kernel
theorem dM_pieces_37 : decode cM_pieces 37 = .ok (.iload_n 1, 1) := by decide +kernel
theorem dM_pieces_38 : decode cM_pieces 38 = .ok (.aload_n 0, 1) := by decide +kernel
theorem dM_pieces_39 : decode cM_pieces 39 = .ok (.iload_n 2, 1) := by decide +kernel
theorem dM_pieces_40 : decode cM_pieces 40 = .ok (.iconst 0, 1) := by decide +kernel
theorem dM_pieces_41 : decode cM_pieces 41 = .ok (.invokevirtual 111, 3) := by decide +kernel
theorem dM_pieces_44 : decode cM_pieces 44 = .ok (.aload_n 0, 1) := by decide +kernel
theorem dM_pieces_45 : decode cM_pieces 45 = .ok (.iload_n 2, 1) := by decide +kernel
theorem dM_pieces_46 : decode cM_pieces 46 = .ok (.iconst 0, 1) := by decide +kernel
theorem dM_pieces_47 : decode cM_pieces 47 = .ok (.invokevirtual 115, 3) := by decide +kernel
theorem dM_pieces_50 : decode cM_pieces 50 = .ok (.aload_n 0, 1) := by decide +kernel
theorem dM_pieces_51 : decode cM_pieces 51 = .ok (.iload_n 2, 1) := by decide +kernel
theorem dM_pieces_52 : decode cM_pieces 52 = .ok (.iconst 0, 1) := by decide +kernel
theorem dM_pieces_53 : decode cM_pieces 53 = .ok (.invokevirtual 111, 3) := by decide +kernel
theorem dM_pieces_56 : decode cM_pieces 56 = .ok (.aload_n 0, 1) := by decide +kernel
theorem dM_pieces_57 : decode cM_pieces 57 = .ok (.iload_n 2, 1) := by decide +kernel
theorem dM_pieces_58 : decode cM_pieces 58 = .ok (.iconst 0, 1) := by decide +kernel
theorem dM_pieces_59 : decode cM_pieces 59 = .ok (.invokevirtual 115, 3) := by decide +kernel
theorem dM_pieces_62 : decode cM_pieces 62 = .ok (.invokevirtual 141, 3) := by decide +kernel
theorem dM_pieces_65 : decode cM_pieces 65 = .ok (.goto 296, 3) := by decide +kernel
theorem dM_pieces_68 : decode cM_pieces 68 = .ok (.aload_n 0, 1) := by decide +kernel
theorem dM_pieces_69 : decode cM_pieces 69 = .ok (.getfield 7, 3) := by decide +kernel
theorem dM_pieces_72 : decode cM_pieces 72 = .ok (.iload_n 2, 1) := by decide +kernel
theorem dM_pieces_73 : decode cM_pieces 73 = .ok (.iaload, 1) := by decide +kernel
theorem dM_pieces_74 : decode cM_pieces 74 = .ok (.iconst 1, 1) := by decide +kernel
theorem dM_pieces_75 : decode cM_pieces 75 = .ok (.if_icmp .ne 122, 3) := by decide +kernel
theorem dM_pieces_78 : decode cM_pieces 78 = .ok (.aload_n 0, 1) := by decide +kernel
theorem dM_pieces_79 : decode cM_pieces 79 = .ok (.iload_n 1, 1) := by decide +kernel
theorem dM_pieces_80 : decode cM_pieces 80 = .ok (.aload_n 0, 1) := by decide +kernel
theorem dM_pieces_81 : decode cM_pieces 81 = .ok (.iload_n 2, 1) := by decide +kernel
theorem dM_pieces_82 : decode cM_pieces 82 = .ok (.iconst 0, 1) := by decide +kernel
theorem dM_pieces_83 : decode cM_pieces 83 = .ok (.invokevirtual 111, 3) := by decide +kernel
theorem dM_pieces_86 : decode cM_pieces 86 = .ok (.aload_n 0, 1) := by decide +kernel
theorem dM_pieces_87 : decode cM_pieces 87 = .ok (.iload_n 2, 1) := by decide +kernel
theorem dM_pieces_88 : decode cM_pieces 88 = .ok (.iconst 0, 1) := by decide +kernel
theorem dM_pieces_89 : decode cM_pieces 89 = .ok (.invokevirtual 115, 3) := by decide +kernel
theorem dM_pieces_92 : decode cM_pieces 92 = .ok (.aload_n 0, 1) := by decide +kernel
theorem dM_pieces_93 : decode cM_pieces 93 = .ok (.iload_n 2, 1) := by decide +kernel
theorem dM_pieces_94 : decode cM_pieces 94 = .ok (.iconst 1, 1) := by decide +kernel
theorem dM_pieces_95 : decode cM_pieces 95 = .ok (.invokevirtual 111, 3) := by decide +kernel
theorem dM_pieces_98 : decode cM_pieces 98 = .ok (.aload_n 0, 1) := by decide +kernel
theorem dM_pieces_99 : decode cM_pieces 99 = .ok (.iload_n 2, 1) := by decide +kernel
theorem dM_pieces_100 : decode cM_pieces 100 = .ok (.iconst 0, 1) := by decide +kernel
theorem dM_pieces_101 : decode cM_pieces 101 = .ok (.invokevirtual 115, 3) := by decide +kernel
theorem dM_pieces_104 : decode cM_pieces 104 = .ok (.invokevirtual 141, 3) := by decide +kernel
theorem dM_pieces_107 : decode cM_pieces 107 = .ok (.aload_n 0, 1) := by decide +kernel
theorem dM_pieces_108 : decode cM_pieces 108 = .ok (.iload_n 1, 1) := by decide +kernel
theorem dM_pieces_109 : decode cM_pieces 109 = .ok (.aload_n 0, 1) := by decide +kernel
theorem dM_pieces_110 : decode cM_pieces 110 = .ok (.iload_n 2, 1) := by decide +kernel
theorem dM_pieces_111 : decode cM_pieces 111 = .ok (.iconst 1, 1) := by decide +kernel
theorem dM_pieces_112 : decode cM_pieces 112 = .ok (.invokevirtual 111, 3) := by decide +kernel
theorem dM_pieces_115 : decode cM_pieces 115 = .ok (.aload_n 0, 1) := by decide +kernel
theorem dM_pieces_116 : decode cM_pieces 116 = .ok (.iload_n 2, 1) := by decide +kernel
theorem dM_pieces_117 : decode cM_pieces 117 = .ok (.iconst 0, 1) := by decide +kernel
theorem dM_pieces_118 : decode cM_pieces 118 = .ok (.invokevirtual 115, 3) := by decide +kernel
theorem dM_pieces_121 : decode cM_pieces 121 = .ok (.aload_n 0, 1) := by decide +kernel
theorem dM_pieces_122 : decode cM_pieces 122 = .ok (.iload_n 2, 1) := by decide +kernel
theorem dM_pieces_123 : decode cM_pieces 123 = .ok (.iconst 1, 1) := by decide +kernel
theorem dM_pieces_124 : decode cM_pieces 124 = .ok (.invokevirtual 111, 3) := by decide +kernel
theorem dM_pieces_127 : decode cM_pieces 127 = .ok (.aload_n 0, 1) := by decide +kernel
theorem dM_pieces_128 : decode cM_pieces 128 = .ok (.iload_n 2, 1) := by decide +kernel
theorem dM_pieces_129 : decode cM_pieces 129 = .ok (.iconst 1, 1) := by decide +kernel
theorem dM_pieces_130 : decode cM_pieces 130 = .ok (.invokevirtual 115, 3) := by decide +kernel
theorem dM_pieces_133 : decode cM_pieces 133 = .ok (.invokevirtual 141, 3) := by decide +kernel
theorem dM_pieces_136 : decode cM_pieces 136 = .ok (.aload_n 0, 1) := by decide +kernel
theorem dM_pieces_137 : decode cM_pieces 137 = .ok (.iload_n 1, 1) := by decide +kernel
theorem dM_pieces_138 : decode cM_pieces 138 = .ok (.aload_n 0, 1) := by decide +kernel
theorem dM_pieces_139 : decode cM_pieces 139 = .ok (.iload_n 2, 1) := by decide +kernel
theorem dM_pieces_140 : decode cM_pieces 140 = .ok (.iconst 1, 1) := by decide +kernel
theorem dM_pieces_141 : decode cM_pieces 141 = .ok (.invokevirtual 111, 3) := by decide +kernel
theorem dM_pieces_144 : decode cM_pieces 144 = .ok (.aload_n 0, 1) := by decide +kernel
theorem dM_pieces_145 : decode cM_pieces 145 = .ok (.iload_n 2, 1) := by decide +kernel
theorem dM_pieces_146 : decode cM_pieces 146 = .ok (.iconst 1, 1) := by decide +kernel
theorem dM_pieces_147 : decode cM_pieces 147 = .ok (.invokevirtual 115, 3) := by decide +kernel
theorem dM_pieces_150 : decode cM_pieces 150 = .ok (.aload_n 0, 1) := by decide +kernel
theorem dM_pieces_151 : decode cM_pieces 151 = .ok (.iload_n 2, 1) := by decide +kernel
theorem dM_pieces_152 : decode cM_pieces 152 = .ok (.iconst 0, 1) := by decide +kernel
theorem dM_pieces_153 : decode cM_pieces 153 = .ok (.invokevirtual 111, 3) := by decide +kernel
theorem dM_pieces_156 : decode cM_pieces 156 = .ok (.aload_n 0, 1) := by decide +kernel
theorem dM_pieces_157 : decode cM_pieces 157 = .ok (.iload_n 2, 1) := by decide +kernel
theorem dM_pieces_158 : decode cM_pieces 158 = .ok (.iconst 1, 1) := by decide +kernel
theorem dM_pieces_159 : decode cM_pieces 159 = .ok (.invokevirtual 115, 3) := by decide +kernel
theorem dM_pieces_162 : decode cM_pieces 162 = .ok (.invokevirtual 141, 3) := by decide +kernel
theorem dM_pieces_165 : decode cM_pieces 165 = .ok (.aload_n 0, 1) := by decide +kernel
theorem dM_pieces_166 : decode cM_pieces 166 = .ok (.iload_n 1, 1) := by decide +kernel
theorem dM_pieces_167 : decode cM_pieces 167 = .ok (.aload_n 0, 1) := by decide +kernel
theorem dM_pieces_168 : decode cM_pieces 168 = .ok (.iload_n 2, 1) := by decide +kernel
theorem dM_pieces_169 : decode cM_pieces 169 = .ok (.iconst 0, 1) := by decide +kernel
theorem dM_pieces_170 : decode cM_pieces 170 = .ok (.invokevirtual 111, 3) := by decide +kernel
theorem dM_pieces_173 : decode cM_pieces 173 = .ok (.aload_n 0, 1) := by decide +kernel
theorem dM_pieces_174 : decode cM_pieces 174 = .ok (.iload_n 2, 1) := by decide +kernel
theorem dM_pieces_175 : decode cM_pieces 175 = .ok (.iconst 1, 1) := by decide +kernel
theorem dM_pieces_176 : decode cM_pieces 176 = .ok (.invokevirtual 115, 3) := by decide +kernel
theorem dM_pieces_179 : decode cM_pieces 179 = .ok (.aload_n 0, 1) := by decide +kernel
theorem dM_pieces_180 : decode cM_pieces 180 = .ok (.iload_n 2, 1) := by decide +kernel
theorem dM_pieces_181 : decode cM_pieces 181 = .ok (.iconst 0, 1) := by decide +kernel
theorem dM_pieces_182 : decode cM_pieces 182 = .ok (.invokevirtual 111, 3) := by decide +kernel
theorem dM_pieces_185 : decode cM_pieces 185 = .ok (.aload_n 0, 1) := by decide +kernel
theorem dM_pieces_186 : decode cM_pieces 186 = .ok (.iload_n 2, 1) := by decide +kernel
theorem dM_pieces_187 : decode cM_pieces 187 = .ok (.iconst 0, 1) := by decide +kernel
theorem dM_pieces_188 : decode cM_pieces 188 = .ok (.invokevirtual 115, 3) := by decide +kernel
theorem dM_pieces_191 : decode cM_pieces 191 = .ok (.invokevirtual 141, 3) := by decide +kernel
theorem dM_pieces_194 : decode cM_pieces 194 = .ok (.goto 167, 3) := by decide +kernel
theorem dM_pieces_197 : decode cM_pieces 197 = .ok (.aload_n 0, 1) := by decide +kernel
theorem dM_pieces_198 : decode cM_pieces 198 = .ok (.getfield 7, 3) := by decide +kernel
theorem dM_pieces_201 : decode cM_pieces 201 = .ok (.iload_n 2, 1) := by decide +kernel
theorem dM_pieces_202 : decode cM_pieces 202 = .ok (.iaload, 1) := by decide +kernel
theorem dM_pieces_203 : decode cM_pieces 203 = .ok (.iconst 3, 1) := by decide +kernel
theorem dM_pieces_204 : decode cM_pieces 204 = .ok (.if_icmp .ne 57, 3) := by decide +kernel
theorem dM_pieces_207 : decode cM_pieces 207 = .ok (.iconst 1, 1) := by decide +kernel
theorem dM_pieces_208 : decode cM_pieces 208 = .ok (.istore_n 3, 1) := by decide +kernel
theorem dM_pieces_209 : decode cM_pieces 209 = .ok (.iload_n 3, 1) := by decide +kernel
theorem dM_pieces_210 : decode cM_pieces 210 = .ok (.aload_n 0, 1) := by decide +kernel
theorem dM_pieces_211 : decode cM_pieces 211 = .ok (.getfield 23, 3) := by decide +kernel
theorem dM_pieces_214 : decode cM_pieces 214 = .ok (.iload_n 2, 1) := by decide +kernel
theorem dM_pieces_215 : decode cM_pieces 215 = .ok (.iaload, 1) := by decide +kernel
theorem dM_pieces_216 : decode cM_pieces 216 = .ok (.if_icmp .ge 42, 3) := by decide +kernel
theorem dM_pieces_219 : decode cM_pieces 219 = .ok (.aload_n 0, 1) := by decide +kernel
theorem dM_pieces_220 : decode cM_pieces 220 = .ok (.iload_n 1, 1) := by decide +kernel
theorem dM_pieces_221 : decode cM_pieces 221 = .ok (.aload_n 0, 1) := by decide +kernel
theorem dM_pieces_222 : decode cM_pieces 222 = .ok (.iload_n 2, 1) := by decide +kernel
theorem dM_pieces_223 : decode cM_pieces 223 = .ok (.iload_n 3, 1) := by decide +kernel
theorem dM_pieces_224 : decode cM_pieces 224 = .ok (.iconst 1, 1) := by decide +kernel
theorem dM_pieces_225 : decode cM_pieces 225 = .ok (.isub, 1) := by decide +kernel
theorem dM_pieces_226 : decode cM_pieces 226 = .ok (.invokevirtual 111, 3) := by decide +kernel
theorem dM_pieces_229 : decode cM_pieces 229 = .ok (.aload_n 0, 1) := by decide +kernel
theorem dM_pieces_230 : decode cM_pieces 230 = .ok (.iload_n 2, 1) := by decide +kernel
theorem dM_pieces_231 : decode cM_pieces 231 = .ok (.iload_n 3, 1) := by decide +kernel
theorem dM_pieces_232 : decode cM_pieces 232 = .ok (.iconst 1, 1) := by decide +kernel
theorem dM_pieces_233 : decode cM_pieces 233 = .ok (.isub, 1) := by decide +kernel
theorem dM_pieces_234 : decode cM_pieces 234 = .ok (.invokevirtual 115, 3) := by decide +kernel
theorem dM_pieces_237 : decode cM_pieces 237 = .ok (.aload_n 0, 1) := by decide +kernel
theorem dM_pieces_238 : decode cM_pieces 238 = .ok (.iload_n 2, 1) := by decide +kernel
theorem dM_pieces_239 : decode cM_pieces 239 = .ok (.iload_n 3, 1) := by decide +kernel
theorem dM_pieces_240 : decode cM_pieces 240 = .ok (.invokevirtual 111, 3) := by decide +kernel
theorem dM_pieces_243 : decode cM_pieces 243 = .ok (.aload_n 0, 1) := by decide +kernel
theorem dM_pieces_244 : decode cM_pieces 244 = .ok (.iload_n 2, 1) := by decide +kernel
theorem dM_pieces_245 : decode cM_pieces 245 = .ok (.iload_n 3, 1) := by decide +kernel
theorem dM_pieces_246 : decode cM_pieces 246 = .ok (.invokevirtual 115, 3) := by decide +kernel
theorem dM_pieces_249 : decode cM_pieces 249 = .ok (.invokevirtual 141, 3) := by decide +kernel
theorem dM_pieces_252 : decode cM_pieces 252 = .ok (.iinc 3 1, 3) := by decide +kernel
theorem dM_pieces_255 : decode cM_pieces 255 = .ok (.goto (-46), 3) := by decide +kernel
theorem dM_pieces_258 : decode cM_pieces 258 = .ok (.goto 103, 3) := by decide +kernel
theorem dM_pieces_261 : decode cM_pieces 261 = .ok (.iconst 0, 1) := by decide +kernel
theorem dM_pieces_262 : decode cM_pieces 262 = .ok (.istore_n 3, 1) := by decide +kernel
theorem dM_pieces_263 : decode cM_pieces 263 = .ok (.iconst 0, 1) := by decide +kernel
theorem dM_pieces_264 : decode cM_pieces 264 = .ok (.istore 4, 2) := by decide +kernel
theorem dM_pieces_266 : decode cM_pieces 266 = .ok (.iload 4, 2) := by decide +kernel
theorem dM_pieces_268 : decode cM_pieces 268 = .ok (.aload_n 0, 1) := by decide +kernel
theorem dM_pieces_269 : decode cM_pieces 269 = .ok (.getfield 29, 3) := by decide +kernel
theorem dM_pieces_272 : decode cM_pieces 272 = .ok (.iload_n 2, 1) := by decide +kernel
theorem dM_pieces_273 : decode cM_pieces 273 = .ok (.iaload, 1) := by decide +kernel
theorem dM_pieces_274 : decode cM_pieces 274 = .ok (.if_icmp .ge 87, 3) := by decide +kernel
theorem dM_pieces_277 : decode cM_pieces 277 = .ok (.aload_n 0, 1) := by decide +kernel
theorem dM_pieces_278 : decode cM_pieces 278 = .ok (.getfield 26, 3) := by decide +kernel
theorem dM_pieces_281 : decode cM_pieces 281 = .ok (.bipush 16, 2) := by decide +kernel
theorem dM_pieces_283 : decode cM_pieces 283 = .ok (.iload_n 2, 1) := by decide +kernel
theorem dM_pieces_284 : decode cM_pieces 284 = .ok (.imul, 1) := by decide +kernel
theorem dM_pieces_285 : decode cM_pieces 285 = .ok (.iload 4, 2) := by decide +kernel
theorem dM_pieces_287 : decode cM_pieces 287 = .ok (.iadd, 1) := by decide +kernel
theorem dM_pieces_288 : decode cM_pieces 288 = .ok (.iaload, 1) := by decide +kernel
theorem dM_pieces_289 : decode cM_pieces 289 = .ok (.istore 5, 2) := by decide +kernel
theorem dM_pieces_291 : decode cM_pieces 291 = .ok (.iload_n 3, 1) := by decide +kernel
theorem dM_pieces_292 : decode cM_pieces 292 = .ok (.istore 6, 2) := by decide +kernel
theorem dM_pieces_294 : decode cM_pieces 294 = .ok (.iload 6, 2) := by decide +kernel
theorem dM_pieces_296 : decode cM_pieces 296 = .ok (.iload 5, 2) := by decide +kernel
theorem dM_pieces_298 : decode cM_pieces 298 = .ok (.if_icmp .ge 54, 3) := by decide +kernel
theorem dM_pieces_301 : decode cM_pieces 301 = .ok (.aload_n 0, 1) := by decide +kernel
theorem dM_pieces_302 : decode cM_pieces 302 = .ok (.iload_n 1, 1) := by decide +kernel
theorem dM_pieces_303 : decode cM_pieces 303 = .ok (.aload_n 0, 1) := by decide +kernel
theorem dM_pieces_304 : decode cM_pieces 304 = .ok (.iload_n 2, 1) := by decide +kernel
theorem dM_pieces_305 : decode cM_pieces 305 = .ok (.iload 6, 2) := by decide +kernel
theorem dM_pieces_307 : decode cM_pieces 307 = .ok (.invokevirtual 111, 3) := by decide +kernel
theorem dM_pieces_310 : decode cM_pieces 310 = .ok (.aload_n 0, 1) := by decide +kernel
theorem dM_pieces_311 : decode cM_pieces 311 = .ok (.iload_n 2, 1) := by decide +kernel
theorem dM_pieces_312 : decode cM_pieces 312 = .ok (.iload 6, 2) := by decide +kernel
theorem dM_pieces_314 : decode cM_pieces 314 = .ok (.invokevirtual 115, 3) := by decide +kernel
theorem dM_pieces_317 : decode cM_pieces 317 = .ok (.aload_n 0, 1) := by decide +kernel
theorem dM_pieces_318 : decode cM_pieces 318 = .ok (.iload_n 2, 1) := by decide +kernel
theorem dM_pieces_319 : decode cM_pieces 319 = .ok (.iload 6, 2) := by decide +kernel
theorem dM_pieces_321 : decode cM_pieces 321 = .ok (.iload_n 3, 1) := by decide +kernel
theorem dM_pieces_322 : decode cM_pieces 322 = .ok (.iload 5, 2) := by decide +kernel
theorem dM_pieces_324 : decode cM_pieces 324 = .ok (.invokestatic 118, 3) := by decide +kernel
theorem dM_pieces_327 : decode cM_pieces 327 = .ok (.invokevirtual 111, 3) := by decide +kernel
theorem dM_pieces_330 : decode cM_pieces 330 = .ok (.aload_n 0, 1) := by decide +kernel
theorem dM_pieces_331 : decode cM_pieces 331 = .ok (.iload_n 2, 1) := by decide +kernel
theorem dM_pieces_332 : decode cM_pieces 332 = .ok (.iload 6, 2) := by decide +kernel
theorem dM_pieces_334 : decode cM_pieces 334 = .ok (.iload_n 3, 1) := by decide +kernel
theorem dM_pieces_335 : decode cM_pieces 335 = .ok (.iload 5, 2) := by decide +kernel
theorem dM_pieces_337 : decode cM_pieces 337 = .ok (.invokestatic 118, 3) := by decide +kernel
theorem dM_pieces_340 : decode cM_pieces 340 = .ok (.invokevirtual 115, 3) := by decide +kernel
theorem dM_pieces_343 : decode cM_pieces 343 = .ok (.invokevirtual 141, 3) := by decide +kernel
theorem dM_pieces_346 : decode cM_pieces 346 = .ok (.iinc 6 1, 3) := by decide +kernel
theorem dM_pieces_349 : decode cM_pieces 349 = .ok (.goto (-55), 3) := by decide +kernel
theorem dM_pieces_352 : decode cM_pieces 352 = .ok (.iload 5, 2) := by decide +kernel
theorem dM_pieces_354 : decode cM_pieces 354 = .ok (.istore_n 3, 1) := by decide +kernel
theorem dM_pieces_355 : decode cM_pieces 355 = .ok (.iinc 4 1, 3) := by decide +kernel
theorem dM_pieces_358 : decode cM_pieces 358 = .ok (.goto (-92), 3) := by decide +kernel
theorem dM_pieces_361 : decode cM_pieces 361 = .ok (.return_, 1) := by decide +kernel
def f_M_pieces_j361 (vv : MV) : Option MV := some vv
def f_M_pieces_l294 (K266 : MV → Int32 → Int32 → Int32 → Int32 → Option MV) : Nat → MV → Int32 → Int32 → Int32 → Int32 → Int32 → Int32 → Option MV
 | 0, _, _, _, _, _, _, _ => none
 | n + 1, vv, p1, p2, p3, p4, p5, p6 => (if p5 ≤ p6 then (K266 vv p1 p2 p5 (p4 + 1)) else (f_M_x vv p2 p6).bind fun u49 => (f_M_y vv p2 p6).bind fun u50 => (f_M_behind p6 p3 p5).bind fun u51 => (f_M_x vv p2 u51).bind fun u52 => (f_M_behind p6 p3 p5).bind fun u53 => (f_M_y vv p2 u53).bind fun u54 => (f_M_piece vv p1 u49 u50 u52 u54).bind fun u55 => ((f_M_pieces_l294 K266 n) u55 p1 p2 p3 p4 p5 (p6 + 1)))
def f_M_pieces_l266 : Nat → MV → Int32 → Int32 → Int32 → Int32 → Option MV
 | 0, _, _, _, _, _ => none
 | n + 1, vv, p1, p2, p3, p4 => (ld 40 (md_rings vv) p2).bind fun u38 => (if u38 ≤ p4 then (f_M_pieces_j361 vv) else (ld 640 (md_ends vv) (((16 : Int32) * p2) + p4)).bind fun u40 => (f_M_pieces_l294 (f_M_pieces_l266 n) 64 vv p1 p2 p3 p4 u40 p3))
def f_M_pieces_l209 : Nat → MV → Int32 → Int32 → Int32 → Option MV
 | 0, _, _, _, _ => none
 | n + 1, vv, p1, p2, p3 => (ld 40 (md_many vv) p2).bind fun u41 => (if u41 ≤ p3 then (f_M_pieces_j361 vv) else (f_M_x vv p2 (p3 - (1 : Int32))).bind fun u43 => (f_M_y vv p2 (p3 - (1 : Int32))).bind fun u44 => (f_M_x vv p2 p3).bind fun u45 => (f_M_y vv p2 p3).bind fun u46 => (f_M_piece vv p1 u43 u44 u45 u46).bind fun u47 => ((f_M_pieces_l209 n) u47 p1 p2 (p3 + 1)))
def f_M_pieces_j68 (vv : MV) (p1 : Int32) (p2 : Int32) : Option MV := (ld 40 (md_kinds vv) p2).bind fun u14 => (if u14 = (1 : Int32) then (f_M_x vv p2 (0 : Int32)).bind fun u18 => (f_M_y vv p2 (0 : Int32)).bind fun u19 => (f_M_x vv p2 (1 : Int32)).bind fun u20 => (f_M_y vv p2 (0 : Int32)).bind fun u21 => (f_M_piece vv p1 u18 u19 u20 u21).bind fun u22 => (f_M_x u22 p2 (1 : Int32)).bind fun u23 => (f_M_y u22 p2 (0 : Int32)).bind fun u24 => (f_M_x u22 p2 (1 : Int32)).bind fun u25 => (f_M_y u22 p2 (1 : Int32)).bind fun u26 => (f_M_piece u22 p1 u23 u24 u25 u26).bind fun u27 => (f_M_x u27 p2 (1 : Int32)).bind fun u28 => (f_M_y u27 p2 (1 : Int32)).bind fun u29 => (f_M_x u27 p2 (0 : Int32)).bind fun u30 => (f_M_y u27 p2 (1 : Int32)).bind fun u31 => (f_M_piece u27 p1 u28 u29 u30 u31).bind fun u32 => (f_M_x u32 p2 (0 : Int32)).bind fun u33 => (f_M_y u32 p2 (1 : Int32)).bind fun u34 => (f_M_x u32 p2 (0 : Int32)).bind fun u35 => (f_M_y u32 p2 (0 : Int32)).bind fun u36 => (f_M_piece u32 p1 u33 u34 u35 u36).bind fun u37 => (f_M_pieces_j361 u37) else (ld 40 (md_kinds vv) p2).bind fun u16 => (if u16 = (3 : Int32) then (f_M_pieces_l209 64 vv p1 p2 (1 : Int32)) else (f_M_pieces_l266 64 vv p1 p2 (0 : Int32) (0 : Int32))))
def f_M_pieces_j36 (vv : MV) (p1 : Int32) (p2 : Int32) : Option MV := (f_M_x vv p2 (0 : Int32)).bind fun u9 => (f_M_y vv p2 (0 : Int32)).bind fun u10 => (f_M_x vv p2 (0 : Int32)).bind fun u11 => (f_M_y vv p2 (0 : Int32)).bind fun u12 => (f_M_piece vv p1 u9 u10 u11 u12).bind fun u13 => (f_M_pieces_j361 u13)
def f_M_pieces (v : MV) (x1 : Int32) (x2 : Int32) : Option MV := (ck 2 x1).bind fun u1 => (some (ms_size v (upd (md_size v) x1.toNatClampNeg (0 : Int32)))).bind fun v2 => (ld 40 (md_kinds v2) x2).bind fun u3 => (if u3 = 0 then (f_M_pieces_j36 v2 x1 x2) else (ld 40 (md_kinds v2) x2).bind fun u5 => (if u5 = (3 : Int32) then (ld 40 (md_many v2) x2).bind fun u7 => (if u7 = (1 : Int32) then (f_M_pieces_j36 v2 x1 x2) else (f_M_pieces_j68 v2 x1 x2)) else (f_M_pieces_j68 v2 x1 x2)))
set_option maxHeartbeats 4000000 in
set_option maxRecDepth 100000 in
theorem k_M_pieces (l : Launch) (dC : Nat → ClassId) (dI : Nat → Nat → Nat) (cL cI : ClassId) (qm : Nat → Nat) (v : MV) (x1 : Int32) (x2 : Int32) (r : MV) (h : f_M_pieces v x1 x2 = some r) : Met l yM_pieces wsM_pieces ({ frames := 1, cells := 0, slots := 0, locals := 30 }) (rd_Pc [.ref (qm 0), .int x1, .int x2] (fun H => va_P (dC, dI) cls3 (mdW cL cI qm v) H ∧ va_D (inQ qm) (mdW cL cI qm v)) (dC, dI) cls3 [(cL, .long), (cI, .int)]) (mu_Q none (dC, dI) cls3 (mdW cL cI qm r) (inQ qm)) 0 0 (inQ qm) := by
  refine Met.ofW (cc := cM_pieces) (maxL := 7) (ret := none) (by decide) rfl ?_
  intro p e s m args below meth c s₁ B hml hv
  obtain ⟨rfl, ⟨hPm, hD⟩, hK⟩ := hv
  have hx := B.exec
  have hb := B.bytes
  have hr := B.returns
  have hw : ∀ w ∈ wG, w.before ([.ref (qm 0), .int x1, .int x2] : List Value).toArray s = true := fun w hq => atoms_spec (ws := wsM_pieces) B.pre w (List.mem_cons_of_mem _ hq)
  have hown : s.vm.findClass R_M = some m.cls := findClass_of_methodNamed B.named
  have hlocks := B.notSynchronized
  have hl := lv_entry ([.ref (qm 0), .int x1, .int x2] : List Value) (n := 7) (Nat.le_of_ble_eq_true rfl)
  rw [lg_entry_eq]
  generalize (lg_sl ([.ref (qm 0), .int x1, .int x2] : List Value) ++ List.replicate (7 - (lg_sl ([.ref (qm 0), .int x1, .int x2] : List Value)).length) Slot.unset).toArray = ls at hl ⊢
  have hl : lv_has ls 7 [(0, .ref (qm 0)), (1, .int x1), (2, .int x2)] := hl
  have k361 : ∀ (vv : MV), f_M_pieces_j361 vv = some r → ∀ (H : Heap) (locs : List Loc), va_P (dC, dI) cls3 (mdW cL cI qm vv) H → va_D (inQ qm) (mdW cL cI qm vv) → va_S (inQ qm) s.heap H locs → ∀ (ls : Array Slot), lv_has ls 7 [] → W p l e (headSpec wsM_pieces ({ frames := 1, cells := 0, slots := 0, locals := 30 })).room s m ([.ref (qm 0), .int x1, .int x2] : List Value).toArray below meth c H locs 0 0 (MQ below (mu_Q none (dC, dI) cls3 (mdW cL cI qm r) (inQ qm)) ([.ref (qm 0), .int x1, .int x2] : List Value).toArray s 0 0 (inQ qm)) (F0 m 361 ls []) := by
    intro vv h H locs hPm hD hS ls hl
    unfold f_M_pieces_j361 at h
    have h := Option.some.inj h
    subst h
    exact W.vret hx hb hr (fun t ht hW => ⟨rfl, by rw [ht]; exact hPm, hS.F ht⟩) hS.2.2 dM_pieces_361
  have k266 : ∀ (n266 : Nat), ∀ (vv : MV) (p1 : Int32) (p2 : Int32) (p3 : Int32) (p4 : Int32), f_M_pieces_l266 n266 vv p1 p2 p3 p4 = some r → ∀ (H : Heap) (locs : List Loc), va_P (dC, dI) cls3 (mdW cL cI qm vv) H → va_D (inQ qm) (mdW cL cI qm vv) → va_S (inQ qm) s.heap H locs → ∀ (ls : Array Slot), lv_has ls 7 [(0, .ref (qm 0)), (1, .int p1), (2, .int p2), (3, .int p3), (4, .int p4)] → W p l e (headSpec wsM_pieces ({ frames := 1, cells := 0, slots := 0, locals := 30 })).room s m ([.ref (qm 0), .int x1, .int x2] : List Value).toArray below meth c H locs 0 0 (MQ below (mu_Q none (dC, dI) cls3 (mdW cL cI qm r) (inQ qm)) ([.ref (qm 0), .int x1, .int x2] : List Value).toArray s 0 0 (inQ qm)) (F0 m 266 ls []) := by
    intro n266
    induction n266 with
    | zero => intro vv p1 p2 p3 p4 h; exact absurd h (by simp [f_M_pieces_l266])
    | succ n266 ih266 =>
      have k294 : ∀ (n294 : Nat), ∀ (vv : MV) (p1 : Int32) (p2 : Int32) (p3 : Int32) (p4 : Int32) (p5 : Int32) (p6 : Int32), f_M_pieces_l294 (f_M_pieces_l266 n266) n294 vv p1 p2 p3 p4 p5 p6 = some r → ∀ (H : Heap) (locs : List Loc), va_P (dC, dI) cls3 (mdW cL cI qm vv) H → va_D (inQ qm) (mdW cL cI qm vv) → va_S (inQ qm) s.heap H locs → ∀ (ls : Array Slot), lv_has ls 7 [(0, .ref (qm 0)), (1, .int p1), (2, .int p2), (3, .int p3), (4, .int p4), (5, .int p5), (6, .int p6)] → W p l e (headSpec wsM_pieces ({ frames := 1, cells := 0, slots := 0, locals := 30 })).room s m ([.ref (qm 0), .int x1, .int x2] : List Value).toArray below meth c H locs 0 0 (MQ below (mu_Q none (dC, dI) cls3 (mdW cL cI qm r) (inQ qm)) ([.ref (qm 0), .int x1, .int x2] : List Value).toArray s 0 0 (inQ qm)) (F0 m 294 ls []) := by
        intro n294
        induction n294 with
        | zero => intro vv p1 p2 p3 p4 p5 p6 h; exact absurd h (by simp [f_M_pieces_l294])
        | succ n294 ih294 =>
          intro vv p1 p2 p3 p4 p5 p6 h H locs hPm hD hS ls hl
          rw [f_M_pieces_l294] at h
          refine lv_iload hx hb dM_pieces_294 (lv_at hl 6 rfl) ?_
          refine lv_iload hx hb dM_pieces_296 (lv_at hl 5 rfl) ?_
          refine lv_icmp_ge (tgt := 352) hx hb dM_pieces_298 (by decide) (fun c48 => ?_) (fun c48 => ?_)
          · have h := it_t c48 h
            refine lv_iload hx hb dM_pieces_352 (lv_at hl 5 rfl) ?_
            refine lv_istore_n (lv' := [(3, .int p5), (0, .ref (qm 0)), (1, .int p1), (2, .int p2), (4, .int p4), (5, .int p5), (6, .int p6)]) hx hb dM_pieces_354 rfl hl (by decide) rfl (fun ls hl => ?_)
            refine lv_iinc (v := p4 + 1) (lv' := [(4, .int (p4 + 1)), (3, .int p5), (0, .ref (qm 0)), (1, .int p1), (2, .int p2), (5, .int p5), (6, .int p6)]) hx hb dM_pieces_355 hl (k := 4) rfl rfl (by decide) rfl (fun ls hl => ?_)
            refine lv_goto (tgt := 266) hx hb dM_pieces_358 (by decide) ?_
            exact ih266 vv p1 p2 p5 (p4 + 1) h H locs hPm hD hS ls (lv_sub hl [2, 3, 4, 1, 0] rfl)
          · have h := it_f c48 h
            refine lv_aload_n hx hb dM_pieces_301 rfl (lv_at hl 0 rfl) ?_
            refine lv_iload_n hx hb dM_pieces_302 rfl (lv_at hl 1 rfl) ?_
            refine lv_aload_n hx hb dM_pieces_303 rfl (lv_at hl 0 rfl) ?_
            refine lv_iload_n hx hb dM_pieces_304 rfl (lv_at hl 2 rfl) ?_
            refine lv_iload hx hb dM_pieces_305 (lv_at hl 6 rfl) ?_
            obtain ⟨u49, hu49, h⟩ := ob_some h
            refine vp_callSl (va_Run.run (va_runV (As := [.int p2, .int p6]) (rest := [.int p1, .ref (qm 0)]) ⟨hx, hb, hml, hown, hw⟩ (k_M_x l dC dI cL cI qm vv p2 p6 u49 hu49) (cwV 2 hw (gV w_550 w_552 wp_11 w_2 w_553) rfl rfl rfl (by decide +kernel) ⟨Nat.le_of_ble_eq_true rfl, Nat.le_of_ble_eq_true rfl⟩) ⟨rd_blind, va_recv hK hPm (ci := 2) (q0 := 0) rfl rfl, rd_pre hPm hK⟩ rfl rfl hl.1 rfl (lv_room (Nat.le_of_ble_eq_true rfl)) dM_pieces_307 ⟨Nat.le_of_ble_eq_true rfl, Nat.le_of_ble_eq_true rfl⟩)) (fun z hz => ?_)
            rw [hz]; clear hz
            refine lv_aload_n hx hb dM_pieces_310 rfl (lv_at hl 0 rfl) ?_
            refine lv_iload_n hx hb dM_pieces_311 rfl (lv_at hl 2 rfl) ?_
            refine lv_iload hx hb dM_pieces_312 (lv_at hl 6 rfl) ?_
            obtain ⟨u50, hu50, h⟩ := ob_some h
            refine vp_callSl (va_Run.run (va_runV (As := [.int p2, .int p6]) (rest := [.long u49, .int p1, .ref (qm 0)]) ⟨hx, hb, hml, hown, hw⟩ (k_M_y l dC dI cL cI qm vv p2 p6 u50 hu50) (cwV 2 hw (gV w_554 w_556 wp_12 w_2 w_557) rfl rfl rfl (by decide +kernel) ⟨Nat.le_of_ble_eq_true rfl, Nat.le_of_ble_eq_true rfl⟩) ⟨rd_blind, va_recv hK hPm (ci := 2) (q0 := 0) rfl rfl, rd_pre hPm hK⟩ rfl rfl hl.1 rfl (lv_room (Nat.le_of_ble_eq_true rfl)) dM_pieces_314 ⟨Nat.le_of_ble_eq_true rfl, Nat.le_of_ble_eq_true rfl⟩)) (fun z hz => ?_)
            rw [hz]; clear hz
            refine lv_aload_n hx hb dM_pieces_317 rfl (lv_at hl 0 rfl) ?_
            refine lv_iload_n hx hb dM_pieces_318 rfl (lv_at hl 2 rfl) ?_
            refine lv_iload hx hb dM_pieces_319 (lv_at hl 6 rfl) ?_
            refine lv_iload_n hx hb dM_pieces_321 rfl (lv_at hl 3 rfl) ?_
            refine lv_iload hx hb dM_pieces_322 (lv_at hl 5 rfl) ?_
            obtain ⟨u51, hu51, h⟩ := ob_some h
            refine vp_callSi (va_Run.run (va_runS (As := [.int p6, .int p3, .int p5]) (rest := [.int p2, .ref (qm 0), .long u50, .long u49, .int p1, .ref (qm 0)]) ⟨hx, hb, hml, hown, hw⟩ (k_M_behind l dC dI cL cI p6 p3 p5 u51 hu51) (va_cwS 3 hw (gS w_575 w_576 w_2 w_577) rfl rfl rfl (by decide +kernel) ⟨Nat.le_of_ble_eq_true rfl, Nat.le_of_ble_eq_true rfl⟩) ⟨rd_blind, rd_pre trivial hK⟩ rfl rfl hl.1 rfl (lv_room (Nat.le_of_ble_eq_true rfl)) dM_pieces_324 ⟨Nat.le_of_ble_eq_true rfl, Nat.le_of_ble_eq_true rfl⟩)) (fun z hz => ?_)
            rw [hz]; clear hz
            obtain ⟨u52, hu52, h⟩ := ob_some h
            refine vp_callSl (va_Run.run (va_runV (As := [.int p2, .int u51]) (rest := [.long u50, .long u49, .int p1, .ref (qm 0)]) ⟨hx, hb, hml, hown, hw⟩ (k_M_x l dC dI cL cI qm vv p2 u51 u52 hu52) (cwV 2 hw (gV w_550 w_552 wp_11 w_2 w_553) rfl rfl rfl (by decide +kernel) ⟨Nat.le_of_ble_eq_true rfl, Nat.le_of_ble_eq_true rfl⟩) ⟨rd_blind, va_recv hK hPm (ci := 2) (q0 := 0) rfl rfl, rd_pre hPm hK⟩ rfl rfl hl.1 rfl (lv_room (Nat.le_of_ble_eq_true rfl)) dM_pieces_327 ⟨Nat.le_of_ble_eq_true rfl, Nat.le_of_ble_eq_true rfl⟩)) (fun z hz => ?_)
            rw [hz]; clear hz
            refine lv_aload_n hx hb dM_pieces_330 rfl (lv_at hl 0 rfl) ?_
            refine lv_iload_n hx hb dM_pieces_331 rfl (lv_at hl 2 rfl) ?_
            refine lv_iload hx hb dM_pieces_332 (lv_at hl 6 rfl) ?_
            refine lv_iload_n hx hb dM_pieces_334 rfl (lv_at hl 3 rfl) ?_
            refine lv_iload hx hb dM_pieces_335 (lv_at hl 5 rfl) ?_
            obtain ⟨u53, hu53, h⟩ := ob_some h
            refine vp_callSi (va_Run.run (wd_runS 10 (As := [.int p6, .int p3, .int p5]) (rest := [.int p2, .ref (qm 0), .long u52, .long u50, .long u49, .int p1, .ref (qm 0)]) ⟨hx, hb, hml, hown, hw⟩ (k_M_behind l dC dI cL cI p6 p3 p5 u53 hu53) (va_cwS 3 hw (gS w_575 w_576 w_2 w_577) rfl rfl rfl (by decide +kernel) ⟨Nat.le_of_ble_eq_true rfl, Nat.le_of_ble_eq_true rfl⟩) (Nat.le_of_ble_eq_true rfl) ⟨rd_blind, rd_pre trivial hK⟩ rfl rfl hl.1 rfl (wd_room (Nat.le_of_ble_eq_true rfl)) dM_pieces_337 ⟨Nat.le_of_ble_eq_true rfl, Nat.le_of_ble_eq_true rfl⟩)) (fun z hz => ?_)
            rw [hz]; clear hz
            obtain ⟨u54, hu54, h⟩ := ob_some h
            refine vp_callSl (va_Run.run (va_runV (As := [.int p2, .int u53]) (rest := [.long u52, .long u50, .long u49, .int p1, .ref (qm 0)]) ⟨hx, hb, hml, hown, hw⟩ (k_M_y l dC dI cL cI qm vv p2 u53 u54 hu54) (cwV 2 hw (gV w_554 w_556 wp_12 w_2 w_557) rfl rfl rfl (by decide +kernel) ⟨Nat.le_of_ble_eq_true rfl, Nat.le_of_ble_eq_true rfl⟩) ⟨rd_blind, va_recv hK hPm (ci := 2) (q0 := 0) rfl rfl, rd_pre hPm hK⟩ rfl rfl hl.1 rfl (lv_room (Nat.le_of_ble_eq_true rfl)) dM_pieces_340 ⟨Nat.le_of_ble_eq_true rfl, Nat.le_of_ble_eq_true rfl⟩)) (fun z hz => ?_)
            rw [hz]; clear hz
            obtain ⟨u55, hu55, h⟩ := ob_some h
            refine mu_call (va_runV (As := [.int p1, .long u49, .long u50, .long u52, .long u54]) (rest := []) ⟨hx, hb, hml, hown, hw⟩ (k_M_piece l dC dI cL cI qm vv p1 u49 u50 u52 u54 u55 hu55) (cwV 5 hw (gV w_607 w_609 wp_19 w_2 w_610) rfl rfl rfl (by decide +kernel) ⟨Nat.le_of_ble_eq_true rfl, Nat.le_of_ble_eq_true rfl⟩) ⟨rd_blind, va_recv hK hPm (ci := 2) (q0 := 0) rfl rfl, rd_pre ⟨hPm, hD⟩ hK⟩ rfl rfl hl.1 rfl (lv_room (Nat.le_of_ble_eq_true rfl)) dM_pieces_343 ⟨Nat.le_of_ble_eq_true rfl, Nat.le_of_ble_eq_true rfl⟩) hS (fun _ z => z) (fun H locs hPm hS _ _ => ?_)
            have hD := md_D (u55) hD
            refine lv_iinc (v := p6 + 1) (lv' := [(6, .int (p6 + 1)), (0, .ref (qm 0)), (1, .int p1), (2, .int p2), (3, .int p3), (4, .int p4), (5, .int p5)]) hx hb dM_pieces_346 hl (k := 6) rfl rfl (by decide) rfl (fun ls hl => ?_)
            refine lv_goto (tgt := 294) hx hb dM_pieces_349 (by decide) ?_
            exact ih294 u55 p1 p2 p3 p4 p5 (p6 + 1) h H locs hPm hD hS ls (lv_sub hl [1, 2, 3, 4, 5, 6, 0] rfl)
      intro vv p1 p2 p3 p4 h H locs hPm hD hS ls hl
      rw [f_M_pieces_l266] at h
      refine lv_iload hx hb dM_pieces_266 (lv_at hl 4 rfl) ?_
      refine lv_aload_n hx hb dM_pieces_268 rfl (lv_at hl 0 rfl) ?_
      refine va_get (D := (dC, dI)) (ci := 2) (v := .ref (qm 7)) (C := R_M) (T := T_M) (N := 15) hx hb hw in_M hown hK hPm 0 rfl rfl 8 (by decide) (hw _ w_453) (fun _ h9 => h9) rfl dM_pieces_269 ?_
      refine lv_iload_n hx hb dM_pieces_272 rfl (lv_at hl 2 rfl) ?_
      obtain ⟨u38, hu38, h⟩ := ob_some h
      obtain ⟨hiu38, eu38⟩ := ld_of hu38
      refine va_iald hx hb hK hPm 7 1 rfl rfl hiu38 dM_pieces_273 ?_
      rw [eu38]
      refine lv_icmp_ge (tgt := 361) hx hb dM_pieces_274 (by decide) (fun c39 => ?_) (fun c39 => ?_)
      · have h := it_t c39 h
        exact k361 vv h H locs hPm hD hS ls (lv_sub hl [] rfl)
      · have h := it_f c39 h
        refine lv_aload_n hx hb dM_pieces_277 rfl (lv_at hl 0 rfl) ?_
        refine va_get (D := (dC, dI)) (ci := 2) (v := .ref (qm 6)) (C := R_M) (T := T_M) (N := 15) hx hb hw in_M hown hK hPm 0 rfl rfl 7 (by decide) (hw _ w_452) (fun _ h9 => h9) rfl dM_pieces_278 ?_
        refine lv_bipush (v := 16) hx hb dM_pieces_281 (by decide) ?_
        refine lv_iload_n hx hb dM_pieces_283 rfl (lv_at hl 2 rfl) ?_
        refine lv_imul hx hb dM_pieces_284 ?_
        refine lv_iload hx hb dM_pieces_285 (lv_at hl 4 rfl) ?_
        refine lv_iadd hx hb dM_pieces_287 ?_
        obtain ⟨u40, hu40, h⟩ := ob_some h
        obtain ⟨hiu40, eu40⟩ := ld_of hu40
        refine va_iald hx hb hK hPm 6 1 rfl rfl hiu40 dM_pieces_288 ?_
        rw [eu40]
        refine lv_istore (lv' := [(5, .int u40), (0, .ref (qm 0)), (1, .int p1), (2, .int p2), (3, .int p3), (4, .int p4)]) hx hb dM_pieces_289 hl (by decide) rfl (fun ls hl => ?_)
        refine lv_iload_n hx hb dM_pieces_291 rfl (lv_at hl 4 rfl) ?_
        refine lv_istore (lv' := [(6, .int p3), (5, .int u40), (0, .ref (qm 0)), (1, .int p1), (2, .int p2), (3, .int p3), (4, .int p4)]) hx hb dM_pieces_292 hl (by decide) rfl (fun ls hl => ?_)
        exact k294 64 vv p1 p2 p3 p4 u40 p3 h H locs hPm hD hS ls (lv_sub hl [2, 3, 4, 5, 6, 1, 0] rfl)
  have k209 : ∀ (n209 : Nat), ∀ (vv : MV) (p1 : Int32) (p2 : Int32) (p3 : Int32), f_M_pieces_l209 n209 vv p1 p2 p3 = some r → ∀ (H : Heap) (locs : List Loc), va_P (dC, dI) cls3 (mdW cL cI qm vv) H → va_D (inQ qm) (mdW cL cI qm vv) → va_S (inQ qm) s.heap H locs → ∀ (ls : Array Slot), lv_has ls 7 [(0, .ref (qm 0)), (1, .int p1), (2, .int p2), (3, .int p3)] → W p l e (headSpec wsM_pieces ({ frames := 1, cells := 0, slots := 0, locals := 30 })).room s m ([.ref (qm 0), .int x1, .int x2] : List Value).toArray below meth c H locs 0 0 (MQ below (mu_Q none (dC, dI) cls3 (mdW cL cI qm r) (inQ qm)) ([.ref (qm 0), .int x1, .int x2] : List Value).toArray s 0 0 (inQ qm)) (F0 m 209 ls []) := by
    intro n209
    induction n209 with
    | zero => intro vv p1 p2 p3 h; exact absurd h (by simp [f_M_pieces_l209])
    | succ n209 ih209 =>
      intro vv p1 p2 p3 h H locs hPm hD hS ls hl
      rw [f_M_pieces_l209] at h
      refine lv_iload_n hx hb dM_pieces_209 rfl (lv_at hl 3 rfl) ?_
      refine lv_aload_n hx hb dM_pieces_210 rfl (lv_at hl 0 rfl) ?_
      refine va_get (D := (dC, dI)) (ci := 2) (v := .ref (qm 5)) (C := R_M) (T := T_M) (N := 15) hx hb hw in_M hown hK hPm 0 rfl rfl 6 (by decide) (hw _ w_451) (fun _ h9 => h9) rfl dM_pieces_211 ?_
      refine lv_iload_n hx hb dM_pieces_214 rfl (lv_at hl 2 rfl) ?_
      obtain ⟨u41, hu41, h⟩ := ob_some h
      obtain ⟨hiu41, eu41⟩ := ld_of hu41
      refine va_iald hx hb hK hPm 5 1 rfl rfl hiu41 dM_pieces_215 ?_
      rw [eu41]
      refine lv_icmp_ge (tgt := 258) hx hb dM_pieces_216 (by decide) (fun c42 => ?_) (fun c42 => ?_)
      · have h := it_t c42 h
        refine lv_goto (tgt := 361) hx hb dM_pieces_258 (by decide) ?_
        exact k361 vv h H locs hPm hD hS ls (lv_sub hl [] rfl)
      · have h := it_f c42 h
        refine lv_aload_n hx hb dM_pieces_219 rfl (lv_at hl 0 rfl) ?_
        refine lv_iload_n hx hb dM_pieces_220 rfl (lv_at hl 1 rfl) ?_
        refine lv_aload_n hx hb dM_pieces_221 rfl (lv_at hl 0 rfl) ?_
        refine lv_iload_n hx hb dM_pieces_222 rfl (lv_at hl 2 rfl) ?_
        refine lv_iload_n hx hb dM_pieces_223 rfl (lv_at hl 3 rfl) ?_
        refine lv_iconst (v := 1) hx hb dM_pieces_224 (by decide) ?_
        refine lv_isub hx hb dM_pieces_225 ?_
        obtain ⟨u43, hu43, h⟩ := ob_some h
        refine vp_callSl (va_Run.run (va_runV (As := [.int p2, .int (p3 - (1 : Int32))]) (rest := [.int p1, .ref (qm 0)]) ⟨hx, hb, hml, hown, hw⟩ (k_M_x l dC dI cL cI qm vv p2 (p3 - (1 : Int32)) u43 hu43) (cwV 2 hw (gV w_550 w_552 wp_11 w_2 w_553) rfl rfl rfl (by decide +kernel) ⟨Nat.le_of_ble_eq_true rfl, Nat.le_of_ble_eq_true rfl⟩) ⟨rd_blind, va_recv hK hPm (ci := 2) (q0 := 0) rfl rfl, rd_pre hPm hK⟩ rfl rfl hl.1 rfl (lv_room (Nat.le_of_ble_eq_true rfl)) dM_pieces_226 ⟨Nat.le_of_ble_eq_true rfl, Nat.le_of_ble_eq_true rfl⟩)) (fun z hz => ?_)
        rw [hz]; clear hz
        refine lv_aload_n hx hb dM_pieces_229 rfl (lv_at hl 0 rfl) ?_
        refine lv_iload_n hx hb dM_pieces_230 rfl (lv_at hl 2 rfl) ?_
        refine lv_iload_n hx hb dM_pieces_231 rfl (lv_at hl 3 rfl) ?_
        refine lv_iconst (v := 1) hx hb dM_pieces_232 (by decide) ?_
        refine lv_isub hx hb dM_pieces_233 ?_
        obtain ⟨u44, hu44, h⟩ := ob_some h
        refine vp_callSl (va_Run.run (va_runV (As := [.int p2, .int (p3 - (1 : Int32))]) (rest := [.long u43, .int p1, .ref (qm 0)]) ⟨hx, hb, hml, hown, hw⟩ (k_M_y l dC dI cL cI qm vv p2 (p3 - (1 : Int32)) u44 hu44) (cwV 2 hw (gV w_554 w_556 wp_12 w_2 w_557) rfl rfl rfl (by decide +kernel) ⟨Nat.le_of_ble_eq_true rfl, Nat.le_of_ble_eq_true rfl⟩) ⟨rd_blind, va_recv hK hPm (ci := 2) (q0 := 0) rfl rfl, rd_pre hPm hK⟩ rfl rfl hl.1 rfl (lv_room (Nat.le_of_ble_eq_true rfl)) dM_pieces_234 ⟨Nat.le_of_ble_eq_true rfl, Nat.le_of_ble_eq_true rfl⟩)) (fun z hz => ?_)
        rw [hz]; clear hz
        refine lv_aload_n hx hb dM_pieces_237 rfl (lv_at hl 0 rfl) ?_
        refine lv_iload_n hx hb dM_pieces_238 rfl (lv_at hl 2 rfl) ?_
        refine lv_iload_n hx hb dM_pieces_239 rfl (lv_at hl 3 rfl) ?_
        obtain ⟨u45, hu45, h⟩ := ob_some h
        refine vp_callSl (va_Run.run (va_runV (As := [.int p2, .int p3]) (rest := [.long u44, .long u43, .int p1, .ref (qm 0)]) ⟨hx, hb, hml, hown, hw⟩ (k_M_x l dC dI cL cI qm vv p2 p3 u45 hu45) (cwV 2 hw (gV w_550 w_552 wp_11 w_2 w_553) rfl rfl rfl (by decide +kernel) ⟨Nat.le_of_ble_eq_true rfl, Nat.le_of_ble_eq_true rfl⟩) ⟨rd_blind, va_recv hK hPm (ci := 2) (q0 := 0) rfl rfl, rd_pre hPm hK⟩ rfl rfl hl.1 rfl (lv_room (Nat.le_of_ble_eq_true rfl)) dM_pieces_240 ⟨Nat.le_of_ble_eq_true rfl, Nat.le_of_ble_eq_true rfl⟩)) (fun z hz => ?_)
        rw [hz]; clear hz
        refine lv_aload_n hx hb dM_pieces_243 rfl (lv_at hl 0 rfl) ?_
        refine lv_iload_n hx hb dM_pieces_244 rfl (lv_at hl 2 rfl) ?_
        refine lv_iload_n hx hb dM_pieces_245 rfl (lv_at hl 3 rfl) ?_
        obtain ⟨u46, hu46, h⟩ := ob_some h
        refine vp_callSl (va_Run.run (va_runV (As := [.int p2, .int p3]) (rest := [.long u45, .long u44, .long u43, .int p1, .ref (qm 0)]) ⟨hx, hb, hml, hown, hw⟩ (k_M_y l dC dI cL cI qm vv p2 p3 u46 hu46) (cwV 2 hw (gV w_554 w_556 wp_12 w_2 w_557) rfl rfl rfl (by decide +kernel) ⟨Nat.le_of_ble_eq_true rfl, Nat.le_of_ble_eq_true rfl⟩) ⟨rd_blind, va_recv hK hPm (ci := 2) (q0 := 0) rfl rfl, rd_pre hPm hK⟩ rfl rfl hl.1 rfl (lv_room (Nat.le_of_ble_eq_true rfl)) dM_pieces_246 ⟨Nat.le_of_ble_eq_true rfl, Nat.le_of_ble_eq_true rfl⟩)) (fun z hz => ?_)
        rw [hz]; clear hz
        obtain ⟨u47, hu47, h⟩ := ob_some h
        refine mu_call (va_runV (As := [.int p1, .long u43, .long u44, .long u45, .long u46]) (rest := []) ⟨hx, hb, hml, hown, hw⟩ (k_M_piece l dC dI cL cI qm vv p1 u43 u44 u45 u46 u47 hu47) (cwV 5 hw (gV w_607 w_609 wp_19 w_2 w_610) rfl rfl rfl (by decide +kernel) ⟨Nat.le_of_ble_eq_true rfl, Nat.le_of_ble_eq_true rfl⟩) ⟨rd_blind, va_recv hK hPm (ci := 2) (q0 := 0) rfl rfl, rd_pre ⟨hPm, hD⟩ hK⟩ rfl rfl hl.1 rfl (lv_room (Nat.le_of_ble_eq_true rfl)) dM_pieces_249 ⟨Nat.le_of_ble_eq_true rfl, Nat.le_of_ble_eq_true rfl⟩) hS (fun _ z => z) (fun H locs hPm hS _ _ => ?_)
        have hD := md_D (u47) hD
        refine lv_iinc (v := p3 + 1) (lv' := [(3, .int (p3 + 1)), (0, .ref (qm 0)), (1, .int p1), (2, .int p2)]) hx hb dM_pieces_252 hl (k := 3) rfl rfl (by decide) rfl (fun ls hl => ?_)
        refine lv_goto (tgt := 209) hx hb dM_pieces_255 (by decide) ?_
        exact ih209 u47 p1 p2 (p3 + 1) h H locs hPm hD hS ls (lv_sub hl [1, 2, 3, 0] rfl)
  have k68 : ∀ (vv : MV) (p1 : Int32) (p2 : Int32), f_M_pieces_j68 vv p1 p2 = some r → ∀ (H : Heap) (locs : List Loc), va_P (dC, dI) cls3 (mdW cL cI qm vv) H → va_D (inQ qm) (mdW cL cI qm vv) → va_S (inQ qm) s.heap H locs → ∀ (ls : Array Slot), lv_has ls 7 [(0, .ref (qm 0)), (1, .int p1), (2, .int p2)] → W p l e (headSpec wsM_pieces ({ frames := 1, cells := 0, slots := 0, locals := 30 })).room s m ([.ref (qm 0), .int x1, .int x2] : List Value).toArray below meth c H locs 0 0 (MQ below (mu_Q none (dC, dI) cls3 (mdW cL cI qm r) (inQ qm)) ([.ref (qm 0), .int x1, .int x2] : List Value).toArray s 0 0 (inQ qm)) (F0 m 68 ls []) := by
    intro vv p1 p2 h H locs hPm hD hS ls hl
    unfold f_M_pieces_j68 at h
    refine lv_aload_n hx hb dM_pieces_68 rfl (lv_at hl 0 rfl) ?_
    refine va_get (D := (dC, dI)) (ci := 2) (v := .ref (qm 1)) (C := R_M) (T := T_M) (N := 15) hx hb hw in_M hown hK hPm 0 rfl rfl 2 (by decide) (hw _ w_447) (fun _ h9 => h9) rfl dM_pieces_69 ?_
    refine lv_iload_n hx hb dM_pieces_72 rfl (lv_at hl 2 rfl) ?_
    obtain ⟨u14, hu14, h⟩ := ob_some h
    obtain ⟨hiu14, eu14⟩ := ld_of hu14
    refine va_iald hx hb hK hPm 1 1 rfl rfl hiu14 dM_pieces_73 ?_
    rw [eu14]
    refine lv_iconst (v := 1) hx hb dM_pieces_74 (by decide) ?_
    refine lv_icmp_ne (tgt := 197) hx hb dM_pieces_75 (by decide) (fun c15 => ?_) (fun c15 => ?_)
    · have h := it_f c15 h
      refine lv_aload_n hx hb dM_pieces_197 rfl (lv_at hl 0 rfl) ?_
      refine va_get (D := (dC, dI)) (ci := 2) (v := .ref (qm 1)) (C := R_M) (T := T_M) (N := 15) hx hb hw in_M hown hK hPm 0 rfl rfl 2 (by decide) (hw _ w_447) (fun _ h9 => h9) rfl dM_pieces_198 ?_
      refine lv_iload_n hx hb dM_pieces_201 rfl (lv_at hl 2 rfl) ?_
      obtain ⟨u16, hu16, h⟩ := ob_some h
      obtain ⟨hiu16, eu16⟩ := ld_of hu16
      refine va_iald hx hb hK hPm 1 1 rfl rfl hiu16 dM_pieces_202 ?_
      rw [eu16]
      refine lv_iconst (v := 3) hx hb dM_pieces_203 (by decide) ?_
      refine lv_icmp_ne (tgt := 261) hx hb dM_pieces_204 (by decide) (fun c17 => ?_) (fun c17 => ?_)
      · have h := it_f c17 h
        refine lv_iconst (v := 0) hx hb dM_pieces_261 (by decide) ?_
        refine lv_istore_n (lv' := [(3, .int (0 : Int32)), (0, .ref (qm 0)), (1, .int p1), (2, .int p2)]) hx hb dM_pieces_262 rfl hl (by decide) rfl (fun ls hl => ?_)
        refine lv_iconst (v := 0) hx hb dM_pieces_263 (by decide) ?_
        refine lv_istore (lv' := [(4, .int (0 : Int32)), (3, .int (0 : Int32)), (0, .ref (qm 0)), (1, .int p1), (2, .int p2)]) hx hb dM_pieces_264 hl (by decide) rfl (fun ls hl => ?_)
        exact k266 64 vv p1 p2 (0 : Int32) (0 : Int32) h H locs hPm hD hS ls (lv_sub hl [2, 3, 4, 1, 0] rfl)
      · have h := it_t c17 h
        refine lv_iconst (v := 1) hx hb dM_pieces_207 (by decide) ?_
        refine lv_istore_n (lv' := [(3, .int (1 : Int32)), (0, .ref (qm 0)), (1, .int p1), (2, .int p2)]) hx hb dM_pieces_208 rfl hl (by decide) rfl (fun ls hl => ?_)
        exact k209 64 vv p1 p2 (1 : Int32) h H locs hPm hD hS ls (lv_sub hl [1, 2, 3, 0] rfl)
    · have h := it_t c15 h
      refine lv_aload_n hx hb dM_pieces_78 rfl (lv_at hl 0 rfl) ?_
      refine lv_iload_n hx hb dM_pieces_79 rfl (lv_at hl 1 rfl) ?_
      refine lv_aload_n hx hb dM_pieces_80 rfl (lv_at hl 0 rfl) ?_
      refine lv_iload_n hx hb dM_pieces_81 rfl (lv_at hl 2 rfl) ?_
      refine lv_iconst (v := 0) hx hb dM_pieces_82 (by decide) ?_
      obtain ⟨u18, hu18, h⟩ := ob_some h
      refine vp_callSl (va_Run.run (va_runV (As := [.int p2, .int (0 : Int32)]) (rest := [.int p1, .ref (qm 0)]) ⟨hx, hb, hml, hown, hw⟩ (k_M_x l dC dI cL cI qm vv p2 (0 : Int32) u18 hu18) (cwV 2 hw (gV w_550 w_552 wp_11 w_2 w_553) rfl rfl rfl (by decide +kernel) ⟨Nat.le_of_ble_eq_true rfl, Nat.le_of_ble_eq_true rfl⟩) ⟨rd_blind, va_recv hK hPm (ci := 2) (q0 := 0) rfl rfl, rd_pre hPm hK⟩ rfl rfl hl.1 rfl (lv_room (Nat.le_of_ble_eq_true rfl)) dM_pieces_83 ⟨Nat.le_of_ble_eq_true rfl, Nat.le_of_ble_eq_true rfl⟩)) (fun z hz => ?_)
      rw [hz]; clear hz
      refine lv_aload_n hx hb dM_pieces_86 rfl (lv_at hl 0 rfl) ?_
      refine lv_iload_n hx hb dM_pieces_87 rfl (lv_at hl 2 rfl) ?_
      refine lv_iconst (v := 0) hx hb dM_pieces_88 (by decide) ?_
      obtain ⟨u19, hu19, h⟩ := ob_some h
      refine vp_callSl (va_Run.run (va_runV (As := [.int p2, .int (0 : Int32)]) (rest := [.long u18, .int p1, .ref (qm 0)]) ⟨hx, hb, hml, hown, hw⟩ (k_M_y l dC dI cL cI qm vv p2 (0 : Int32) u19 hu19) (cwV 2 hw (gV w_554 w_556 wp_12 w_2 w_557) rfl rfl rfl (by decide +kernel) ⟨Nat.le_of_ble_eq_true rfl, Nat.le_of_ble_eq_true rfl⟩) ⟨rd_blind, va_recv hK hPm (ci := 2) (q0 := 0) rfl rfl, rd_pre hPm hK⟩ rfl rfl hl.1 rfl (lv_room (Nat.le_of_ble_eq_true rfl)) dM_pieces_89 ⟨Nat.le_of_ble_eq_true rfl, Nat.le_of_ble_eq_true rfl⟩)) (fun z hz => ?_)
      rw [hz]; clear hz
      refine lv_aload_n hx hb dM_pieces_92 rfl (lv_at hl 0 rfl) ?_
      refine lv_iload_n hx hb dM_pieces_93 rfl (lv_at hl 2 rfl) ?_
      refine lv_iconst (v := 1) hx hb dM_pieces_94 (by decide) ?_
      obtain ⟨u20, hu20, h⟩ := ob_some h
      refine vp_callSl (va_Run.run (va_runV (As := [.int p2, .int (1 : Int32)]) (rest := [.long u19, .long u18, .int p1, .ref (qm 0)]) ⟨hx, hb, hml, hown, hw⟩ (k_M_x l dC dI cL cI qm vv p2 (1 : Int32) u20 hu20) (cwV 2 hw (gV w_550 w_552 wp_11 w_2 w_553) rfl rfl rfl (by decide +kernel) ⟨Nat.le_of_ble_eq_true rfl, Nat.le_of_ble_eq_true rfl⟩) ⟨rd_blind, va_recv hK hPm (ci := 2) (q0 := 0) rfl rfl, rd_pre hPm hK⟩ rfl rfl hl.1 rfl (lv_room (Nat.le_of_ble_eq_true rfl)) dM_pieces_95 ⟨Nat.le_of_ble_eq_true rfl, Nat.le_of_ble_eq_true rfl⟩)) (fun z hz => ?_)
      rw [hz]; clear hz
      refine lv_aload_n hx hb dM_pieces_98 rfl (lv_at hl 0 rfl) ?_
      refine lv_iload_n hx hb dM_pieces_99 rfl (lv_at hl 2 rfl) ?_
      refine lv_iconst (v := 0) hx hb dM_pieces_100 (by decide) ?_
      obtain ⟨u21, hu21, h⟩ := ob_some h
      refine vp_callSl (va_Run.run (va_runV (As := [.int p2, .int (0 : Int32)]) (rest := [.long u20, .long u19, .long u18, .int p1, .ref (qm 0)]) ⟨hx, hb, hml, hown, hw⟩ (k_M_y l dC dI cL cI qm vv p2 (0 : Int32) u21 hu21) (cwV 2 hw (gV w_554 w_556 wp_12 w_2 w_557) rfl rfl rfl (by decide +kernel) ⟨Nat.le_of_ble_eq_true rfl, Nat.le_of_ble_eq_true rfl⟩) ⟨rd_blind, va_recv hK hPm (ci := 2) (q0 := 0) rfl rfl, rd_pre hPm hK⟩ rfl rfl hl.1 rfl (lv_room (Nat.le_of_ble_eq_true rfl)) dM_pieces_101 ⟨Nat.le_of_ble_eq_true rfl, Nat.le_of_ble_eq_true rfl⟩)) (fun z hz => ?_)
      rw [hz]; clear hz
      obtain ⟨u22, hu22, h⟩ := ob_some h
      refine mu_call (va_runV (As := [.int p1, .long u18, .long u19, .long u20, .long u21]) (rest := []) ⟨hx, hb, hml, hown, hw⟩ (k_M_piece l dC dI cL cI qm vv p1 u18 u19 u20 u21 u22 hu22) (cwV 5 hw (gV w_607 w_609 wp_19 w_2 w_610) rfl rfl rfl (by decide +kernel) ⟨Nat.le_of_ble_eq_true rfl, Nat.le_of_ble_eq_true rfl⟩) ⟨rd_blind, va_recv hK hPm (ci := 2) (q0 := 0) rfl rfl, rd_pre ⟨hPm, hD⟩ hK⟩ rfl rfl hl.1 rfl (lv_room (Nat.le_of_ble_eq_true rfl)) dM_pieces_104 ⟨Nat.le_of_ble_eq_true rfl, Nat.le_of_ble_eq_true rfl⟩) hS (fun _ z => z) (fun H locs hPm hS _ _ => ?_)
      have hD := md_D (u22) hD
      refine lv_aload_n hx hb dM_pieces_107 rfl (lv_at hl 0 rfl) ?_
      refine lv_iload_n hx hb dM_pieces_108 rfl (lv_at hl 1 rfl) ?_
      refine lv_aload_n hx hb dM_pieces_109 rfl (lv_at hl 0 rfl) ?_
      refine lv_iload_n hx hb dM_pieces_110 rfl (lv_at hl 2 rfl) ?_
      refine lv_iconst (v := 1) hx hb dM_pieces_111 (by decide) ?_
      obtain ⟨u23, hu23, h⟩ := ob_some h
      refine vp_callSl (va_Run.run (va_runV (As := [.int p2, .int (1 : Int32)]) (rest := [.int p1, .ref (qm 0)]) ⟨hx, hb, hml, hown, hw⟩ (k_M_x l dC dI cL cI qm u22 p2 (1 : Int32) u23 hu23) (cwV 2 hw (gV w_550 w_552 wp_11 w_2 w_553) rfl rfl rfl (by decide +kernel) ⟨Nat.le_of_ble_eq_true rfl, Nat.le_of_ble_eq_true rfl⟩) ⟨rd_blind, va_recv hK hPm (ci := 2) (q0 := 0) rfl rfl, rd_pre hPm hK⟩ rfl rfl hl.1 rfl (lv_room (Nat.le_of_ble_eq_true rfl)) dM_pieces_112 ⟨Nat.le_of_ble_eq_true rfl, Nat.le_of_ble_eq_true rfl⟩)) (fun z hz => ?_)
      rw [hz]; clear hz
      refine lv_aload_n hx hb dM_pieces_115 rfl (lv_at hl 0 rfl) ?_
      refine lv_iload_n hx hb dM_pieces_116 rfl (lv_at hl 2 rfl) ?_
      refine lv_iconst (v := 0) hx hb dM_pieces_117 (by decide) ?_
      obtain ⟨u24, hu24, h⟩ := ob_some h
      refine vp_callSl (va_Run.run (va_runV (As := [.int p2, .int (0 : Int32)]) (rest := [.long u23, .int p1, .ref (qm 0)]) ⟨hx, hb, hml, hown, hw⟩ (k_M_y l dC dI cL cI qm u22 p2 (0 : Int32) u24 hu24) (cwV 2 hw (gV w_554 w_556 wp_12 w_2 w_557) rfl rfl rfl (by decide +kernel) ⟨Nat.le_of_ble_eq_true rfl, Nat.le_of_ble_eq_true rfl⟩) ⟨rd_blind, va_recv hK hPm (ci := 2) (q0 := 0) rfl rfl, rd_pre hPm hK⟩ rfl rfl hl.1 rfl (lv_room (Nat.le_of_ble_eq_true rfl)) dM_pieces_118 ⟨Nat.le_of_ble_eq_true rfl, Nat.le_of_ble_eq_true rfl⟩)) (fun z hz => ?_)
      rw [hz]; clear hz
      refine lv_aload_n hx hb dM_pieces_121 rfl (lv_at hl 0 rfl) ?_
      refine lv_iload_n hx hb dM_pieces_122 rfl (lv_at hl 2 rfl) ?_
      refine lv_iconst (v := 1) hx hb dM_pieces_123 (by decide) ?_
      obtain ⟨u25, hu25, h⟩ := ob_some h
      refine vp_callSl (va_Run.run (va_runV (As := [.int p2, .int (1 : Int32)]) (rest := [.long u24, .long u23, .int p1, .ref (qm 0)]) ⟨hx, hb, hml, hown, hw⟩ (k_M_x l dC dI cL cI qm u22 p2 (1 : Int32) u25 hu25) (cwV 2 hw (gV w_550 w_552 wp_11 w_2 w_553) rfl rfl rfl (by decide +kernel) ⟨Nat.le_of_ble_eq_true rfl, Nat.le_of_ble_eq_true rfl⟩) ⟨rd_blind, va_recv hK hPm (ci := 2) (q0 := 0) rfl rfl, rd_pre hPm hK⟩ rfl rfl hl.1 rfl (lv_room (Nat.le_of_ble_eq_true rfl)) dM_pieces_124 ⟨Nat.le_of_ble_eq_true rfl, Nat.le_of_ble_eq_true rfl⟩)) (fun z hz => ?_)
      rw [hz]; clear hz
      refine lv_aload_n hx hb dM_pieces_127 rfl (lv_at hl 0 rfl) ?_
      refine lv_iload_n hx hb dM_pieces_128 rfl (lv_at hl 2 rfl) ?_
      refine lv_iconst (v := 1) hx hb dM_pieces_129 (by decide) ?_
      obtain ⟨u26, hu26, h⟩ := ob_some h
      refine vp_callSl (va_Run.run (va_runV (As := [.int p2, .int (1 : Int32)]) (rest := [.long u25, .long u24, .long u23, .int p1, .ref (qm 0)]) ⟨hx, hb, hml, hown, hw⟩ (k_M_y l dC dI cL cI qm u22 p2 (1 : Int32) u26 hu26) (cwV 2 hw (gV w_554 w_556 wp_12 w_2 w_557) rfl rfl rfl (by decide +kernel) ⟨Nat.le_of_ble_eq_true rfl, Nat.le_of_ble_eq_true rfl⟩) ⟨rd_blind, va_recv hK hPm (ci := 2) (q0 := 0) rfl rfl, rd_pre hPm hK⟩ rfl rfl hl.1 rfl (lv_room (Nat.le_of_ble_eq_true rfl)) dM_pieces_130 ⟨Nat.le_of_ble_eq_true rfl, Nat.le_of_ble_eq_true rfl⟩)) (fun z hz => ?_)
      rw [hz]; clear hz
      obtain ⟨u27, hu27, h⟩ := ob_some h
      refine mu_call (va_runV (As := [.int p1, .long u23, .long u24, .long u25, .long u26]) (rest := []) ⟨hx, hb, hml, hown, hw⟩ (k_M_piece l dC dI cL cI qm u22 p1 u23 u24 u25 u26 u27 hu27) (cwV 5 hw (gV w_607 w_609 wp_19 w_2 w_610) rfl rfl rfl (by decide +kernel) ⟨Nat.le_of_ble_eq_true rfl, Nat.le_of_ble_eq_true rfl⟩) ⟨rd_blind, va_recv hK hPm (ci := 2) (q0 := 0) rfl rfl, rd_pre ⟨hPm, hD⟩ hK⟩ rfl rfl hl.1 rfl (lv_room (Nat.le_of_ble_eq_true rfl)) dM_pieces_133 ⟨Nat.le_of_ble_eq_true rfl, Nat.le_of_ble_eq_true rfl⟩) hS (fun _ z => z) (fun H locs hPm hS _ _ => ?_)
      have hD := md_D (u27) hD
      refine lv_aload_n hx hb dM_pieces_136 rfl (lv_at hl 0 rfl) ?_
      refine lv_iload_n hx hb dM_pieces_137 rfl (lv_at hl 1 rfl) ?_
      refine lv_aload_n hx hb dM_pieces_138 rfl (lv_at hl 0 rfl) ?_
      refine lv_iload_n hx hb dM_pieces_139 rfl (lv_at hl 2 rfl) ?_
      refine lv_iconst (v := 1) hx hb dM_pieces_140 (by decide) ?_
      obtain ⟨u28, hu28, h⟩ := ob_some h
      refine vp_callSl (va_Run.run (va_runV (As := [.int p2, .int (1 : Int32)]) (rest := [.int p1, .ref (qm 0)]) ⟨hx, hb, hml, hown, hw⟩ (k_M_x l dC dI cL cI qm u27 p2 (1 : Int32) u28 hu28) (cwV 2 hw (gV w_550 w_552 wp_11 w_2 w_553) rfl rfl rfl (by decide +kernel) ⟨Nat.le_of_ble_eq_true rfl, Nat.le_of_ble_eq_true rfl⟩) ⟨rd_blind, va_recv hK hPm (ci := 2) (q0 := 0) rfl rfl, rd_pre hPm hK⟩ rfl rfl hl.1 rfl (lv_room (Nat.le_of_ble_eq_true rfl)) dM_pieces_141 ⟨Nat.le_of_ble_eq_true rfl, Nat.le_of_ble_eq_true rfl⟩)) (fun z hz => ?_)
      rw [hz]; clear hz
      refine lv_aload_n hx hb dM_pieces_144 rfl (lv_at hl 0 rfl) ?_
      refine lv_iload_n hx hb dM_pieces_145 rfl (lv_at hl 2 rfl) ?_
      refine lv_iconst (v := 1) hx hb dM_pieces_146 (by decide) ?_
      obtain ⟨u29, hu29, h⟩ := ob_some h
      refine vp_callSl (va_Run.run (va_runV (As := [.int p2, .int (1 : Int32)]) (rest := [.long u28, .int p1, .ref (qm 0)]) ⟨hx, hb, hml, hown, hw⟩ (k_M_y l dC dI cL cI qm u27 p2 (1 : Int32) u29 hu29) (cwV 2 hw (gV w_554 w_556 wp_12 w_2 w_557) rfl rfl rfl (by decide +kernel) ⟨Nat.le_of_ble_eq_true rfl, Nat.le_of_ble_eq_true rfl⟩) ⟨rd_blind, va_recv hK hPm (ci := 2) (q0 := 0) rfl rfl, rd_pre hPm hK⟩ rfl rfl hl.1 rfl (lv_room (Nat.le_of_ble_eq_true rfl)) dM_pieces_147 ⟨Nat.le_of_ble_eq_true rfl, Nat.le_of_ble_eq_true rfl⟩)) (fun z hz => ?_)
      rw [hz]; clear hz
      refine lv_aload_n hx hb dM_pieces_150 rfl (lv_at hl 0 rfl) ?_
      refine lv_iload_n hx hb dM_pieces_151 rfl (lv_at hl 2 rfl) ?_
      refine lv_iconst (v := 0) hx hb dM_pieces_152 (by decide) ?_
      obtain ⟨u30, hu30, h⟩ := ob_some h
      refine vp_callSl (va_Run.run (va_runV (As := [.int p2, .int (0 : Int32)]) (rest := [.long u29, .long u28, .int p1, .ref (qm 0)]) ⟨hx, hb, hml, hown, hw⟩ (k_M_x l dC dI cL cI qm u27 p2 (0 : Int32) u30 hu30) (cwV 2 hw (gV w_550 w_552 wp_11 w_2 w_553) rfl rfl rfl (by decide +kernel) ⟨Nat.le_of_ble_eq_true rfl, Nat.le_of_ble_eq_true rfl⟩) ⟨rd_blind, va_recv hK hPm (ci := 2) (q0 := 0) rfl rfl, rd_pre hPm hK⟩ rfl rfl hl.1 rfl (lv_room (Nat.le_of_ble_eq_true rfl)) dM_pieces_153 ⟨Nat.le_of_ble_eq_true rfl, Nat.le_of_ble_eq_true rfl⟩)) (fun z hz => ?_)
      rw [hz]; clear hz
      refine lv_aload_n hx hb dM_pieces_156 rfl (lv_at hl 0 rfl) ?_
      refine lv_iload_n hx hb dM_pieces_157 rfl (lv_at hl 2 rfl) ?_
      refine lv_iconst (v := 1) hx hb dM_pieces_158 (by decide) ?_
      obtain ⟨u31, hu31, h⟩ := ob_some h
      refine vp_callSl (va_Run.run (va_runV (As := [.int p2, .int (1 : Int32)]) (rest := [.long u30, .long u29, .long u28, .int p1, .ref (qm 0)]) ⟨hx, hb, hml, hown, hw⟩ (k_M_y l dC dI cL cI qm u27 p2 (1 : Int32) u31 hu31) (cwV 2 hw (gV w_554 w_556 wp_12 w_2 w_557) rfl rfl rfl (by decide +kernel) ⟨Nat.le_of_ble_eq_true rfl, Nat.le_of_ble_eq_true rfl⟩) ⟨rd_blind, va_recv hK hPm (ci := 2) (q0 := 0) rfl rfl, rd_pre hPm hK⟩ rfl rfl hl.1 rfl (lv_room (Nat.le_of_ble_eq_true rfl)) dM_pieces_159 ⟨Nat.le_of_ble_eq_true rfl, Nat.le_of_ble_eq_true rfl⟩)) (fun z hz => ?_)
      rw [hz]; clear hz
      obtain ⟨u32, hu32, h⟩ := ob_some h
      refine mu_call (va_runV (As := [.int p1, .long u28, .long u29, .long u30, .long u31]) (rest := []) ⟨hx, hb, hml, hown, hw⟩ (k_M_piece l dC dI cL cI qm u27 p1 u28 u29 u30 u31 u32 hu32) (cwV 5 hw (gV w_607 w_609 wp_19 w_2 w_610) rfl rfl rfl (by decide +kernel) ⟨Nat.le_of_ble_eq_true rfl, Nat.le_of_ble_eq_true rfl⟩) ⟨rd_blind, va_recv hK hPm (ci := 2) (q0 := 0) rfl rfl, rd_pre ⟨hPm, hD⟩ hK⟩ rfl rfl hl.1 rfl (lv_room (Nat.le_of_ble_eq_true rfl)) dM_pieces_162 ⟨Nat.le_of_ble_eq_true rfl, Nat.le_of_ble_eq_true rfl⟩) hS (fun _ z => z) (fun H locs hPm hS _ _ => ?_)
      have hD := md_D (u32) hD
      refine lv_aload_n hx hb dM_pieces_165 rfl (lv_at hl 0 rfl) ?_
      refine lv_iload_n hx hb dM_pieces_166 rfl (lv_at hl 1 rfl) ?_
      refine lv_aload_n hx hb dM_pieces_167 rfl (lv_at hl 0 rfl) ?_
      refine lv_iload_n hx hb dM_pieces_168 rfl (lv_at hl 2 rfl) ?_
      refine lv_iconst (v := 0) hx hb dM_pieces_169 (by decide) ?_
      obtain ⟨u33, hu33, h⟩ := ob_some h
      refine vp_callSl (va_Run.run (va_runV (As := [.int p2, .int (0 : Int32)]) (rest := [.int p1, .ref (qm 0)]) ⟨hx, hb, hml, hown, hw⟩ (k_M_x l dC dI cL cI qm u32 p2 (0 : Int32) u33 hu33) (cwV 2 hw (gV w_550 w_552 wp_11 w_2 w_553) rfl rfl rfl (by decide +kernel) ⟨Nat.le_of_ble_eq_true rfl, Nat.le_of_ble_eq_true rfl⟩) ⟨rd_blind, va_recv hK hPm (ci := 2) (q0 := 0) rfl rfl, rd_pre hPm hK⟩ rfl rfl hl.1 rfl (lv_room (Nat.le_of_ble_eq_true rfl)) dM_pieces_170 ⟨Nat.le_of_ble_eq_true rfl, Nat.le_of_ble_eq_true rfl⟩)) (fun z hz => ?_)
      rw [hz]; clear hz
      refine lv_aload_n hx hb dM_pieces_173 rfl (lv_at hl 0 rfl) ?_
      refine lv_iload_n hx hb dM_pieces_174 rfl (lv_at hl 2 rfl) ?_
      refine lv_iconst (v := 1) hx hb dM_pieces_175 (by decide) ?_
      obtain ⟨u34, hu34, h⟩ := ob_some h
      refine vp_callSl (va_Run.run (va_runV (As := [.int p2, .int (1 : Int32)]) (rest := [.long u33, .int p1, .ref (qm 0)]) ⟨hx, hb, hml, hown, hw⟩ (k_M_y l dC dI cL cI qm u32 p2 (1 : Int32) u34 hu34) (cwV 2 hw (gV w_554 w_556 wp_12 w_2 w_557) rfl rfl rfl (by decide +kernel) ⟨Nat.le_of_ble_eq_true rfl, Nat.le_of_ble_eq_true rfl⟩) ⟨rd_blind, va_recv hK hPm (ci := 2) (q0 := 0) rfl rfl, rd_pre hPm hK⟩ rfl rfl hl.1 rfl (lv_room (Nat.le_of_ble_eq_true rfl)) dM_pieces_176 ⟨Nat.le_of_ble_eq_true rfl, Nat.le_of_ble_eq_true rfl⟩)) (fun z hz => ?_)
      rw [hz]; clear hz
      refine lv_aload_n hx hb dM_pieces_179 rfl (lv_at hl 0 rfl) ?_
      refine lv_iload_n hx hb dM_pieces_180 rfl (lv_at hl 2 rfl) ?_
      refine lv_iconst (v := 0) hx hb dM_pieces_181 (by decide) ?_
      obtain ⟨u35, hu35, h⟩ := ob_some h
      refine vp_callSl (va_Run.run (va_runV (As := [.int p2, .int (0 : Int32)]) (rest := [.long u34, .long u33, .int p1, .ref (qm 0)]) ⟨hx, hb, hml, hown, hw⟩ (k_M_x l dC dI cL cI qm u32 p2 (0 : Int32) u35 hu35) (cwV 2 hw (gV w_550 w_552 wp_11 w_2 w_553) rfl rfl rfl (by decide +kernel) ⟨Nat.le_of_ble_eq_true rfl, Nat.le_of_ble_eq_true rfl⟩) ⟨rd_blind, va_recv hK hPm (ci := 2) (q0 := 0) rfl rfl, rd_pre hPm hK⟩ rfl rfl hl.1 rfl (lv_room (Nat.le_of_ble_eq_true rfl)) dM_pieces_182 ⟨Nat.le_of_ble_eq_true rfl, Nat.le_of_ble_eq_true rfl⟩)) (fun z hz => ?_)
      rw [hz]; clear hz
      refine lv_aload_n hx hb dM_pieces_185 rfl (lv_at hl 0 rfl) ?_
      refine lv_iload_n hx hb dM_pieces_186 rfl (lv_at hl 2 rfl) ?_
      refine lv_iconst (v := 0) hx hb dM_pieces_187 (by decide) ?_
      obtain ⟨u36, hu36, h⟩ := ob_some h
      refine vp_callSl (va_Run.run (va_runV (As := [.int p2, .int (0 : Int32)]) (rest := [.long u35, .long u34, .long u33, .int p1, .ref (qm 0)]) ⟨hx, hb, hml, hown, hw⟩ (k_M_y l dC dI cL cI qm u32 p2 (0 : Int32) u36 hu36) (cwV 2 hw (gV w_554 w_556 wp_12 w_2 w_557) rfl rfl rfl (by decide +kernel) ⟨Nat.le_of_ble_eq_true rfl, Nat.le_of_ble_eq_true rfl⟩) ⟨rd_blind, va_recv hK hPm (ci := 2) (q0 := 0) rfl rfl, rd_pre hPm hK⟩ rfl rfl hl.1 rfl (lv_room (Nat.le_of_ble_eq_true rfl)) dM_pieces_188 ⟨Nat.le_of_ble_eq_true rfl, Nat.le_of_ble_eq_true rfl⟩)) (fun z hz => ?_)
      rw [hz]; clear hz
      obtain ⟨u37, hu37, h⟩ := ob_some h
      refine mu_call (va_runV (As := [.int p1, .long u33, .long u34, .long u35, .long u36]) (rest := []) ⟨hx, hb, hml, hown, hw⟩ (k_M_piece l dC dI cL cI qm u32 p1 u33 u34 u35 u36 u37 hu37) (cwV 5 hw (gV w_607 w_609 wp_19 w_2 w_610) rfl rfl rfl (by decide +kernel) ⟨Nat.le_of_ble_eq_true rfl, Nat.le_of_ble_eq_true rfl⟩) ⟨rd_blind, va_recv hK hPm (ci := 2) (q0 := 0) rfl rfl, rd_pre ⟨hPm, hD⟩ hK⟩ rfl rfl hl.1 rfl (lv_room (Nat.le_of_ble_eq_true rfl)) dM_pieces_191 ⟨Nat.le_of_ble_eq_true rfl, Nat.le_of_ble_eq_true rfl⟩) hS (fun _ z => z) (fun H locs hPm hS _ _ => ?_)
      have hD := md_D (u37) hD
      refine lv_goto (tgt := 361) hx hb dM_pieces_194 (by decide) ?_
      exact k361 u37 h H locs hPm hD hS ls (lv_sub hl [] rfl)
  have k36 : ∀ (vv : MV) (p1 : Int32) (p2 : Int32), f_M_pieces_j36 vv p1 p2 = some r → ∀ (H : Heap) (locs : List Loc), va_P (dC, dI) cls3 (mdW cL cI qm vv) H → va_D (inQ qm) (mdW cL cI qm vv) → va_S (inQ qm) s.heap H locs → ∀ (ls : Array Slot), lv_has ls 7 [(0, .ref (qm 0)), (1, .int p1), (2, .int p2)] → W p l e (headSpec wsM_pieces ({ frames := 1, cells := 0, slots := 0, locals := 30 })).room s m ([.ref (qm 0), .int x1, .int x2] : List Value).toArray below meth c H locs 0 0 (MQ below (mu_Q none (dC, dI) cls3 (mdW cL cI qm r) (inQ qm)) ([.ref (qm 0), .int x1, .int x2] : List Value).toArray s 0 0 (inQ qm)) (F0 m 36 ls []) := by
    intro vv p1 p2 h H locs hPm hD hS ls hl
    unfold f_M_pieces_j36 at h
    refine lv_aload_n hx hb dM_pieces_36 rfl (lv_at hl 0 rfl) ?_
    refine lv_iload_n hx hb dM_pieces_37 rfl (lv_at hl 1 rfl) ?_
    refine lv_aload_n hx hb dM_pieces_38 rfl (lv_at hl 0 rfl) ?_
    refine lv_iload_n hx hb dM_pieces_39 rfl (lv_at hl 2 rfl) ?_
    refine lv_iconst (v := 0) hx hb dM_pieces_40 (by decide) ?_
    obtain ⟨u9, hu9, h⟩ := ob_some h
    refine vp_callSl (va_Run.run (va_runV (As := [.int p2, .int (0 : Int32)]) (rest := [.int p1, .ref (qm 0)]) ⟨hx, hb, hml, hown, hw⟩ (k_M_x l dC dI cL cI qm vv p2 (0 : Int32) u9 hu9) (cwV 2 hw (gV w_550 w_552 wp_11 w_2 w_553) rfl rfl rfl (by decide +kernel) ⟨Nat.le_of_ble_eq_true rfl, Nat.le_of_ble_eq_true rfl⟩) ⟨rd_blind, va_recv hK hPm (ci := 2) (q0 := 0) rfl rfl, rd_pre hPm hK⟩ rfl rfl hl.1 rfl (lv_room (Nat.le_of_ble_eq_true rfl)) dM_pieces_41 ⟨Nat.le_of_ble_eq_true rfl, Nat.le_of_ble_eq_true rfl⟩)) (fun z hz => ?_)
    rw [hz]; clear hz
    refine lv_aload_n hx hb dM_pieces_44 rfl (lv_at hl 0 rfl) ?_
    refine lv_iload_n hx hb dM_pieces_45 rfl (lv_at hl 2 rfl) ?_
    refine lv_iconst (v := 0) hx hb dM_pieces_46 (by decide) ?_
    obtain ⟨u10, hu10, h⟩ := ob_some h
    refine vp_callSl (va_Run.run (va_runV (As := [.int p2, .int (0 : Int32)]) (rest := [.long u9, .int p1, .ref (qm 0)]) ⟨hx, hb, hml, hown, hw⟩ (k_M_y l dC dI cL cI qm vv p2 (0 : Int32) u10 hu10) (cwV 2 hw (gV w_554 w_556 wp_12 w_2 w_557) rfl rfl rfl (by decide +kernel) ⟨Nat.le_of_ble_eq_true rfl, Nat.le_of_ble_eq_true rfl⟩) ⟨rd_blind, va_recv hK hPm (ci := 2) (q0 := 0) rfl rfl, rd_pre hPm hK⟩ rfl rfl hl.1 rfl (lv_room (Nat.le_of_ble_eq_true rfl)) dM_pieces_47 ⟨Nat.le_of_ble_eq_true rfl, Nat.le_of_ble_eq_true rfl⟩)) (fun z hz => ?_)
    rw [hz]; clear hz
    refine lv_aload_n hx hb dM_pieces_50 rfl (lv_at hl 0 rfl) ?_
    refine lv_iload_n hx hb dM_pieces_51 rfl (lv_at hl 2 rfl) ?_
    refine lv_iconst (v := 0) hx hb dM_pieces_52 (by decide) ?_
    obtain ⟨u11, hu11, h⟩ := ob_some h
    refine vp_callSl (va_Run.run (va_runV (As := [.int p2, .int (0 : Int32)]) (rest := [.long u10, .long u9, .int p1, .ref (qm 0)]) ⟨hx, hb, hml, hown, hw⟩ (k_M_x l dC dI cL cI qm vv p2 (0 : Int32) u11 hu11) (cwV 2 hw (gV w_550 w_552 wp_11 w_2 w_553) rfl rfl rfl (by decide +kernel) ⟨Nat.le_of_ble_eq_true rfl, Nat.le_of_ble_eq_true rfl⟩) ⟨rd_blind, va_recv hK hPm (ci := 2) (q0 := 0) rfl rfl, rd_pre hPm hK⟩ rfl rfl hl.1 rfl (lv_room (Nat.le_of_ble_eq_true rfl)) dM_pieces_53 ⟨Nat.le_of_ble_eq_true rfl, Nat.le_of_ble_eq_true rfl⟩)) (fun z hz => ?_)
    rw [hz]; clear hz
    refine lv_aload_n hx hb dM_pieces_56 rfl (lv_at hl 0 rfl) ?_
    refine lv_iload_n hx hb dM_pieces_57 rfl (lv_at hl 2 rfl) ?_
    refine lv_iconst (v := 0) hx hb dM_pieces_58 (by decide) ?_
    obtain ⟨u12, hu12, h⟩ := ob_some h
    refine vp_callSl (va_Run.run (va_runV (As := [.int p2, .int (0 : Int32)]) (rest := [.long u11, .long u10, .long u9, .int p1, .ref (qm 0)]) ⟨hx, hb, hml, hown, hw⟩ (k_M_y l dC dI cL cI qm vv p2 (0 : Int32) u12 hu12) (cwV 2 hw (gV w_554 w_556 wp_12 w_2 w_557) rfl rfl rfl (by decide +kernel) ⟨Nat.le_of_ble_eq_true rfl, Nat.le_of_ble_eq_true rfl⟩) ⟨rd_blind, va_recv hK hPm (ci := 2) (q0 := 0) rfl rfl, rd_pre hPm hK⟩ rfl rfl hl.1 rfl (lv_room (Nat.le_of_ble_eq_true rfl)) dM_pieces_59 ⟨Nat.le_of_ble_eq_true rfl, Nat.le_of_ble_eq_true rfl⟩)) (fun z hz => ?_)
    rw [hz]; clear hz
    obtain ⟨u13, hu13, h⟩ := ob_some h
    refine mu_call (va_runV (As := [.int p1, .long u9, .long u10, .long u11, .long u12]) (rest := []) ⟨hx, hb, hml, hown, hw⟩ (k_M_piece l dC dI cL cI qm vv p1 u9 u10 u11 u12 u13 hu13) (cwV 5 hw (gV w_607 w_609 wp_19 w_2 w_610) rfl rfl rfl (by decide +kernel) ⟨Nat.le_of_ble_eq_true rfl, Nat.le_of_ble_eq_true rfl⟩) ⟨rd_blind, va_recv hK hPm (ci := 2) (q0 := 0) rfl rfl, rd_pre ⟨hPm, hD⟩ hK⟩ rfl rfl hl.1 rfl (lv_room (Nat.le_of_ble_eq_true rfl)) dM_pieces_62 ⟨Nat.le_of_ble_eq_true rfl, Nat.le_of_ble_eq_true rfl⟩) hS (fun _ z => z) (fun H locs hPm hS _ _ => ?_)
    have hD := md_D (u13) hD
    refine lv_goto (tgt := 361) hx hb dM_pieces_65 (by decide) ?_
    exact k361 u13 h H locs hPm hD hS ls (lv_sub hl [] rfl)
  have hS : va_S (inQ qm) s.heap s.heap [] := va_S.rf
  obtain ⟨H, hH⟩ : ∃ H : Heap, H = s.heap := ⟨_, rfl⟩
  obtain ⟨locs, hlocs⟩ : ∃ L : List Loc, L = [] := ⟨_, rfl⟩
  suffices hgo : W p l e (headSpec wsM_pieces ({ frames := 1, cells := 0, slots := 0, locals := 30 })).room s m ([.ref (qm 0), .int x1, .int x2] : List Value).toArray below meth c H locs 0 0 (MQ below (mu_Q none (dC, dI) cls3 (mdW cL cI qm r) (inQ qm)) ([.ref (qm 0), .int x1, .int x2] : List Value).toArray s 0 0 (inQ qm)) (F0 m 0 ls []) by rw [hH, hlocs] at hgo; exact hgo
  rw [← hH] at hPm
  have hS : va_S (inQ qm) s.heap H locs := by rw [hH, hlocs]; exact hS
  clear hH hlocs
  unfold f_M_pieces at h
  refine lv_aload_n hx hb dM_pieces_0 rfl (lv_at hl 0 rfl) ?_
  refine va_get (D := (dC, dI)) (ci := 2) (v := .ref (qm 12)) (C := R_M) (T := T_M) (N := 15) hx hb hw in_M hown hK hPm 0 rfl rfl 13 (by decide) (hw _ w_458) (fun _ h9 => h9) rfl dM_pieces_1 ?_
  refine lv_iload_n hx hb dM_pieces_4 rfl (lv_at hl 1 rfl) ?_
  refine lv_iconst (v := 0) hx hb dM_pieces_5 (by decide) ?_
  obtain ⟨u1, hu1, h⟩ := ob_some h
  refine va_iast hx hb hK hPm hD hS 12 1 rfl rfl (ck_of hu1) dM_pieces_6 (fun H locs hPm hD hS => ?_)
  obtain ⟨v2, hv2, h⟩ := ob_some h
  have hPm : va_P (dC, dI) cls3 (mdW cL cI qm (ms_size v (upd (md_size v) x1.toNatClampNeg (0 : Int32)))) H := hPm
  have hD : va_D (inQ qm) (mdW cL cI qm (ms_size v (upd (md_size v) x1.toNatClampNeg (0 : Int32)))) := hD
  rw [Option.some.inj hv2] at hPm hD
  refine lv_aload_n hx hb dM_pieces_7 rfl (lv_at hl 0 rfl) ?_
  refine va_get (D := (dC, dI)) (ci := 2) (v := .ref (qm 1)) (C := R_M) (T := T_M) (N := 15) hx hb hw in_M hown hK hPm 0 rfl rfl 2 (by decide) (hw _ w_447) (fun _ h9 => h9) rfl dM_pieces_8 ?_
  refine lv_iload_n hx hb dM_pieces_11 rfl (lv_at hl 2 rfl) ?_
  obtain ⟨u3, hu3, h⟩ := ob_some h
  obtain ⟨hiu3, eu3⟩ := ld_of hu3
  refine va_iald hx hb hK hPm 1 1 rfl rfl hiu3 dM_pieces_12 ?_
  rw [eu3]
  refine lv_if_eq (tgt := 36) hx hb dM_pieces_13 (by decide) (fun c4 => ?_) (fun c4 => ?_)
  · have h := it_t c4 h
    exact k36 v2 x1 x2 h H locs hPm hD hS ls (lv_sub hl [0, 1, 2] rfl)
  · have h := it_f c4 h
    refine lv_aload_n hx hb dM_pieces_16 rfl (lv_at hl 0 rfl) ?_
    refine va_get (D := (dC, dI)) (ci := 2) (v := .ref (qm 1)) (C := R_M) (T := T_M) (N := 15) hx hb hw in_M hown hK hPm 0 rfl rfl 2 (by decide) (hw _ w_447) (fun _ h9 => h9) rfl dM_pieces_17 ?_
    refine lv_iload_n hx hb dM_pieces_20 rfl (lv_at hl 2 rfl) ?_
    obtain ⟨u5, hu5, h⟩ := ob_some h
    obtain ⟨hiu5, eu5⟩ := ld_of hu5
    refine va_iald hx hb hK hPm 1 1 rfl rfl hiu5 dM_pieces_21 ?_
    rw [eu5]
    refine lv_iconst (v := 3) hx hb dM_pieces_22 (by decide) ?_
    refine lv_icmp_ne (tgt := 68) hx hb dM_pieces_23 (by decide) (fun c6 => ?_) (fun c6 => ?_)
    · have h := it_f c6 h
      exact k68 v2 x1 x2 h H locs hPm hD hS ls (lv_sub hl [0, 1, 2] rfl)
    · have h := it_t c6 h
      refine lv_aload_n hx hb dM_pieces_26 rfl (lv_at hl 0 rfl) ?_
      refine va_get (D := (dC, dI)) (ci := 2) (v := .ref (qm 5)) (C := R_M) (T := T_M) (N := 15) hx hb hw in_M hown hK hPm 0 rfl rfl 6 (by decide) (hw _ w_451) (fun _ h9 => h9) rfl dM_pieces_27 ?_
      refine lv_iload_n hx hb dM_pieces_30 rfl (lv_at hl 2 rfl) ?_
      obtain ⟨u7, hu7, h⟩ := ob_some h
      obtain ⟨hiu7, eu7⟩ := ld_of hu7
      refine va_iald hx hb hK hPm 5 1 rfl rfl hiu7 dM_pieces_31 ?_
      rw [eu7]
      refine lv_iconst (v := 1) hx hb dM_pieces_32 (by decide) ?_
      refine lv_icmp_ne (tgt := 68) hx hb dM_pieces_33 (by decide) (fun c8 => ?_) (fun c8 => ?_)
      · have h := it_f c8 h
        exact k68 v2 x1 x2 h H locs hPm hD hS ls (lv_sub hl [0, 1, 2] rfl)
      · have h := it_t c8 h
        exact k36 v2 x1 x2 h H locs hPm hD hS ls (lv_sub hl [0, 1, 2] rfl)
theorem dM_copy_0 : decode cM_copy 0 = .ok (.aload_n 0, 1) := by decide +kernel
theorem dM_copy_1 : decode cM_copy 1 = .ok (.aload_n 0, 1) := by decide +kernel
theorem dM_copy_2 : decode cM_copy 2 = .ok (.getfield 7, 3) := by decide +kernel
theorem dM_copy_5 : decode cM_copy 5 = .ok (.iload_n 1, 1) := by decide +kernel
theorem dM_copy_6 : decode cM_copy 6 = .ok (.iaload, 1) := by decide +kernel
theorem dM_copy_7 : decode cM_copy 7 = .ok (.lload_n 2, 1) := by decide +kernel
theorem dM_copy_8 : decode cM_copy 8 = .ok (.invokevirtual 75, 3) := by decide +kernel
theorem dM_copy_11 : decode cM_copy 11 = .ok (.istore 4, 2) := by decide +kernel
theorem dM_copy_13 : decode cM_copy 13 = .ok (.iconst 0, 1) := by decide +kernel
theorem dM_copy_14 : decode cM_copy 14 = .ok (.istore 5, 2) := by decide +kernel
theorem dM_copy_16 : decode cM_copy 16 = .ok (.iload 5, 2) := by decide +kernel
theorem dM_copy_18 : decode cM_copy 18 = .ok (.aload_n 0, 1) := by decide +kernel
theorem dM_copy_19 : decode cM_copy 19 = .ok (.getfield 23, 3) := by decide +kernel
theorem dM_copy_22 : decode cM_copy 22 = .ok (.iload_n 1, 1) := by decide +kernel
theorem dM_copy_23 : decode cM_copy 23 = .ok (.iaload, 1) := by decide +kernel
theorem dM_copy_24 : decode cM_copy 24 = .ok (.if_icmp .ge 29, 3) := by decide +kernel
theorem dM_copy_27 : decode cM_copy 27 = .ok (.aload_n 0, 1) := by decide +kernel
theorem dM_copy_28 : decode cM_copy 28 = .ok (.iload 4, 2) := by decide +kernel
theorem dM_copy_30 : decode cM_copy 30 = .ok (.aload_n 0, 1) := by decide +kernel
theorem dM_copy_31 : decode cM_copy 31 = .ok (.iload_n 1, 1) := by decide +kernel
theorem dM_copy_32 : decode cM_copy 32 = .ok (.iload 5, 2) := by decide +kernel
theorem dM_copy_34 : decode cM_copy 34 = .ok (.invokevirtual 111, 3) := by decide +kernel
theorem dM_copy_37 : decode cM_copy 37 = .ok (.aload_n 0, 1) := by decide +kernel
theorem dM_copy_38 : decode cM_copy 38 = .ok (.iload_n 1, 1) := by decide +kernel
theorem dM_copy_39 : decode cM_copy 39 = .ok (.iload 5, 2) := by decide +kernel
theorem dM_copy_41 : decode cM_copy 41 = .ok (.invokevirtual 115, 3) := by decide +kernel
theorem dM_copy_44 : decode cM_copy 44 = .ok (.invokevirtual 79, 3) := by decide +kernel
theorem dM_copy_47 : decode cM_copy 47 = .ok (.iinc 5 1, 3) := by decide +kernel
theorem dM_copy_50 : decode cM_copy 50 = .ok (.goto (-34), 3) := by decide +kernel
theorem dM_copy_53 : decode cM_copy 53 = .ok (.aload_n 0, 1) := by decide +kernel
theorem dM_copy_54 : decode cM_copy 54 = .ok (.getfield 29, 3) := by decide +kernel
theorem dM_copy_57 : decode cM_copy 57 = .ok (.iload 4, 2) := by decide +kernel
theorem dM_copy_59 : decode cM_copy 59 = .ok (.aload_n 0, 1) := by decide +kernel
theorem dM_copy_60 : decode cM_copy 60 = .ok (.getfield 29, 3) := by decide +kernel
theorem dM_copy_63 : decode cM_copy 63 = .ok (.iload_n 1, 1) := by decide +kernel
theorem dM_copy_64 : decode cM_copy 64 = .ok (.iaload, 1) := by decide +kernel
theorem dM_copy_65 : decode cM_copy 65 = .ok (.iastore, 1) := by decide +kernel
theorem dM_copy_66 : decode cM_copy 66 = .ok (.iconst 0, 1) := by decide +kernel
theorem dM_copy_67 : decode cM_copy 67 = .ok (.istore 5, 2) := by decide +kernel
theorem dM_copy_69 : decode cM_copy 69 = .ok (.iload 5, 2) := by decide +kernel
theorem dM_copy_71 : decode cM_copy 71 = .ok (.aload_n 0, 1) := by decide +kernel
theorem dM_copy_72 : decode cM_copy 72 = .ok (.getfield 29, 3) := by decide +kernel
theorem dM_copy_75 : decode cM_copy 75 = .ok (.iload_n 1, 1) := by decide +kernel
theorem dM_copy_76 : decode cM_copy 76 = .ok (.iaload, 1) := by decide +kernel
theorem dM_copy_77 : decode cM_copy 77 = .ok (.if_icmp .ge 34, 3) := by decide +kernel
theorem dM_copy_80 : decode cM_copy 80 = .ok (.aload_n 0, 1) := by decide +kernel
theorem dM_copy_81 : decode cM_copy 81 = .ok (.getfield 26, 3) := by decide +kernel
theorem dM_copy_84 : decode cM_copy 84 = .ok (.bipush 16, 2) := by decide +kernel
theorem dM_copy_86 : decode cM_copy 86 = .ok (.iload 4, 2) := by decide +kernel
theorem dM_copy_88 : decode cM_copy 88 = .ok (.imul, 1) := by decide +kernel
theorem dM_copy_89 : decode cM_copy 89 = .ok (.iload 5, 2) := by decide +kernel
theorem dM_copy_91 : decode cM_copy 91 = .ok (.iadd, 1) := by decide +kernel
theorem dM_copy_92 : decode cM_copy 92 = .ok (.aload_n 0, 1) := by decide +kernel
theorem dM_copy_93 : decode cM_copy 93 = .ok (.getfield 26, 3) := by decide +kernel
theorem dM_copy_96 : decode cM_copy 96 = .ok (.bipush 16, 2) := by decide +kernel
theorem dM_copy_98 : decode cM_copy 98 = .ok (.iload_n 1, 1) := by decide +kernel
theorem dM_copy_99 : decode cM_copy 99 = .ok (.imul, 1) := by decide +kernel
theorem dM_copy_100 : decode cM_copy 100 = .ok (.iload 5, 2) := by decide +kernel
theorem dM_copy_102 : decode cM_copy 102 = .ok (.iadd, 1) := by decide +kernel
theorem dM_copy_103 : decode cM_copy 103 = .ok (.iaload, 1) := by decide +kernel
theorem dM_copy_104 : decode cM_copy 104 = .ok (.iastore, 1) := by decide +kernel
theorem dM_copy_105 : decode cM_copy 105 = .ok (.iinc 5 1, 3) := by decide +kernel
theorem dM_copy_108 : decode cM_copy 108 = .ok (.goto (-39), 3) := by decide +kernel
theorem dM_copy_111 : decode cM_copy 111 = .ok (.iload 4, 2) := by decide +kernel
theorem dM_copy_113 : decode cM_copy 113 = .ok (.ireturn, 1) := by decide +kernel
def f_M_copy_l69 : Nat → MV → Int32 → Int32 → Int32 → Option (Int32 × MV)
 | 0, _, _, _, _ => none
 | n + 1, vv, p1, p4, p5 => (ld 40 (md_rings vv) p1).bind fun u11 => (if u11 ≤ p5 then some (p4, vv) else (ld 640 (md_ends vv) (((16 : Int32) * p1) + p5)).bind fun u13 => (ck 640 (((16 : Int32) * p4) + p5)).bind fun u14 => (some (ms_ends vv (upd (md_ends vv) (((16 : Int32) * p4) + p5).toNatClampNeg u13))).bind fun v15 => ((f_M_copy_l69 n) v15 p1 p4 (p5 + 1)))
def f_M_copy_l16 : Nat → MV → Int32 → Int32 → Int32 → Option (Int32 × MV)
 | 0, _, _, _, _ => none
 | n + 1, vv, p1, p4, p5 => (ld 40 (md_many vv) p1).bind fun u3 => (if u3 ≤ p5 then (ld 40 (md_rings vv) p1).bind fun u5 => (ck 40 p4).bind fun u6 => (some (ms_rings vv (upd (md_rings vv) p4.toNatClampNeg u5))).bind fun v7 => (f_M_copy_l69 64 v7 p1 p4 (0 : Int32)) else (f_M_x vv p1 p5).bind fun u8 => (f_M_y vv p1 p5).bind fun u9 => (f_M_add vv p4 u8 u9).bind fun u10 => ((f_M_copy_l16 n) u10 p1 p4 (p5 + 1)))
def f_M_copy (v : MV) (x1 : Int32) (x2 : Int64) : Option (Int32 × MV) := (ld 40 (md_kinds v) x1).bind fun u1 => (f_M_begin v u1 x2).bind fun u2 => (f_M_copy_l16 64 u2.2 x1 u2.1 (0 : Int32))
set_option maxHeartbeats 4000000 in
set_option maxRecDepth 100000 in
theorem k_M_copy (l : Launch) (dC : Nat → ClassId) (dI : Nat → Nat → Nat) (cL cI : ClassId) (qm : Nat → Nat) (v : MV) (x1 : Int32) (x2 : Int64) (r : (Int32 × MV)) (h : f_M_copy v x1 x2 = some r) : Met l yM_copy wsM_copy ({ frames := 1, cells := 0, slots := 0, locals := 25 }) (rd_Pc [.ref (qm 0), .int x1, .long x2] (fun H => va_P (dC, dI) cls3 (mdW cL cI qm v) H ∧ va_D (inQ qm) (mdW cL cI qm v)) (dC, dI) cls3 [(cL, .long), (cI, .int)]) (mu_Q (some (.int r.1)) (dC, dI) cls3 (mdW cL cI qm r.2) (inQ qm)) 0 0 (inQ qm) := by
  refine Met.ofW (cc := cM_copy) (maxL := 6) (ret := (some .int)) (by decide) rfl ?_
  intro p e s m args below meth c s₁ B hml hv
  obtain ⟨rfl, ⟨hPm, hD⟩, hK⟩ := hv
  have hx := B.exec
  have hb := B.bytes
  have hr := B.returns
  have hw : ∀ w ∈ wG, w.before ([.ref (qm 0), .int x1, .long x2] : List Value).toArray s = true := fun w hq => atoms_spec (ws := wsM_copy) B.pre w (List.mem_cons_of_mem _ hq)
  have hown : s.vm.findClass R_M = some m.cls := findClass_of_methodNamed B.named
  have hlocks := B.notSynchronized
  have hl := lv_entry ([.ref (qm 0), .int x1, .long x2] : List Value) (n := 6) (Nat.le_of_ble_eq_true rfl)
  rw [lg_entry_eq]
  generalize (lg_sl ([.ref (qm 0), .int x1, .long x2] : List Value) ++ List.replicate (6 - (lg_sl ([.ref (qm 0), .int x1, .long x2] : List Value)).length) Slot.unset).toArray = ls at hl ⊢
  have hl : lv_has ls 6 [(0, .ref (qm 0)), (1, .int x1), (2, .long x2)] := hl
  have k69 : ∀ (n69 : Nat), ∀ (vv : MV) (p1 : Int32) (p4 : Int32) (p5 : Int32), f_M_copy_l69 n69 vv p1 p4 p5 = some r → ∀ (H : Heap) (locs : List Loc), va_P (dC, dI) cls3 (mdW cL cI qm vv) H → va_D (inQ qm) (mdW cL cI qm vv) → va_S (inQ qm) s.heap H locs → ∀ (ls : Array Slot), lv_has ls 6 [(0, .ref (qm 0)), (1, .int p1), (4, .int p4), (5, .int p5)] → W p l e (headSpec wsM_copy ({ frames := 1, cells := 0, slots := 0, locals := 25 })).room s m ([.ref (qm 0), .int x1, .long x2] : List Value).toArray below meth c H locs 0 0 (MQ below (mu_Q (some (.int r.1)) (dC, dI) cls3 (mdW cL cI qm r.2) (inQ qm)) ([.ref (qm 0), .int x1, .long x2] : List Value).toArray s 0 0 (inQ qm)) (F0 m 69 ls []) := by
    intro n69
    induction n69 with
    | zero => intro vv p1 p4 p5 h; exact absurd h (by simp [f_M_copy_l69])
    | succ n69 ih69 =>
      intro vv p1 p4 p5 h H locs hPm hD hS ls hl
      rw [f_M_copy_l69] at h
      refine lv_iload hx hb dM_copy_69 (lv_at hl 3 rfl) ?_
      refine lv_aload_n hx hb dM_copy_71 rfl (lv_at hl 0 rfl) ?_
      refine va_get (D := (dC, dI)) (ci := 2) (v := .ref (qm 7)) (C := R_M) (T := T_M) (N := 15) hx hb hw in_M hown hK hPm 0 rfl rfl 8 (by decide) (hw _ w_453) (fun _ h9 => h9) rfl dM_copy_72 ?_
      refine lv_iload_n hx hb dM_copy_75 rfl (lv_at hl 1 rfl) ?_
      obtain ⟨u11, hu11, h⟩ := ob_some h
      obtain ⟨hiu11, eu11⟩ := ld_of hu11
      refine va_iald hx hb hK hPm 7 1 rfl rfl hiu11 dM_copy_76 ?_
      rw [eu11]
      refine lv_icmp_ge (tgt := 111) hx hb dM_copy_77 (by decide) (fun c12 => ?_) (fun c12 => ?_)
      · have h := it_t c12 h
        refine lv_iload hx hb dM_copy_111 (lv_at hl 2 rfl) ?_
        have h := Option.some.inj h
        subst h
        exact W.iret hx hb hr (fun t ht hW => ⟨rfl, by rw [ht]; exact hPm, hS.F ht⟩) hS.2.2 dM_copy_113
      · have h := it_f c12 h
        refine lv_aload_n hx hb dM_copy_80 rfl (lv_at hl 0 rfl) ?_
        refine va_get (D := (dC, dI)) (ci := 2) (v := .ref (qm 6)) (C := R_M) (T := T_M) (N := 15) hx hb hw in_M hown hK hPm 0 rfl rfl 7 (by decide) (hw _ w_452) (fun _ h9 => h9) rfl dM_copy_81 ?_
        refine lv_bipush (v := 16) hx hb dM_copy_84 (by decide) ?_
        refine lv_iload hx hb dM_copy_86 (lv_at hl 2 rfl) ?_
        refine lv_imul hx hb dM_copy_88 ?_
        refine lv_iload hx hb dM_copy_89 (lv_at hl 3 rfl) ?_
        refine lv_iadd hx hb dM_copy_91 ?_
        refine lv_aload_n hx hb dM_copy_92 rfl (lv_at hl 0 rfl) ?_
        refine va_get (D := (dC, dI)) (ci := 2) (v := .ref (qm 6)) (C := R_M) (T := T_M) (N := 15) hx hb hw in_M hown hK hPm 0 rfl rfl 7 (by decide) (hw _ w_452) (fun _ h9 => h9) rfl dM_copy_93 ?_
        refine lv_bipush (v := 16) hx hb dM_copy_96 (by decide) ?_
        refine lv_iload_n hx hb dM_copy_98 rfl (lv_at hl 1 rfl) ?_
        refine lv_imul hx hb dM_copy_99 ?_
        refine lv_iload hx hb dM_copy_100 (lv_at hl 3 rfl) ?_
        refine lv_iadd hx hb dM_copy_102 ?_
        obtain ⟨u13, hu13, h⟩ := ob_some h
        obtain ⟨hiu13, eu13⟩ := ld_of hu13
        refine va_iald hx hb hK hPm 6 1 rfl rfl hiu13 dM_copy_103 ?_
        rw [eu13]
        obtain ⟨u14, hu14, h⟩ := ob_some h
        refine va_iast hx hb hK hPm hD hS 6 1 rfl rfl (ck_of hu14) dM_copy_104 (fun H locs hPm hD hS => ?_)
        obtain ⟨v15, hv15, h⟩ := ob_some h
        have hPm : va_P (dC, dI) cls3 (mdW cL cI qm (ms_ends vv (upd (md_ends vv) (((16 : Int32) * p4) + p5).toNatClampNeg u13))) H := hPm
        have hD : va_D (inQ qm) (mdW cL cI qm (ms_ends vv (upd (md_ends vv) (((16 : Int32) * p4) + p5).toNatClampNeg u13))) := hD
        rw [Option.some.inj hv15] at hPm hD
        refine lv_iinc (v := p5 + 1) (lv' := [(5, .int (p5 + 1)), (0, .ref (qm 0)), (1, .int p1), (4, .int p4)]) hx hb dM_copy_105 hl (k := 3) rfl rfl (by decide) rfl (fun ls hl => ?_)
        refine lv_goto (tgt := 69) hx hb dM_copy_108 (by decide) ?_
        exact ih69 v15 p1 p4 (p5 + 1) h H locs hPm hD hS ls (lv_sub hl [1, 2, 3, 0] rfl)
  have k16 : ∀ (n16 : Nat), ∀ (vv : MV) (p1 : Int32) (p4 : Int32) (p5 : Int32), f_M_copy_l16 n16 vv p1 p4 p5 = some r → ∀ (H : Heap) (locs : List Loc), va_P (dC, dI) cls3 (mdW cL cI qm vv) H → va_D (inQ qm) (mdW cL cI qm vv) → va_S (inQ qm) s.heap H locs → ∀ (ls : Array Slot), lv_has ls 6 [(0, .ref (qm 0)), (1, .int p1), (4, .int p4), (5, .int p5)] → W p l e (headSpec wsM_copy ({ frames := 1, cells := 0, slots := 0, locals := 25 })).room s m ([.ref (qm 0), .int x1, .long x2] : List Value).toArray below meth c H locs 0 0 (MQ below (mu_Q (some (.int r.1)) (dC, dI) cls3 (mdW cL cI qm r.2) (inQ qm)) ([.ref (qm 0), .int x1, .long x2] : List Value).toArray s 0 0 (inQ qm)) (F0 m 16 ls []) := by
    intro n16
    induction n16 with
    | zero => intro vv p1 p4 p5 h; exact absurd h (by simp [f_M_copy_l16])
    | succ n16 ih16 =>
      intro vv p1 p4 p5 h H locs hPm hD hS ls hl
      rw [f_M_copy_l16] at h
      refine lv_iload hx hb dM_copy_16 (lv_at hl 3 rfl) ?_
      refine lv_aload_n hx hb dM_copy_18 rfl (lv_at hl 0 rfl) ?_
      refine va_get (D := (dC, dI)) (ci := 2) (v := .ref (qm 5)) (C := R_M) (T := T_M) (N := 15) hx hb hw in_M hown hK hPm 0 rfl rfl 6 (by decide) (hw _ w_451) (fun _ h9 => h9) rfl dM_copy_19 ?_
      refine lv_iload_n hx hb dM_copy_22 rfl (lv_at hl 1 rfl) ?_
      obtain ⟨u3, hu3, h⟩ := ob_some h
      obtain ⟨hiu3, eu3⟩ := ld_of hu3
      refine va_iald hx hb hK hPm 5 1 rfl rfl hiu3 dM_copy_23 ?_
      rw [eu3]
      refine lv_icmp_ge (tgt := 53) hx hb dM_copy_24 (by decide) (fun c4 => ?_) (fun c4 => ?_)
      · have h := it_t c4 h
        refine lv_aload_n hx hb dM_copy_53 rfl (lv_at hl 0 rfl) ?_
        refine va_get (D := (dC, dI)) (ci := 2) (v := .ref (qm 7)) (C := R_M) (T := T_M) (N := 15) hx hb hw in_M hown hK hPm 0 rfl rfl 8 (by decide) (hw _ w_453) (fun _ h9 => h9) rfl dM_copy_54 ?_
        refine lv_iload hx hb dM_copy_57 (lv_at hl 2 rfl) ?_
        refine lv_aload_n hx hb dM_copy_59 rfl (lv_at hl 0 rfl) ?_
        refine va_get (D := (dC, dI)) (ci := 2) (v := .ref (qm 7)) (C := R_M) (T := T_M) (N := 15) hx hb hw in_M hown hK hPm 0 rfl rfl 8 (by decide) (hw _ w_453) (fun _ h9 => h9) rfl dM_copy_60 ?_
        refine lv_iload_n hx hb dM_copy_63 rfl (lv_at hl 1 rfl) ?_
        obtain ⟨u5, hu5, h⟩ := ob_some h
        obtain ⟨hiu5, eu5⟩ := ld_of hu5
        refine va_iald hx hb hK hPm 7 1 rfl rfl hiu5 dM_copy_64 ?_
        rw [eu5]
        obtain ⟨u6, hu6, h⟩ := ob_some h
        refine va_iast hx hb hK hPm hD hS 7 1 rfl rfl (ck_of hu6) dM_copy_65 (fun H locs hPm hD hS => ?_)
        obtain ⟨v7, hv7, h⟩ := ob_some h
        have hPm : va_P (dC, dI) cls3 (mdW cL cI qm (ms_rings vv (upd (md_rings vv) p4.toNatClampNeg u5))) H := hPm
        have hD : va_D (inQ qm) (mdW cL cI qm (ms_rings vv (upd (md_rings vv) p4.toNatClampNeg u5))) := hD
        rw [Option.some.inj hv7] at hPm hD
        refine lv_iconst (v := 0) hx hb dM_copy_66 (by decide) ?_
        refine lv_istore (lv' := [(5, .int (0 : Int32)), (0, .ref (qm 0)), (1, .int p1), (4, .int p4)]) hx hb dM_copy_67 hl (by decide) rfl (fun ls hl => ?_)
        exact k69 64 v7 p1 p4 (0 : Int32) h H locs hPm hD hS ls (lv_sub hl [1, 2, 3, 0] rfl)
      · have h := it_f c4 h
        refine lv_aload_n hx hb dM_copy_27 rfl (lv_at hl 0 rfl) ?_
        refine lv_iload hx hb dM_copy_28 (lv_at hl 2 rfl) ?_
        refine lv_aload_n hx hb dM_copy_30 rfl (lv_at hl 0 rfl) ?_
        refine lv_iload_n hx hb dM_copy_31 rfl (lv_at hl 1 rfl) ?_
        refine lv_iload hx hb dM_copy_32 (lv_at hl 3 rfl) ?_
        obtain ⟨u8, hu8, h⟩ := ob_some h
        refine vp_callSl (va_Run.run (va_runV (As := [.int p1, .int p5]) (rest := [.int p4, .ref (qm 0)]) ⟨hx, hb, hml, hown, hw⟩ (k_M_x l dC dI cL cI qm vv p1 p5 u8 hu8) (cwV 2 hw (gV w_550 w_552 wp_11 w_2 w_553) rfl rfl rfl (by decide +kernel) ⟨Nat.le_of_ble_eq_true rfl, Nat.le_of_ble_eq_true rfl⟩) ⟨rd_blind, va_recv hK hPm (ci := 2) (q0 := 0) rfl rfl, rd_pre hPm hK⟩ rfl rfl hl.1 rfl (lv_room (Nat.le_of_ble_eq_true rfl)) dM_copy_34 ⟨Nat.le_of_ble_eq_true rfl, Nat.le_of_ble_eq_true rfl⟩)) (fun z hz => ?_)
        rw [hz]; clear hz
        refine lv_aload_n hx hb dM_copy_37 rfl (lv_at hl 0 rfl) ?_
        refine lv_iload_n hx hb dM_copy_38 rfl (lv_at hl 1 rfl) ?_
        refine lv_iload hx hb dM_copy_39 (lv_at hl 3 rfl) ?_
        obtain ⟨u9, hu9, h⟩ := ob_some h
        refine vp_callSl (va_Run.run (va_runV (As := [.int p1, .int p5]) (rest := [.long u8, .int p4, .ref (qm 0)]) ⟨hx, hb, hml, hown, hw⟩ (k_M_y l dC dI cL cI qm vv p1 p5 u9 hu9) (cwV 2 hw (gV w_554 w_556 wp_12 w_2 w_557) rfl rfl rfl (by decide +kernel) ⟨Nat.le_of_ble_eq_true rfl, Nat.le_of_ble_eq_true rfl⟩) ⟨rd_blind, va_recv hK hPm (ci := 2) (q0 := 0) rfl rfl, rd_pre hPm hK⟩ rfl rfl hl.1 rfl (lv_room (Nat.le_of_ble_eq_true rfl)) dM_copy_41 ⟨Nat.le_of_ble_eq_true rfl, Nat.le_of_ble_eq_true rfl⟩)) (fun z hz => ?_)
        rw [hz]; clear hz
        obtain ⟨u10, hu10, h⟩ := ob_some h
        refine mu_call (va_runV (As := [.int p4, .long u8, .long u9]) (rest := []) ⟨hx, hb, hml, hown, hw⟩ (k_M_add l dC dI cL cI qm vv p4 u8 u9 u10 hu10) (cwV 3 hw (gV w_512 w_514 wp_7 w_2 w_515) rfl rfl rfl (by decide +kernel) ⟨Nat.le_of_ble_eq_true rfl, Nat.le_of_ble_eq_true rfl⟩) ⟨rd_blind, va_recv hK hPm (ci := 2) (q0 := 0) rfl rfl, rd_pre ⟨hPm, hD⟩ hK⟩ rfl rfl hl.1 rfl (lv_room (Nat.le_of_ble_eq_true rfl)) dM_copy_44 ⟨Nat.le_of_ble_eq_true rfl, Nat.le_of_ble_eq_true rfl⟩) hS (fun _ z => z) (fun H locs hPm hS _ _ => ?_)
        have hD := md_D (u10) hD
        refine lv_iinc (v := p5 + 1) (lv' := [(5, .int (p5 + 1)), (0, .ref (qm 0)), (1, .int p1), (4, .int p4)]) hx hb dM_copy_47 hl (k := 3) rfl rfl (by decide) rfl (fun ls hl => ?_)
        refine lv_goto (tgt := 16) hx hb dM_copy_50 (by decide) ?_
        exact ih16 u10 p1 p4 (p5 + 1) h H locs hPm hD hS ls (lv_sub hl [1, 2, 3, 0] rfl)
  have hS : va_S (inQ qm) s.heap s.heap [] := va_S.rf
  obtain ⟨H, hH⟩ : ∃ H : Heap, H = s.heap := ⟨_, rfl⟩
  obtain ⟨locs, hlocs⟩ : ∃ L : List Loc, L = [] := ⟨_, rfl⟩
  suffices hgo : W p l e (headSpec wsM_copy ({ frames := 1, cells := 0, slots := 0, locals := 25 })).room s m ([.ref (qm 0), .int x1, .long x2] : List Value).toArray below meth c H locs 0 0 (MQ below (mu_Q (some (.int r.1)) (dC, dI) cls3 (mdW cL cI qm r.2) (inQ qm)) ([.ref (qm 0), .int x1, .long x2] : List Value).toArray s 0 0 (inQ qm)) (F0 m 0 ls []) by rw [hH, hlocs] at hgo; exact hgo
  rw [← hH] at hPm
  have hS : va_S (inQ qm) s.heap H locs := by rw [hH, hlocs]; exact hS
  clear hH hlocs
  unfold f_M_copy at h
  refine lv_aload_n hx hb dM_copy_0 rfl (lv_at hl 0 rfl) ?_
  refine lv_aload_n hx hb dM_copy_1 rfl (lv_at hl 0 rfl) ?_
  refine va_get (D := (dC, dI)) (ci := 2) (v := .ref (qm 1)) (C := R_M) (T := T_M) (N := 15) hx hb hw in_M hown hK hPm 0 rfl rfl 2 (by decide) (hw _ w_447) (fun _ h9 => h9) rfl dM_copy_2 ?_
  refine lv_iload_n hx hb dM_copy_5 rfl (lv_at hl 1 rfl) ?_
  obtain ⟨u1, hu1, h⟩ := ob_some h
  obtain ⟨hiu1, eu1⟩ := ld_of hu1
  refine va_iald hx hb hK hPm 1 1 rfl rfl hiu1 dM_copy_6 ?_
  rw [eu1]
  refine lv_lload_n hx hb dM_copy_7 rfl (lv_at hl 2 rfl) ?_
  obtain ⟨u2, hu2, h⟩ := ob_some h
  refine mu_call (va_runV (As := [.int u1, .long x2]) (rest := []) ⟨hx, hb, hml, hown, hw⟩ (k_M_begin l dC dI cL cI qm v u1 x2 u2 hu2) (cwV 2 hw (gV w_508 w_510 wp_6 w_2 w_511) rfl rfl rfl (by decide +kernel) ⟨Nat.le_of_ble_eq_true rfl, Nat.le_of_ble_eq_true rfl⟩) ⟨rd_blind, va_recv hK hPm (ci := 2) (q0 := 0) rfl rfl, rd_pre ⟨hPm, hD⟩ hK⟩ rfl rfl hl.1 rfl (lv_room (Nat.le_of_ble_eq_true rfl)) dM_copy_8 ⟨Nat.le_of_ble_eq_true rfl, Nat.le_of_ble_eq_true rfl⟩) hS (fun _ z => z) (fun H locs hPm hS _ _ => ?_)
  have hD := md_D (u2.2) hD
  refine lv_istore (lv' := [(4, .int u2.1), (0, .ref (qm 0)), (1, .int x1), (2, .long x2)]) hx hb dM_copy_11 hl (by decide) rfl (fun ls hl => ?_)
  refine lv_iconst (v := 0) hx hb dM_copy_13 (by decide) ?_
  refine lv_istore (lv' := [(5, .int (0 : Int32)), (4, .int u2.1), (0, .ref (qm 0)), (1, .int x1), (2, .long x2)]) hx hb dM_copy_14 hl (by decide) rfl (fun ls hl => ?_)
  exact k16 64 u2.2 x1 u2.1 (0 : Int32) h H locs hPm hD hS ls (lv_sub hl [2, 3, 1, 0] rfl)
theorem dM_circle_0 : decode cM_circle 0 = .ok (.aload_n 0, 1) := by decide +kernel
theorem dM_circle_1 : decode cM_circle 1 = .ok (.lload_n 1, 1) := by decide +kernel
theorem dM_circle_2 : decode cM_circle 2 = .ok (.lload_n 3, 1) := by decide +kernel
theorem dM_circle_3 : decode cM_circle 3 = .ok (.invokestatic 67, 3) := by decide +kernel
theorem dM_circle_6 : decode cM_circle 6 = .ok (.ifCond .eq 15, 3) := by decide +kernel
theorem dM_circle_9 : decode cM_circle 9 = .ok (.lload 5, 2) := by decide +kernel
theorem dM_circle_11 : decode cM_circle 11 = .ok (.invokestatic 71, 3) := by decide +kernel
theorem dM_circle_14 : decode cM_circle 14 = .ok (.ifCond .eq 7, 3) := by decide +kernel
theorem dM_circle_17 : decode cM_circle 17 = .ok (.iconst 0, 1) := by decide +kernel
theorem dM_circle_18 : decode cM_circle 18 = .ok (.goto 4, 3) := by decide +kernel
theorem dM_circle_21 : decode cM_circle 21 = .ok (.iconst 1, 1) := by decide +kernel
theorem dM_circle_22 : decode cM_circle 22 = .ok (.putfield 50, 3) := by decide +kernel
theorem dM_circle_25 : decode cM_circle 25 = .ok (.aload_n 0, 1) := by decide +kernel
theorem dM_circle_26 : decode cM_circle 26 = .ok (.getfield 50, 3) := by decide +kernel
theorem dM_circle_29 : decode cM_circle 29 = .ok (.ifCond .eq 5, 3) := by decide +kernel
theorem dM_circle_32 : decode cM_circle 32 = .ok (.iconst 0, 1) := by decide +kernel
theorem dM_circle_33 : decode cM_circle 33 = .ok (.ireturn, 1) := by decide +kernel
theorem dM_circle_34 : decode cM_circle 34 = .ok (.aload_n 0, 1) := by decide +kernel
theorem dM_circle_35 : decode cM_circle 35 = .ok (.getfield 60, 3) := by decide +kernel
theorem dM_circle_38 : decode cM_circle 38 = .ok (.bipush 40, 2) := by decide +kernel
theorem dM_circle_40 : decode cM_circle 40 = .ok (.if_icmp .ne 5, 3) := by decide +kernel
theorem dM_circle_43 : decode cM_circle 43 = .ok (.iconst (-1), 1) := by decide +kernel
theorem dM_circle_44 : decode cM_circle 44 = .ok (.ireturn, 1) := by decide +kernel
theorem dM_circle_45 : decode cM_circle 45 = .ok (.aload_n 0, 1) := by decide +kernel
theorem dM_circle_46 : decode cM_circle 46 = .ok (.iconst 0, 1) := by decide +kernel
theorem dM_circle_47 : decode cM_circle 47 = .ok (.lload 5, 2) := by decide +kernel
theorem dM_circle_49 : decode cM_circle 49 = .ok (.invokevirtual 75, 3) := by decide +kernel
theorem dM_circle_52 : decode cM_circle 52 = .ok (.istore 7, 2) := by decide +kernel
theorem dM_circle_54 : decode cM_circle 54 = .ok (.aload_n 0, 1) := by decide +kernel
theorem dM_circle_55 : decode cM_circle 55 = .ok (.iload 7, 2) := by decide +kernel
theorem dM_circle_57 : decode cM_circle 57 = .ok (.lload_n 1, 1) := by decide +kernel
theorem dM_circle_58 : decode cM_circle 58 = .ok (.lload_n 3, 1) := by decide +kernel
theorem dM_circle_59 : decode cM_circle 59 = .ok (.invokevirtual 79, 3) := by decide +kernel
theorem dM_circle_62 : decode cM_circle 62 = .ok (.iload 7, 2) := by decide +kernel
theorem dM_circle_64 : decode cM_circle 64 = .ok (.ireturn, 1) := by decide +kernel
def f_M_circle_j22 (vv : MV) (p1 : Int64) (p3 : Int64) (p5 : Int64) (s1 : Int32) : Option (Int32 × MV) := (some (ms_thrown vv s1)).bind fun v5 => (if (md_thrown v5) = 0 then (if (md_shapes v5) = (40 : Int32) then some ((-1 : Int32), v5) else (f_M_begin v5 (0 : Int32) p5).bind fun u8 => (f_M_add u8.2 u8.1 p1 p3).bind fun u9 => some (u8.1, u9)) else some ((0 : Int32), v5))
def f_M_circle_j21 (vv : MV) (p1 : Int64) (p3 : Int64) (p5 : Int64) : Option (Int32 × MV) := (f_M_circle_j22 vv p1 p3 p5 (1 : Int32))
def f_M_circle (v : MV) (x1 : Int64) (x3 : Int64) (x5 : Int64) : Option (Int32 × MV) := (f_M_isPlace x1 x3).bind fun u1 => (if u1 = 0 then (f_M_circle_j21 v x1 x3 x5) else (f_M_isRadius x5).bind fun u3 => (if u3 = 0 then (f_M_circle_j21 v x1 x3 x5) else (f_M_circle_j22 v x1 x3 x5 (0 : Int32))))
set_option maxHeartbeats 4000000 in
set_option maxRecDepth 100000 in
theorem k_M_circle (l : Launch) (dC : Nat → ClassId) (dI : Nat → Nat → Nat) (cL cI : ClassId) (qm : Nat → Nat) (v : MV) (x1 : Int64) (x3 : Int64) (x5 : Int64) (r : (Int32 × MV)) (h : f_M_circle v x1 x3 x5 = some r) : Met l yM_circle wsM_circle ({ frames := 1, cells := 0, slots := 0, locals := 25 }) (rd_Pc [.ref (qm 0), .long x1, .long x3, .long x5] (fun H => va_P (dC, dI) cls3 (mdW cL cI qm v) H ∧ va_D (inQ qm) (mdW cL cI qm v)) (dC, dI) cls3 [(cL, .long), (cI, .int)]) (mu_Q (some (.int r.1)) (dC, dI) cls3 (mdW cL cI qm r.2) (inQ qm)) 0 0 (inQ qm) := by
  refine Met.ofW (cc := cM_circle) (maxL := 8) (ret := (some .int)) (by decide) rfl ?_
  intro p e s m args below meth c s₁ B hml hv
  obtain ⟨rfl, ⟨hPm, hD⟩, hK⟩ := hv
  have hx := B.exec
  have hb := B.bytes
  have hr := B.returns
  have hw : ∀ w ∈ wG, w.before ([.ref (qm 0), .long x1, .long x3, .long x5] : List Value).toArray s = true := fun w hq => atoms_spec (ws := wsM_circle) B.pre w (List.mem_cons_of_mem _ hq)
  have hown : s.vm.findClass R_M = some m.cls := findClass_of_methodNamed B.named
  have hlocks := B.notSynchronized
  have hl := lv_entry ([.ref (qm 0), .long x1, .long x3, .long x5] : List Value) (n := 8) (Nat.le_of_ble_eq_true rfl)
  rw [lg_entry_eq]
  generalize (lg_sl ([.ref (qm 0), .long x1, .long x3, .long x5] : List Value) ++ List.replicate (8 - (lg_sl ([.ref (qm 0), .long x1, .long x3, .long x5] : List Value)).length) Slot.unset).toArray = ls at hl ⊢
  have hl : lv_has ls 8 [(0, .ref (qm 0)), (1, .long x1), (3, .long x3), (5, .long x5)] := hl
  have k22 : ∀ (vv : MV) (p1 : Int64) (p3 : Int64) (p5 : Int64) (s1 : Int32), f_M_circle_j22 vv p1 p3 p5 s1 = some r → ∀ (H : Heap) (locs : List Loc), va_P (dC, dI) cls3 (mdW cL cI qm vv) H → va_D (inQ qm) (mdW cL cI qm vv) → va_S (inQ qm) s.heap H locs → ∀ (ls : Array Slot), lv_has ls 8 [(0, .ref (qm 0)), (1, .long p1), (3, .long p3), (5, .long p5)] → W p l e (headSpec wsM_circle ({ frames := 1, cells := 0, slots := 0, locals := 25 })).room s m ([.ref (qm 0), .long x1, .long x3, .long x5] : List Value).toArray below meth c H locs 0 0 (MQ below (mu_Q (some (.int r.1)) (dC, dI) cls3 (mdW cL cI qm r.2) (inQ qm)) ([.ref (qm 0), .long x1, .long x3, .long x5] : List Value).toArray s 0 0 (inQ qm)) (F0 m 22 ls [.int s1, .ref (qm 0)]) := by
    intro vv p1 p3 p5 s1 h H locs hPm hD hS ls hl
    unfold f_M_circle_j22 at h
    refine va_put (D := (dC, dI)) (ci := 2) (v := .int s1) (ty := .int) (C := R_M) (T := T_M) (N := 15) hx hb hw in_M t_M t_M_ok nm_M hown hK hPm hD hS 0 rfl rfl 0 (by decide) (hw _ w_445) (fun _ h9 => h9) rfl (by decide +kernel) rfl rfl (Nat.le_of_ble_eq_true rfl) dM_circle_22 (fun H locs hPm hD hS => ?_)
    obtain ⟨v5, hv5, h⟩ := ob_some h
    have hPm : va_P (dC, dI) cls3 (mdW cL cI qm (ms_thrown vv s1)) H := hPm
    have hD : va_D (inQ qm) (mdW cL cI qm (ms_thrown vv s1)) := hD
    rw [Option.some.inj hv5] at hPm hD
    refine lv_aload_n hx hb dM_circle_25 rfl (lv_at hl 0 rfl) ?_
    refine va_get (D := (dC, dI)) (ci := 2) (v := .int (md_thrown v5)) (C := R_M) (T := T_M) (N := 15) hx hb hw in_M hown hK hPm 0 rfl rfl 0 (by decide) (hw _ w_445) (fun _ h9 => h9) rfl dM_circle_26 ?_
    refine lv_if_eq (tgt := 34) hx hb dM_circle_29 (by decide) (fun c6 => ?_) (fun c6 => ?_)
    · have h := it_t c6 h
      refine lv_aload_n hx hb dM_circle_34 rfl (lv_at hl 0 rfl) ?_
      refine va_get (D := (dC, dI)) (ci := 2) (v := .int (md_shapes v5)) (C := R_M) (T := T_M) (N := 15) hx hb hw in_M hown hK hPm 0 rfl rfl 1 (by decide) (hw _ w_446) (fun _ h9 => h9) rfl dM_circle_35 ?_
      refine lv_bipush (v := 40) hx hb dM_circle_38 (by decide) ?_
      refine lv_icmp_ne (tgt := 45) hx hb dM_circle_40 (by decide) (fun c7 => ?_) (fun c7 => ?_)
      · have h := it_f c7 h
        refine lv_aload_n hx hb dM_circle_45 rfl (lv_at hl 0 rfl) ?_
        refine lv_iconst (v := 0) hx hb dM_circle_46 (by decide) ?_
        refine lv_lload hx hb dM_circle_47 (lv_at hl 3 rfl) ?_
        obtain ⟨u8, hu8, h⟩ := ob_some h
        refine mu_call (va_runV (As := [.int (0 : Int32), .long p5]) (rest := []) ⟨hx, hb, hml, hown, hw⟩ (k_M_begin l dC dI cL cI qm v5 (0 : Int32) p5 u8 hu8) (cwV 2 hw (gV w_508 w_510 wp_6 w_2 w_511) rfl rfl rfl (by decide +kernel) ⟨Nat.le_of_ble_eq_true rfl, Nat.le_of_ble_eq_true rfl⟩) ⟨rd_blind, va_recv hK hPm (ci := 2) (q0 := 0) rfl rfl, rd_pre ⟨hPm, hD⟩ hK⟩ rfl rfl hl.1 rfl (lv_room (Nat.le_of_ble_eq_true rfl)) dM_circle_49 ⟨Nat.le_of_ble_eq_true rfl, Nat.le_of_ble_eq_true rfl⟩) hS (fun _ z => z) (fun H locs hPm hS _ _ => ?_)
        have hD := md_D (u8.2) hD
        refine lv_istore (lv' := [(7, .int u8.1), (0, .ref (qm 0)), (1, .long p1), (3, .long p3), (5, .long p5)]) hx hb dM_circle_52 hl (by decide) rfl (fun ls hl => ?_)
        refine lv_aload_n hx hb dM_circle_54 rfl (lv_at hl 1 rfl) ?_
        refine lv_iload hx hb dM_circle_55 (lv_at hl 0 rfl) ?_
        refine lv_lload_n hx hb dM_circle_57 rfl (lv_at hl 2 rfl) ?_
        refine lv_lload_n hx hb dM_circle_58 rfl (lv_at hl 3 rfl) ?_
        obtain ⟨u9, hu9, h⟩ := ob_some h
        refine mu_call (va_runV (As := [.int u8.1, .long p1, .long p3]) (rest := []) ⟨hx, hb, hml, hown, hw⟩ (k_M_add l dC dI cL cI qm u8.2 u8.1 p1 p3 u9 hu9) (cwV 3 hw (gV w_512 w_514 wp_7 w_2 w_515) rfl rfl rfl (by decide +kernel) ⟨Nat.le_of_ble_eq_true rfl, Nat.le_of_ble_eq_true rfl⟩) ⟨rd_blind, va_recv hK hPm (ci := 2) (q0 := 0) rfl rfl, rd_pre ⟨hPm, hD⟩ hK⟩ rfl rfl hl.1 rfl (lv_room (Nat.le_of_ble_eq_true rfl)) dM_circle_59 ⟨Nat.le_of_ble_eq_true rfl, Nat.le_of_ble_eq_true rfl⟩) hS (fun _ z => z) (fun H locs hPm hS _ _ => ?_)
        have hD := md_D (u9) hD
        refine lv_iload hx hb dM_circle_62 (lv_at hl 0 rfl) ?_
        have h := Option.some.inj h
        subst h
        exact W.iret hx hb hr (fun t ht hW => ⟨rfl, by rw [ht]; exact hPm, hS.F ht⟩) hS.2.2 dM_circle_64
      · have h := it_t c7 h
        refine lv_iconst (v := -1) hx hb dM_circle_43 (by decide) ?_
        have h := Option.some.inj h
        subst h
        exact W.iret hx hb hr (fun t ht hW => ⟨rfl, by rw [ht]; exact hPm, hS.F ht⟩) hS.2.2 dM_circle_44
    · have h := it_f c6 h
      refine lv_iconst (v := 0) hx hb dM_circle_32 (by decide) ?_
      have h := Option.some.inj h
      subst h
      exact W.iret hx hb hr (fun t ht hW => ⟨rfl, by rw [ht]; exact hPm, hS.F ht⟩) hS.2.2 dM_circle_33
  have k21 : ∀ (vv : MV) (p1 : Int64) (p3 : Int64) (p5 : Int64), f_M_circle_j21 vv p1 p3 p5 = some r → ∀ (H : Heap) (locs : List Loc), va_P (dC, dI) cls3 (mdW cL cI qm vv) H → va_D (inQ qm) (mdW cL cI qm vv) → va_S (inQ qm) s.heap H locs → ∀ (ls : Array Slot), lv_has ls 8 [(0, .ref (qm 0)), (1, .long p1), (3, .long p3), (5, .long p5)] → W p l e (headSpec wsM_circle ({ frames := 1, cells := 0, slots := 0, locals := 25 })).room s m ([.ref (qm 0), .long x1, .long x3, .long x5] : List Value).toArray below meth c H locs 0 0 (MQ below (mu_Q (some (.int r.1)) (dC, dI) cls3 (mdW cL cI qm r.2) (inQ qm)) ([.ref (qm 0), .long x1, .long x3, .long x5] : List Value).toArray s 0 0 (inQ qm)) (F0 m 21 ls [.ref (qm 0)]) := by
    intro vv p1 p3 p5 h H locs hPm hD hS ls hl
    unfold f_M_circle_j21 at h
    refine lv_iconst (v := 1) hx hb dM_circle_21 (by decide) ?_
    exact k22 vv p1 p3 p5 (1 : Int32) h H locs hPm hD hS ls (lv_sub hl [0, 1, 2, 3] rfl)
  have hS : va_S (inQ qm) s.heap s.heap [] := va_S.rf
  obtain ⟨H, hH⟩ : ∃ H : Heap, H = s.heap := ⟨_, rfl⟩
  obtain ⟨locs, hlocs⟩ : ∃ L : List Loc, L = [] := ⟨_, rfl⟩
  suffices hgo : W p l e (headSpec wsM_circle ({ frames := 1, cells := 0, slots := 0, locals := 25 })).room s m ([.ref (qm 0), .long x1, .long x3, .long x5] : List Value).toArray below meth c H locs 0 0 (MQ below (mu_Q (some (.int r.1)) (dC, dI) cls3 (mdW cL cI qm r.2) (inQ qm)) ([.ref (qm 0), .long x1, .long x3, .long x5] : List Value).toArray s 0 0 (inQ qm)) (F0 m 0 ls []) by rw [hH, hlocs] at hgo; exact hgo
  rw [← hH] at hPm
  have hS : va_S (inQ qm) s.heap H locs := by rw [hH, hlocs]; exact hS
  clear hH hlocs
  unfold f_M_circle at h
  refine lv_aload_n hx hb dM_circle_0 rfl (lv_at hl 0 rfl) ?_
  refine lv_lload_n hx hb dM_circle_1 rfl (lv_at hl 1 rfl) ?_
  refine lv_lload_n hx hb dM_circle_2 rfl (lv_at hl 2 rfl) ?_
  obtain ⟨u1, hu1, h⟩ := ob_some h
  refine vp_callSi (va_Run.run (va_runS (As := [.long x1, .long x3]) (rest := [.ref (qm 0)]) ⟨hx, hb, hml, hown, hw⟩ (k_M_isPlace l dC dI cL cI x1 x3 u1 hu1) (va_cwS 2 hw (gS w_499 w_500 w_2 w_501) rfl rfl rfl (by decide +kernel) ⟨Nat.le_of_ble_eq_true rfl, Nat.le_of_ble_eq_true rfl⟩) ⟨rd_blind, rd_pre trivial hK⟩ rfl rfl hl.1 rfl (lv_room (Nat.le_of_ble_eq_true rfl)) dM_circle_3 ⟨Nat.le_of_ble_eq_true rfl, Nat.le_of_ble_eq_true rfl⟩)) (fun z hz => ?_)
  rw [hz]; clear hz
  refine lv_if_eq (tgt := 21) hx hb dM_circle_6 (by decide) (fun c2 => ?_) (fun c2 => ?_)
  · have h := it_t c2 h
    exact k21 v x1 x3 x5 h H locs hPm hD hS ls (lv_sub hl [0, 1, 2, 3] rfl)
  · have h := it_f c2 h
    refine lv_lload hx hb dM_circle_9 (lv_at hl 3 rfl) ?_
    obtain ⟨u3, hu3, h⟩ := ob_some h
    refine vp_callSi (va_Run.run (va_runS (As := [.long x5]) (rest := [.ref (qm 0)]) ⟨hx, hb, hml, hown, hw⟩ (k_M_isRadius l dC dI cL cI x5 u3 hu3) (va_cwS 1 hw (gS w_504 w_505 w_2 w_506) rfl rfl rfl (by decide +kernel) ⟨Nat.le_of_ble_eq_true rfl, Nat.le_of_ble_eq_true rfl⟩) ⟨rd_blind, rd_pre trivial hK⟩ rfl rfl hl.1 rfl (lv_room (Nat.le_of_ble_eq_true rfl)) dM_circle_11 ⟨Nat.le_of_ble_eq_true rfl, Nat.le_of_ble_eq_true rfl⟩)) (fun z hz => ?_)
    rw [hz]; clear hz
    refine lv_if_eq (tgt := 21) hx hb dM_circle_14 (by decide) (fun c4 => ?_) (fun c4 => ?_)
    · have h := it_t c4 h
      exact k21 v x1 x3 x5 h H locs hPm hD hS ls (lv_sub hl [0, 1, 2, 3] rfl)
    · have h := it_f c4 h
      refine lv_iconst (v := 0) hx hb dM_circle_17 (by decide) ?_
      refine lv_goto (tgt := 22) hx hb dM_circle_18 (by decide) ?_
      exact k22 v x1 x3 x5 (0 : Int32) h H locs hPm hD hS ls (lv_sub hl [0, 1, 2, 3] rfl)
theorem dM_box_0 : decode cM_box 0 = .ok (.lload_n 1, 1) := by decide +kernel
theorem dM_box_1 : decode cM_box 1 = .ok (.lload_n 3, 1) := by decide +kernel
theorem dM_box_2 : decode cM_box 2 = .ok (.invokestatic 67, 3) := by decide +kernel
theorem dM_box_5 : decode cM_box 5 = .ok (.ifCond .eq 68, 3) := by decide +kernel
theorem dM_box_8 : decode cM_box 8 = .ok (.lload 5, 2) := by decide +kernel
theorem dM_box_10 : decode cM_box 10 = .ok (.lconst 0, 1) := by decide +kernel
theorem dM_box_11 : decode cM_box 11 = .ok (.lcmp, 1) := by decide +kernel
theorem dM_box_12 : decode cM_box 12 = .ok (.ifCond .lt 61, 3) := by decide +kernel
theorem dM_box_15 : decode cM_box 15 = .ok (.lload 5, 2) := by decide +kernel
theorem dM_box_17 : decode cM_box 17 = .ok (.ldc2_w 58, 3) := by decide +kernel
theorem dM_box_20 : decode cM_box 20 = .ok (.lcmp, 1) := by decide +kernel
theorem dM_box_21 : decode cM_box 21 = .ok (.ifCond .gt 52, 3) := by decide +kernel
theorem dM_box_24 : decode cM_box 24 = .ok (.lload 7, 2) := by decide +kernel
theorem dM_box_26 : decode cM_box 26 = .ok (.lconst 0, 1) := by decide +kernel
theorem dM_box_27 : decode cM_box 27 = .ok (.lcmp, 1) := by decide +kernel
theorem dM_box_28 : decode cM_box 28 = .ok (.ifCond .lt 45, 3) := by decide +kernel
theorem dM_box_31 : decode cM_box 31 = .ok (.lload 7, 2) := by decide +kernel
theorem dM_box_33 : decode cM_box 33 = .ok (.ldc2_w 58, 3) := by decide +kernel
theorem dM_box_36 : decode cM_box 36 = .ok (.lcmp, 1) := by decide +kernel
theorem dM_box_37 : decode cM_box 37 = .ok (.ifCond .gt 36, 3) := by decide +kernel
theorem dM_box_40 : decode cM_box 40 = .ok (.lload 9, 2) := by decide +kernel
theorem dM_box_42 : decode cM_box 42 = .ok (.lconst 0, 1) := by decide +kernel
theorem dM_box_43 : decode cM_box 43 = .ok (.lcmp, 1) := by decide +kernel
theorem dM_box_44 : decode cM_box 44 = .ok (.ifCond .lt 29, 3) := by decide +kernel
theorem dM_box_47 : decode cM_box 47 = .ok (.lload 9, 2) := by decide +kernel
theorem dM_box_49 : decode cM_box 49 = .ok (.lload 5, 2) := by decide +kernel
theorem dM_box_51 : decode cM_box 51 = .ok (.lload 9, 2) := by decide +kernel
theorem dM_box_53 : decode cM_box 53 = .ok (.lsub, 1) := by decide +kernel
theorem dM_box_54 : decode cM_box 54 = .ok (.lcmp, 1) := by decide +kernel
theorem dM_box_55 : decode cM_box 55 = .ok (.ifCond .gt 18, 3) := by decide +kernel
theorem dM_box_58 : decode cM_box 58 = .ok (.lload 9, 2) := by decide +kernel
theorem dM_box_60 : decode cM_box 60 = .ok (.lload 7, 2) := by decide +kernel
theorem dM_box_62 : decode cM_box 62 = .ok (.lload 9, 2) := by decide +kernel
theorem dM_box_64 : decode cM_box 64 = .ok (.lsub, 1) := by decide +kernel
theorem dM_box_65 : decode cM_box 65 = .ok (.lcmp, 1) := by decide +kernel
theorem dM_box_66 : decode cM_box 66 = .ok (.ifCond .gt 7, 3) := by decide +kernel
theorem dM_box_69 : decode cM_box 69 = .ok (.iconst 1, 1) := by decide +kernel
theorem dM_box_70 : decode cM_box 70 = .ok (.goto 4, 3) := by decide +kernel
theorem dM_box_73 : decode cM_box 73 = .ok (.iconst 0, 1) := by decide +kernel
theorem dM_box_74 : decode cM_box 74 = .ok (.istore 11, 2) := by decide +kernel
theorem dM_box_76 : decode cM_box 76 = .ok (.aload_n 0, 1) := by decide +kernel
theorem dM_box_77 : decode cM_box 77 = .ok (.iload 11, 2) := by decide +kernel
theorem dM_box_79 : decode cM_box 79 = .ok (.ifCond .eq 21, 3) := by decide +kernel
theorem dM_box_82 : decode cM_box 82 = .ok (.lload_n 1, 1) := by decide +kernel
theorem dM_box_83 : decode cM_box 83 = .ok (.lload 5, 2) := by decide +kernel
theorem dM_box_85 : decode cM_box 85 = .ok (.ladd, 1) := by decide +kernel
theorem dM_box_86 : decode cM_box 86 = .ok (.lload_n 3, 1) := by decide +kernel
theorem dM_box_87 : decode cM_box 87 = .ok (.lload 7, 2) := by decide +kernel
theorem dM_box_89 : decode cM_box 89 = .ok (.ladd, 1) := by decide +kernel
theorem dM_box_90 : decode cM_box 90 = .ok (.invokestatic 67, 3) := by decide +kernel
theorem dM_box_93 : decode cM_box 93 = .ok (.ifCond .eq 7, 3) := by decide +kernel
theorem dM_box_96 : decode cM_box 96 = .ok (.iconst 0, 1) := by decide +kernel
theorem dM_box_97 : decode cM_box 97 = .ok (.goto 4, 3) := by decide +kernel
theorem dM_box_100 : decode cM_box 100 = .ok (.iconst 1, 1) := by decide +kernel
theorem dM_box_101 : decode cM_box 101 = .ok (.putfield 50, 3) := by decide +kernel
theorem dM_box_104 : decode cM_box 104 = .ok (.aload_n 0, 1) := by decide +kernel
theorem dM_box_105 : decode cM_box 105 = .ok (.getfield 50, 3) := by decide +kernel
theorem dM_box_108 : decode cM_box 108 = .ok (.ifCond .eq 5, 3) := by decide +kernel
theorem dM_box_111 : decode cM_box 111 = .ok (.iconst 0, 1) := by decide +kernel
theorem dM_box_112 : decode cM_box 112 = .ok (.ireturn, 1) := by decide +kernel
theorem dM_box_113 : decode cM_box 113 = .ok (.aload_n 0, 1) := by decide +kernel
theorem dM_box_114 : decode cM_box 114 = .ok (.getfield 60, 3) := by decide +kernel
theorem dM_box_117 : decode cM_box 117 = .ok (.bipush 40, 2) := by decide +kernel
theorem dM_box_119 : decode cM_box 119 = .ok (.if_icmp .ne 5, 3) := by decide +kernel
theorem dM_box_122 : decode cM_box 122 = .ok (.iconst (-1), 1) := by decide +kernel
theorem dM_box_123 : decode cM_box 123 = .ok (.ireturn, 1) := by decide +kernel
theorem dM_box_124 : decode cM_box 124 = .ok (.aload_n 0, 1) := by decide +kernel
theorem dM_box_125 : decode cM_box 125 = .ok (.iconst 1, 1) := by decide +kernel
theorem dM_box_126 : decode cM_box 126 = .ok (.lload 9, 2) := by decide +kernel
theorem dM_box_128 : decode cM_box 128 = .ok (.invokevirtual 75, 3) := by decide +kernel
theorem dM_box_131 : decode cM_box 131 = .ok (.istore 12, 2) := by decide +kernel
theorem dM_box_133 : decode cM_box 133 = .ok (.aload_n 0, 1) := by decide +kernel
theorem dM_box_134 : decode cM_box 134 = .ok (.iload 12, 2) := by decide +kernel
theorem dM_box_136 : decode cM_box 136 = .ok (.lload_n 1, 1) := by decide +kernel
theorem dM_box_137 : decode cM_box 137 = .ok (.lload 9, 2) := by decide +kernel
theorem dM_box_139 : decode cM_box 139 = .ok (.ladd, 1) := by decide +kernel
theorem dM_box_140 : decode cM_box 140 = .ok (.lload_n 3, 1) := by decide +kernel
theorem dM_box_141 : decode cM_box 141 = .ok (.lload 9, 2) := by decide +kernel
theorem dM_box_143 : decode cM_box 143 = .ok (.ladd, 1) := by decide +kernel
theorem dM_box_144 : decode cM_box 144 = .ok (.invokevirtual 79, 3) := by decide +kernel
theorem dM_box_147 : decode cM_box 147 = .ok (.aload_n 0, 1) := by decide +kernel
theorem dM_box_148 : decode cM_box 148 = .ok (.iload 12, 2) := by decide +kernel
theorem dM_box_150 : decode cM_box 150 = .ok (.lload_n 1, 1) := by decide +kernel
theorem dM_box_151 : decode cM_box 151 = .ok (.lload 5, 2) := by decide +kernel
theorem dM_box_153 : decode cM_box 153 = .ok (.ladd, 1) := by decide +kernel
theorem dM_box_154 : decode cM_box 154 = .ok (.lload 9, 2) := by decide +kernel
theorem dM_box_156 : decode cM_box 156 = .ok (.lsub, 1) := by decide +kernel
theorem dM_box_157 : decode cM_box 157 = .ok (.lload_n 3, 1) := by decide +kernel
theorem dM_box_158 : decode cM_box 158 = .ok (.lload 7, 2) := by decide +kernel
theorem dM_box_160 : decode cM_box 160 = .ok (.ladd, 1) := by decide +kernel
theorem dM_box_161 : decode cM_box 161 = .ok (.lload 9, 2) := by decide +kernel
theorem dM_box_163 : decode cM_box 163 = .ok (.lsub, 1) := by decide +kernel
theorem dM_box_164 : decode cM_box 164 = .ok (.invokevirtual 79, 3) := by decide +kernel
theorem dM_box_167 : decode cM_box 167 = .ok (.iload 12, 2) := by decide +kernel
theorem dM_box_169 : decode cM_box 169 = .ok (.ireturn, 1) := by decide +kernel
def f_M_box_j101 (vv : MV) (p1 : Int64) (p3 : Int64) (p5 : Int64) (p7 : Int64) (p9 : Int64) (s1 : Int32) : Option (Int32 × MV) := (some (ms_thrown vv s1)).bind fun v13 => (if (md_thrown v13) = 0 then (if (md_shapes v13) = (40 : Int32) then some ((-1 : Int32), v13) else (f_M_begin v13 (1 : Int32) p9).bind fun u16 => (f_M_add u16.2 u16.1 (p1 + p9) (p3 + p9)).bind fun u17 => (f_M_add u17 u16.1 ((p1 + p5) - p9) ((p3 + p7) - p9)).bind fun u18 => some (u16.1, u18)) else some ((0 : Int32), v13))
def f_M_box_j100 (vv : MV) (p1 : Int64) (p3 : Int64) (p5 : Int64) (p7 : Int64) (p9 : Int64) : Option (Int32 × MV) := (f_M_box_j101 vv p1 p3 p5 p7 p9 (1 : Int32))
def f_M_box_j74 (vv : MV) (p1 : Int64) (p3 : Int64) (p5 : Int64) (p7 : Int64) (p9 : Int64) (s0 : Int32) : Option (Int32 × MV) := (if s0 = 0 then (f_M_box_j100 vv p1 p3 p5 p7 p9) else (f_M_isPlace (p1 + p5) (p3 + p7)).bind fun u11 => (if u11 = 0 then (f_M_box_j100 vv p1 p3 p5 p7 p9) else (f_M_box_j101 vv p1 p3 p5 p7 p9 (0 : Int32))))
def f_M_box_j73 (vv : MV) (p1 : Int64) (p3 : Int64) (p5 : Int64) (p7 : Int64) (p9 : Int64) : Option (Int32 × MV) := (f_M_box_j74 vv p1 p3 p5 p7 p9 (0 : Int32))
def f_M_box (v : MV) (x1 : Int64) (x3 : Int64) (x5 : Int64) (x7 : Int64) (x9 : Int64) : Option (Int32 × MV) := (f_M_isPlace x1 x3).bind fun u1 => (if u1 = 0 then (f_M_box_j73 v x1 x3 x5 x7 x9) else (if (lg_cmp x5 (0 : Int64)) < 0 then (f_M_box_j73 v x1 x3 x5 x7 x9) else (if 0 < (lg_cmp x5 (1000000000 : Int64)) then (f_M_box_j73 v x1 x3 x5 x7 x9) else (if (lg_cmp x7 (0 : Int64)) < 0 then (f_M_box_j73 v x1 x3 x5 x7 x9) else (if 0 < (lg_cmp x7 (1000000000 : Int64)) then (f_M_box_j73 v x1 x3 x5 x7 x9) else (if (lg_cmp x9 (0 : Int64)) < 0 then (f_M_box_j73 v x1 x3 x5 x7 x9) else (if 0 < (lg_cmp x9 (x5 - x9)) then (f_M_box_j73 v x1 x3 x5 x7 x9) else (if 0 < (lg_cmp x9 (x7 - x9)) then (f_M_box_j73 v x1 x3 x5 x7 x9) else (f_M_box_j74 v x1 x3 x5 x7 x9 (1 : Int32))))))))))
set_option maxHeartbeats 4000000 in
set_option maxRecDepth 100000 in
theorem k_M_box (l : Launch) (dC : Nat → ClassId) (dI : Nat → Nat → Nat) (cL cI : ClassId) (qm : Nat → Nat) (v : MV) (x1 : Int64) (x3 : Int64) (x5 : Int64) (x7 : Int64) (x9 : Int64) (r : (Int32 × MV)) (h : f_M_box v x1 x3 x5 x7 x9 = some r) : Met l yM_box wsM_box ({ frames := 1, cells := 0, slots := 0, locals := 25 }) (rd_Pc [.ref (qm 0), .long x1, .long x3, .long x5, .long x7, .long x9] (fun H => va_P (dC, dI) cls3 (mdW cL cI qm v) H ∧ va_D (inQ qm) (mdW cL cI qm v)) (dC, dI) cls3 [(cL, .long), (cI, .int)]) (mu_Q (some (.int r.1)) (dC, dI) cls3 (mdW cL cI qm r.2) (inQ qm)) 0 0 (inQ qm) := by
  refine Met.ofW (cc := cM_box) (maxL := 13) (ret := (some .int)) (by decide) rfl ?_
  intro p e s m args below meth c s₁ B hml hv
  obtain ⟨rfl, ⟨hPm, hD⟩, hK⟩ := hv
  have hx := B.exec
  have hb := B.bytes
  have hr := B.returns
  have hw : ∀ w ∈ wG, w.before ([.ref (qm 0), .long x1, .long x3, .long x5, .long x7, .long x9] : List Value).toArray s = true := fun w hq => atoms_spec (ws := wsM_box) B.pre w (List.mem_cons_of_mem _ hq)
  have hown : s.vm.findClass R_M = some m.cls := findClass_of_methodNamed B.named
  have hlocks := B.notSynchronized
  have hl := lv_entry ([.ref (qm 0), .long x1, .long x3, .long x5, .long x7, .long x9] : List Value) (n := 13) (Nat.le_of_ble_eq_true rfl)
  rw [lg_entry_eq]
  generalize (lg_sl ([.ref (qm 0), .long x1, .long x3, .long x5, .long x7, .long x9] : List Value) ++ List.replicate (13 - (lg_sl ([.ref (qm 0), .long x1, .long x3, .long x5, .long x7, .long x9] : List Value)).length) Slot.unset).toArray = ls at hl ⊢
  have hl : lv_has ls 13 [(0, .ref (qm 0)), (1, .long x1), (3, .long x3), (5, .long x5), (7, .long x7), (9, .long x9)] := hl
  have k101 : ∀ (vv : MV) (p1 : Int64) (p3 : Int64) (p5 : Int64) (p7 : Int64) (p9 : Int64) (s1 : Int32), f_M_box_j101 vv p1 p3 p5 p7 p9 s1 = some r → ∀ (H : Heap) (locs : List Loc), va_P (dC, dI) cls3 (mdW cL cI qm vv) H → va_D (inQ qm) (mdW cL cI qm vv) → va_S (inQ qm) s.heap H locs → ∀ (ls : Array Slot), lv_has ls 13 [(0, .ref (qm 0)), (1, .long p1), (3, .long p3), (5, .long p5), (7, .long p7), (9, .long p9)] → W p l e (headSpec wsM_box ({ frames := 1, cells := 0, slots := 0, locals := 25 })).room s m ([.ref (qm 0), .long x1, .long x3, .long x5, .long x7, .long x9] : List Value).toArray below meth c H locs 0 0 (MQ below (mu_Q (some (.int r.1)) (dC, dI) cls3 (mdW cL cI qm r.2) (inQ qm)) ([.ref (qm 0), .long x1, .long x3, .long x5, .long x7, .long x9] : List Value).toArray s 0 0 (inQ qm)) (F0 m 101 ls [.int s1, .ref (qm 0)]) := by
    intro vv p1 p3 p5 p7 p9 s1 h H locs hPm hD hS ls hl
    unfold f_M_box_j101 at h
    refine va_put (D := (dC, dI)) (ci := 2) (v := .int s1) (ty := .int) (C := R_M) (T := T_M) (N := 15) hx hb hw in_M t_M t_M_ok nm_M hown hK hPm hD hS 0 rfl rfl 0 (by decide) (hw _ w_445) (fun _ h9 => h9) rfl (by decide +kernel) rfl rfl (Nat.le_of_ble_eq_true rfl) dM_box_101 (fun H locs hPm hD hS => ?_)
    obtain ⟨v13, hv13, h⟩ := ob_some h
    have hPm : va_P (dC, dI) cls3 (mdW cL cI qm (ms_thrown vv s1)) H := hPm
    have hD : va_D (inQ qm) (mdW cL cI qm (ms_thrown vv s1)) := hD
    rw [Option.some.inj hv13] at hPm hD
    refine lv_aload_n hx hb dM_box_104 rfl (lv_at hl 0 rfl) ?_
    refine va_get (D := (dC, dI)) (ci := 2) (v := .int (md_thrown v13)) (C := R_M) (T := T_M) (N := 15) hx hb hw in_M hown hK hPm 0 rfl rfl 0 (by decide) (hw _ w_445) (fun _ h9 => h9) rfl dM_box_105 ?_
    refine lv_if_eq (tgt := 113) hx hb dM_box_108 (by decide) (fun c14 => ?_) (fun c14 => ?_)
    · have h := it_t c14 h
      refine lv_aload_n hx hb dM_box_113 rfl (lv_at hl 0 rfl) ?_
      refine va_get (D := (dC, dI)) (ci := 2) (v := .int (md_shapes v13)) (C := R_M) (T := T_M) (N := 15) hx hb hw in_M hown hK hPm 0 rfl rfl 1 (by decide) (hw _ w_446) (fun _ h9 => h9) rfl dM_box_114 ?_
      refine lv_bipush (v := 40) hx hb dM_box_117 (by decide) ?_
      refine lv_icmp_ne (tgt := 124) hx hb dM_box_119 (by decide) (fun c15 => ?_) (fun c15 => ?_)
      · have h := it_f c15 h
        refine lv_aload_n hx hb dM_box_124 rfl (lv_at hl 0 rfl) ?_
        refine lv_iconst (v := 1) hx hb dM_box_125 (by decide) ?_
        refine lv_lload hx hb dM_box_126 (lv_at hl 5 rfl) ?_
        obtain ⟨u16, hu16, h⟩ := ob_some h
        refine mu_call (va_runV (As := [.int (1 : Int32), .long p9]) (rest := []) ⟨hx, hb, hml, hown, hw⟩ (k_M_begin l dC dI cL cI qm v13 (1 : Int32) p9 u16 hu16) (cwV 2 hw (gV w_508 w_510 wp_6 w_2 w_511) rfl rfl rfl (by decide +kernel) ⟨Nat.le_of_ble_eq_true rfl, Nat.le_of_ble_eq_true rfl⟩) ⟨rd_blind, va_recv hK hPm (ci := 2) (q0 := 0) rfl rfl, rd_pre ⟨hPm, hD⟩ hK⟩ rfl rfl hl.1 rfl (lv_room (Nat.le_of_ble_eq_true rfl)) dM_box_128 ⟨Nat.le_of_ble_eq_true rfl, Nat.le_of_ble_eq_true rfl⟩) hS (fun _ z => z) (fun H locs hPm hS _ _ => ?_)
        have hD := md_D (u16.2) hD
        refine lv_istore (lv' := [(12, .int u16.1), (0, .ref (qm 0)), (1, .long p1), (3, .long p3), (5, .long p5), (7, .long p7), (9, .long p9)]) hx hb dM_box_131 hl (by decide) rfl (fun ls hl => ?_)
        refine lv_aload_n hx hb dM_box_133 rfl (lv_at hl 1 rfl) ?_
        refine lv_iload hx hb dM_box_134 (lv_at hl 0 rfl) ?_
        refine lv_lload_n hx hb dM_box_136 rfl (lv_at hl 2 rfl) ?_
        refine lv_lload hx hb dM_box_137 (lv_at hl 6 rfl) ?_
        refine lv_ladd hx hb dM_box_139 ?_
        refine lv_lload_n hx hb dM_box_140 rfl (lv_at hl 3 rfl) ?_
        refine lv_lload hx hb dM_box_141 (lv_at hl 6 rfl) ?_
        refine lv_ladd hx hb dM_box_143 ?_
        obtain ⟨u17, hu17, h⟩ := ob_some h
        refine mu_call (va_runV (As := [.int u16.1, .long (p1 + p9), .long (p3 + p9)]) (rest := []) ⟨hx, hb, hml, hown, hw⟩ (k_M_add l dC dI cL cI qm u16.2 u16.1 (p1 + p9) (p3 + p9) u17 hu17) (cwV 3 hw (gV w_512 w_514 wp_7 w_2 w_515) rfl rfl rfl (by decide +kernel) ⟨Nat.le_of_ble_eq_true rfl, Nat.le_of_ble_eq_true rfl⟩) ⟨rd_blind, va_recv hK hPm (ci := 2) (q0 := 0) rfl rfl, rd_pre ⟨hPm, hD⟩ hK⟩ rfl rfl hl.1 rfl (lv_room (Nat.le_of_ble_eq_true rfl)) dM_box_144 ⟨Nat.le_of_ble_eq_true rfl, Nat.le_of_ble_eq_true rfl⟩) hS (fun _ z => z) (fun H locs hPm hS _ _ => ?_)
        have hD := md_D (u17) hD
        refine lv_aload_n hx hb dM_box_147 rfl (lv_at hl 1 rfl) ?_
        refine lv_iload hx hb dM_box_148 (lv_at hl 0 rfl) ?_
        refine lv_lload_n hx hb dM_box_150 rfl (lv_at hl 2 rfl) ?_
        refine lv_lload hx hb dM_box_151 (lv_at hl 4 rfl) ?_
        refine lv_ladd hx hb dM_box_153 ?_
        refine lv_lload hx hb dM_box_154 (lv_at hl 6 rfl) ?_
        refine lv_lsub hx hb dM_box_156 ?_
        refine lv_lload_n hx hb dM_box_157 rfl (lv_at hl 3 rfl) ?_
        refine lv_lload hx hb dM_box_158 (lv_at hl 5 rfl) ?_
        refine lv_ladd hx hb dM_box_160 ?_
        refine lv_lload hx hb dM_box_161 (lv_at hl 6 rfl) ?_
        refine lv_lsub hx hb dM_box_163 ?_
        obtain ⟨u18, hu18, h⟩ := ob_some h
        refine mu_call (va_runV (As := [.int u16.1, .long ((p1 + p5) - p9), .long ((p3 + p7) - p9)]) (rest := []) ⟨hx, hb, hml, hown, hw⟩ (k_M_add l dC dI cL cI qm u17 u16.1 ((p1 + p5) - p9) ((p3 + p7) - p9) u18 hu18) (cwV 3 hw (gV w_512 w_514 wp_7 w_2 w_515) rfl rfl rfl (by decide +kernel) ⟨Nat.le_of_ble_eq_true rfl, Nat.le_of_ble_eq_true rfl⟩) ⟨rd_blind, va_recv hK hPm (ci := 2) (q0 := 0) rfl rfl, rd_pre ⟨hPm, hD⟩ hK⟩ rfl rfl hl.1 rfl (lv_room (Nat.le_of_ble_eq_true rfl)) dM_box_164 ⟨Nat.le_of_ble_eq_true rfl, Nat.le_of_ble_eq_true rfl⟩) hS (fun _ z => z) (fun H locs hPm hS _ _ => ?_)
        have hD := md_D (u18) hD
        refine lv_iload hx hb dM_box_167 (lv_at hl 0 rfl) ?_
        have h := Option.some.inj h
        subst h
        exact W.iret hx hb hr (fun t ht hW => ⟨rfl, by rw [ht]; exact hPm, hS.F ht⟩) hS.2.2 dM_box_169
      · have h := it_t c15 h
        refine lv_iconst (v := -1) hx hb dM_box_122 (by decide) ?_
        have h := Option.some.inj h
        subst h
        exact W.iret hx hb hr (fun t ht hW => ⟨rfl, by rw [ht]; exact hPm, hS.F ht⟩) hS.2.2 dM_box_123
    · have h := it_f c14 h
      refine lv_iconst (v := 0) hx hb dM_box_111 (by decide) ?_
      have h := Option.some.inj h
      subst h
      exact W.iret hx hb hr (fun t ht hW => ⟨rfl, by rw [ht]; exact hPm, hS.F ht⟩) hS.2.2 dM_box_112
  have k100 : ∀ (vv : MV) (p1 : Int64) (p3 : Int64) (p5 : Int64) (p7 : Int64) (p9 : Int64), f_M_box_j100 vv p1 p3 p5 p7 p9 = some r → ∀ (H : Heap) (locs : List Loc), va_P (dC, dI) cls3 (mdW cL cI qm vv) H → va_D (inQ qm) (mdW cL cI qm vv) → va_S (inQ qm) s.heap H locs → ∀ (ls : Array Slot), lv_has ls 13 [(0, .ref (qm 0)), (1, .long p1), (3, .long p3), (5, .long p5), (7, .long p7), (9, .long p9)] → W p l e (headSpec wsM_box ({ frames := 1, cells := 0, slots := 0, locals := 25 })).room s m ([.ref (qm 0), .long x1, .long x3, .long x5, .long x7, .long x9] : List Value).toArray below meth c H locs 0 0 (MQ below (mu_Q (some (.int r.1)) (dC, dI) cls3 (mdW cL cI qm r.2) (inQ qm)) ([.ref (qm 0), .long x1, .long x3, .long x5, .long x7, .long x9] : List Value).toArray s 0 0 (inQ qm)) (F0 m 100 ls [.ref (qm 0)]) := by
    intro vv p1 p3 p5 p7 p9 h H locs hPm hD hS ls hl
    unfold f_M_box_j100 at h
    refine lv_iconst (v := 1) hx hb dM_box_100 (by decide) ?_
    exact k101 vv p1 p3 p5 p7 p9 (1 : Int32) h H locs hPm hD hS ls (lv_sub hl [0, 1, 2, 3, 4, 5] rfl)
  have k74 : ∀ (vv : MV) (p1 : Int64) (p3 : Int64) (p5 : Int64) (p7 : Int64) (p9 : Int64) (s0 : Int32), f_M_box_j74 vv p1 p3 p5 p7 p9 s0 = some r → ∀ (H : Heap) (locs : List Loc), va_P (dC, dI) cls3 (mdW cL cI qm vv) H → va_D (inQ qm) (mdW cL cI qm vv) → va_S (inQ qm) s.heap H locs → ∀ (ls : Array Slot), lv_has ls 13 [(0, .ref (qm 0)), (1, .long p1), (3, .long p3), (5, .long p5), (7, .long p7), (9, .long p9)] → W p l e (headSpec wsM_box ({ frames := 1, cells := 0, slots := 0, locals := 25 })).room s m ([.ref (qm 0), .long x1, .long x3, .long x5, .long x7, .long x9] : List Value).toArray below meth c H locs 0 0 (MQ below (mu_Q (some (.int r.1)) (dC, dI) cls3 (mdW cL cI qm r.2) (inQ qm)) ([.ref (qm 0), .long x1, .long x3, .long x5, .long x7, .long x9] : List Value).toArray s 0 0 (inQ qm)) (F0 m 74 ls [.int s0]) := by
    intro vv p1 p3 p5 p7 p9 s0 h H locs hPm hD hS ls hl
    unfold f_M_box_j74 at h
    refine lv_istore (lv' := [(11, .int s0), (0, .ref (qm 0)), (1, .long p1), (3, .long p3), (5, .long p5), (7, .long p7), (9, .long p9)]) hx hb dM_box_74 hl (by decide) rfl (fun ls hl => ?_)
    refine lv_aload_n hx hb dM_box_76 rfl (lv_at hl 1 rfl) ?_
    refine lv_iload hx hb dM_box_77 (lv_at hl 0 rfl) ?_
    refine lv_if_eq (tgt := 100) hx hb dM_box_79 (by decide) (fun c10 => ?_) (fun c10 => ?_)
    · have h := it_t c10 h
      exact k100 vv p1 p3 p5 p7 p9 h H locs hPm hD hS ls (lv_sub hl [1, 2, 3, 4, 5, 6] rfl)
    · have h := it_f c10 h
      refine lv_lload_n hx hb dM_box_82 rfl (lv_at hl 2 rfl) ?_
      refine lv_lload hx hb dM_box_83 (lv_at hl 4 rfl) ?_
      refine lv_ladd hx hb dM_box_85 ?_
      refine lv_lload_n hx hb dM_box_86 rfl (lv_at hl 3 rfl) ?_
      refine lv_lload hx hb dM_box_87 (lv_at hl 5 rfl) ?_
      refine lv_ladd hx hb dM_box_89 ?_
      obtain ⟨u11, hu11, h⟩ := ob_some h
      refine vp_callSi (va_Run.run (va_runS (As := [.long (p1 + p5), .long (p3 + p7)]) (rest := [.ref (qm 0)]) ⟨hx, hb, hml, hown, hw⟩ (k_M_isPlace l dC dI cL cI (p1 + p5) (p3 + p7) u11 hu11) (va_cwS 2 hw (gS w_499 w_500 w_2 w_501) rfl rfl rfl (by decide +kernel) ⟨Nat.le_of_ble_eq_true rfl, Nat.le_of_ble_eq_true rfl⟩) ⟨rd_blind, rd_pre trivial hK⟩ rfl rfl hl.1 rfl (lv_room (Nat.le_of_ble_eq_true rfl)) dM_box_90 ⟨Nat.le_of_ble_eq_true rfl, Nat.le_of_ble_eq_true rfl⟩)) (fun z hz => ?_)
      rw [hz]; clear hz
      refine lv_if_eq (tgt := 100) hx hb dM_box_93 (by decide) (fun c12 => ?_) (fun c12 => ?_)
      · have h := it_t c12 h
        exact k100 vv p1 p3 p5 p7 p9 h H locs hPm hD hS ls (lv_sub hl [1, 2, 3, 4, 5, 6] rfl)
      · have h := it_f c12 h
        refine lv_iconst (v := 0) hx hb dM_box_96 (by decide) ?_
        refine lv_goto (tgt := 101) hx hb dM_box_97 (by decide) ?_
        exact k101 vv p1 p3 p5 p7 p9 (0 : Int32) h H locs hPm hD hS ls (lv_sub hl [1, 2, 3, 4, 5, 6] rfl)
  have k73 : ∀ (vv : MV) (p1 : Int64) (p3 : Int64) (p5 : Int64) (p7 : Int64) (p9 : Int64), f_M_box_j73 vv p1 p3 p5 p7 p9 = some r → ∀ (H : Heap) (locs : List Loc), va_P (dC, dI) cls3 (mdW cL cI qm vv) H → va_D (inQ qm) (mdW cL cI qm vv) → va_S (inQ qm) s.heap H locs → ∀ (ls : Array Slot), lv_has ls 13 [(0, .ref (qm 0)), (1, .long p1), (3, .long p3), (5, .long p5), (7, .long p7), (9, .long p9)] → W p l e (headSpec wsM_box ({ frames := 1, cells := 0, slots := 0, locals := 25 })).room s m ([.ref (qm 0), .long x1, .long x3, .long x5, .long x7, .long x9] : List Value).toArray below meth c H locs 0 0 (MQ below (mu_Q (some (.int r.1)) (dC, dI) cls3 (mdW cL cI qm r.2) (inQ qm)) ([.ref (qm 0), .long x1, .long x3, .long x5, .long x7, .long x9] : List Value).toArray s 0 0 (inQ qm)) (F0 m 73 ls []) := by
    intro vv p1 p3 p5 p7 p9 h H locs hPm hD hS ls hl
    unfold f_M_box_j73 at h
    refine lv_iconst (v := 0) hx hb dM_box_73 (by decide) ?_
    exact k74 vv p1 p3 p5 p7 p9 (0 : Int32) h H locs hPm hD hS ls (lv_sub hl [0, 1, 2, 3, 4, 5] rfl)
  have hS : va_S (inQ qm) s.heap s.heap [] := va_S.rf
  obtain ⟨H, hH⟩ : ∃ H : Heap, H = s.heap := ⟨_, rfl⟩
  obtain ⟨locs, hlocs⟩ : ∃ L : List Loc, L = [] := ⟨_, rfl⟩
  suffices hgo : W p l e (headSpec wsM_box ({ frames := 1, cells := 0, slots := 0, locals := 25 })).room s m ([.ref (qm 0), .long x1, .long x3, .long x5, .long x7, .long x9] : List Value).toArray below meth c H locs 0 0 (MQ below (mu_Q (some (.int r.1)) (dC, dI) cls3 (mdW cL cI qm r.2) (inQ qm)) ([.ref (qm 0), .long x1, .long x3, .long x5, .long x7, .long x9] : List Value).toArray s 0 0 (inQ qm)) (F0 m 0 ls []) by rw [hH, hlocs] at hgo; exact hgo
  rw [← hH] at hPm
  have hS : va_S (inQ qm) s.heap H locs := by rw [hH, hlocs]; exact hS
  clear hH hlocs
  unfold f_M_box at h
  refine lv_lload_n hx hb dM_box_0 rfl (lv_at hl 1 rfl) ?_
  refine lv_lload_n hx hb dM_box_1 rfl (lv_at hl 2 rfl) ?_
  obtain ⟨u1, hu1, h⟩ := ob_some h
  refine vp_callSi (va_Run.run (va_runS (As := [.long x1, .long x3]) (rest := []) ⟨hx, hb, hml, hown, hw⟩ (k_M_isPlace l dC dI cL cI x1 x3 u1 hu1) (va_cwS 2 hw (gS w_499 w_500 w_2 w_501) rfl rfl rfl (by decide +kernel) ⟨Nat.le_of_ble_eq_true rfl, Nat.le_of_ble_eq_true rfl⟩) ⟨rd_blind, rd_pre trivial hK⟩ rfl rfl hl.1 rfl (lv_room (Nat.le_of_ble_eq_true rfl)) dM_box_2 ⟨Nat.le_of_ble_eq_true rfl, Nat.le_of_ble_eq_true rfl⟩)) (fun z hz => ?_)
  rw [hz]; clear hz
  refine lv_if_eq (tgt := 73) hx hb dM_box_5 (by decide) (fun c2 => ?_) (fun c2 => ?_)
  · have h := it_t c2 h
    exact k73 v x1 x3 x5 x7 x9 h H locs hPm hD hS ls (lv_sub hl [0, 1, 2, 3, 4, 5] rfl)
  · have h := it_f c2 h
    refine lv_lload hx hb dM_box_8 (lv_at hl 3 rfl) ?_
    refine lv_lconst (v := 0) hx hb dM_box_10 (by decide) ?_
    refine W.lcmp hx hb dM_box_11 ?_
    refine lv_if_lt (tgt := 73) hx hb dM_box_12 (by decide) (fun c3 => ?_) (fun c3 => ?_)
    · have h := it_t c3 h
      exact k73 v x1 x3 x5 x7 x9 h H locs hPm hD hS ls (lv_sub hl [0, 1, 2, 3, 4, 5] rfl)
    · have h := it_f c3 h
      refine lv_lload hx hb dM_box_15 (lv_at hl 3 rfl) ?_
      refine lv_ldc2 (v := 1000000000) hx hb hown (hw _ w_507) dM_box_17 ?_
      refine W.lcmp hx hb dM_box_20 ?_
      refine lv_if_gt (tgt := 73) hx hb dM_box_21 (by decide) (fun c4 => ?_) (fun c4 => ?_)
      · have h := it_t c4 h
        exact k73 v x1 x3 x5 x7 x9 h H locs hPm hD hS ls (lv_sub hl [0, 1, 2, 3, 4, 5] rfl)
      · have h := it_f c4 h
        refine lv_lload hx hb dM_box_24 (lv_at hl 4 rfl) ?_
        refine lv_lconst (v := 0) hx hb dM_box_26 (by decide) ?_
        refine W.lcmp hx hb dM_box_27 ?_
        refine lv_if_lt (tgt := 73) hx hb dM_box_28 (by decide) (fun c5 => ?_) (fun c5 => ?_)
        · have h := it_t c5 h
          exact k73 v x1 x3 x5 x7 x9 h H locs hPm hD hS ls (lv_sub hl [0, 1, 2, 3, 4, 5] rfl)
        · have h := it_f c5 h
          refine lv_lload hx hb dM_box_31 (lv_at hl 4 rfl) ?_
          refine lv_ldc2 (v := 1000000000) hx hb hown (hw _ w_507) dM_box_33 ?_
          refine W.lcmp hx hb dM_box_36 ?_
          refine lv_if_gt (tgt := 73) hx hb dM_box_37 (by decide) (fun c6 => ?_) (fun c6 => ?_)
          · have h := it_t c6 h
            exact k73 v x1 x3 x5 x7 x9 h H locs hPm hD hS ls (lv_sub hl [0, 1, 2, 3, 4, 5] rfl)
          · have h := it_f c6 h
            refine lv_lload hx hb dM_box_40 (lv_at hl 5 rfl) ?_
            refine lv_lconst (v := 0) hx hb dM_box_42 (by decide) ?_
            refine W.lcmp hx hb dM_box_43 ?_
            refine lv_if_lt (tgt := 73) hx hb dM_box_44 (by decide) (fun c7 => ?_) (fun c7 => ?_)
            · have h := it_t c7 h
              exact k73 v x1 x3 x5 x7 x9 h H locs hPm hD hS ls (lv_sub hl [0, 1, 2, 3, 4, 5] rfl)
            · have h := it_f c7 h
              refine lv_lload hx hb dM_box_47 (lv_at hl 5 rfl) ?_
              refine lv_lload hx hb dM_box_49 (lv_at hl 3 rfl) ?_
              refine lv_lload hx hb dM_box_51 (lv_at hl 5 rfl) ?_
              refine lv_lsub hx hb dM_box_53 ?_
              refine W.lcmp hx hb dM_box_54 ?_
              refine lv_if_gt (tgt := 73) hx hb dM_box_55 (by decide) (fun c8 => ?_) (fun c8 => ?_)
              · have h := it_t c8 h
                exact k73 v x1 x3 x5 x7 x9 h H locs hPm hD hS ls (lv_sub hl [0, 1, 2, 3, 4, 5] rfl)
              · have h := it_f c8 h
                refine lv_lload hx hb dM_box_58 (lv_at hl 5 rfl) ?_
                refine lv_lload hx hb dM_box_60 (lv_at hl 4 rfl) ?_
                refine lv_lload hx hb dM_box_62 (lv_at hl 5 rfl) ?_
                refine lv_lsub hx hb dM_box_64 ?_
                refine W.lcmp hx hb dM_box_65 ?_
                refine lv_if_gt (tgt := 73) hx hb dM_box_66 (by decide) (fun c9 => ?_) (fun c9 => ?_)
                · have h := it_t c9 h
                  exact k73 v x1 x3 x5 x7 x9 h H locs hPm hD hS ls (lv_sub hl [0, 1, 2, 3, 4, 5] rfl)
                · have h := it_f c9 h
                  refine lv_iconst (v := 1) hx hb dM_box_69 (by decide) ?_
                  refine lv_goto (tgt := 74) hx hb dM_box_70 (by decide) ?_
                  exact k74 v x1 x3 x5 x7 x9 (1 : Int32) h H locs hPm hD hS ls (lv_sub hl [0, 1, 2, 3, 4, 5] rfl)
theorem dM_polygon_0 : decode cM_polygon 0 = .ok (.aload_n 0, 1) := by decide +kernel
theorem dM_polygon_1 : decode cM_polygon 1 = .ok (.iconst 0, 1) := by decide +kernel
theorem dM_polygon_2 : decode cM_polygon 2 = .ok (.putfield 50, 3) := by decide +kernel
theorem dM_polygon_5 : decode cM_polygon 5 = .ok (.aload_n 0, 1) := by decide +kernel
theorem dM_polygon_6 : decode cM_polygon 6 = .ok (.getfield 60, 3) := by decide +kernel
theorem dM_polygon_9 : decode cM_polygon 9 = .ok (.bipush 40, 2) := by decide +kernel
theorem dM_polygon_11 : decode cM_polygon 11 = .ok (.if_icmp .ne 7, 3) := by decide +kernel
theorem dM_polygon_14 : decode cM_polygon 14 = .ok (.iconst (-1), 1) := by decide +kernel
theorem dM_polygon_15 : decode cM_polygon 15 = .ok (.goto 9, 3) := by decide +kernel
theorem dM_polygon_18 : decode cM_polygon 18 = .ok (.aload_n 0, 1) := by decide +kernel
theorem dM_polygon_19 : decode cM_polygon 19 = .ok (.iconst 2, 1) := by decide +kernel
theorem dM_polygon_20 : decode cM_polygon 20 = .ok (.lconst 0, 1) := by decide +kernel
theorem dM_polygon_21 : decode cM_polygon 21 = .ok (.invokevirtual 75, 3) := by decide +kernel
theorem dM_polygon_24 : decode cM_polygon 24 = .ok (.ireturn, 1) := by decide +kernel
def f_M_polygon_j24 (vv : MV) (s0 : Int32) : Option (Int32 × MV) := some (s0, vv)
def f_M_polygon (v : MV) : Option (Int32 × MV) := (some (ms_thrown v (0 : Int32))).bind fun v1 => (if (md_shapes v1) = (40 : Int32) then (f_M_polygon_j24 v1 (-1 : Int32)) else (f_M_begin v1 (2 : Int32) (0 : Int64)).bind fun u3 => (f_M_polygon_j24 u3.2 u3.1))
set_option maxHeartbeats 4000000 in
set_option maxRecDepth 100000 in
theorem k_M_polygon (l : Launch) (dC : Nat → ClassId) (dI : Nat → Nat → Nat) (cL cI : ClassId) (qm : Nat → Nat) (v : MV) (r : (Int32 × MV)) (h : f_M_polygon v = some r) : Met l yM_polygon wsM_polygon ({ frames := 1, cells := 0, slots := 0, locals := 23 }) (rd_Pc [.ref (qm 0)] (fun H => va_P (dC, dI) cls3 (mdW cL cI qm v) H ∧ va_D (inQ qm) (mdW cL cI qm v)) (dC, dI) cls3 [(cL, .long), (cI, .int)]) (mu_Q (some (.int r.1)) (dC, dI) cls3 (mdW cL cI qm r.2) (inQ qm)) 0 0 (inQ qm) := by
  refine Met.ofW (cc := cM_polygon) (maxL := 1) (ret := (some .int)) (by decide) rfl ?_
  intro p e s m args below meth c s₁ B hml hv
  obtain ⟨rfl, ⟨hPm, hD⟩, hK⟩ := hv
  have hx := B.exec
  have hb := B.bytes
  have hr := B.returns
  have hw : ∀ w ∈ wG, w.before ([.ref (qm 0)] : List Value).toArray s = true := fun w hq => atoms_spec (ws := wsM_polygon) B.pre w (List.mem_cons_of_mem _ hq)
  have hown : s.vm.findClass R_M = some m.cls := findClass_of_methodNamed B.named
  have hlocks := B.notSynchronized
  have hl := lv_entry ([.ref (qm 0)] : List Value) (n := 1) (Nat.le_of_ble_eq_true rfl)
  rw [lg_entry_eq]
  generalize (lg_sl ([.ref (qm 0)] : List Value) ++ List.replicate (1 - (lg_sl ([.ref (qm 0)] : List Value)).length) Slot.unset).toArray = ls at hl ⊢
  have hl : lv_has ls 1 [(0, .ref (qm 0))] := hl
  have k24 : ∀ (vv : MV) (s0 : Int32), f_M_polygon_j24 vv s0 = some r → ∀ (H : Heap) (locs : List Loc), va_P (dC, dI) cls3 (mdW cL cI qm vv) H → va_D (inQ qm) (mdW cL cI qm vv) → va_S (inQ qm) s.heap H locs → ∀ (ls : Array Slot), lv_has ls 1 [] → W p l e (headSpec wsM_polygon ({ frames := 1, cells := 0, slots := 0, locals := 23 })).room s m ([.ref (qm 0)] : List Value).toArray below meth c H locs 0 0 (MQ below (mu_Q (some (.int r.1)) (dC, dI) cls3 (mdW cL cI qm r.2) (inQ qm)) ([.ref (qm 0)] : List Value).toArray s 0 0 (inQ qm)) (F0 m 24 ls [.int s0]) := by
    intro vv s0 h H locs hPm hD hS ls hl
    unfold f_M_polygon_j24 at h
    have h := Option.some.inj h
    subst h
    exact W.iret hx hb hr (fun t ht hW => ⟨rfl, by rw [ht]; exact hPm, hS.F ht⟩) hS.2.2 dM_polygon_24
  have hS : va_S (inQ qm) s.heap s.heap [] := va_S.rf
  obtain ⟨H, hH⟩ : ∃ H : Heap, H = s.heap := ⟨_, rfl⟩
  obtain ⟨locs, hlocs⟩ : ∃ L : List Loc, L = [] := ⟨_, rfl⟩
  suffices hgo : W p l e (headSpec wsM_polygon ({ frames := 1, cells := 0, slots := 0, locals := 23 })).room s m ([.ref (qm 0)] : List Value).toArray below meth c H locs 0 0 (MQ below (mu_Q (some (.int r.1)) (dC, dI) cls3 (mdW cL cI qm r.2) (inQ qm)) ([.ref (qm 0)] : List Value).toArray s 0 0 (inQ qm)) (F0 m 0 ls []) by rw [hH, hlocs] at hgo; exact hgo
  rw [← hH] at hPm
  have hS : va_S (inQ qm) s.heap H locs := by rw [hH, hlocs]; exact hS
  clear hH hlocs
  unfold f_M_polygon at h
  refine lv_aload_n hx hb dM_polygon_0 rfl (lv_at hl 0 rfl) ?_
  refine lv_iconst (v := 0) hx hb dM_polygon_1 (by decide) ?_
  refine va_put (D := (dC, dI)) (ci := 2) (v := .int (0 : Int32)) (ty := .int) (C := R_M) (T := T_M) (N := 15) hx hb hw in_M t_M t_M_ok nm_M hown hK hPm hD hS 0 rfl rfl 0 (by decide) (hw _ w_445) (fun _ h9 => h9) rfl (by decide +kernel) rfl rfl (Nat.le_of_ble_eq_true rfl) dM_polygon_2 (fun H locs hPm hD hS => ?_)
  obtain ⟨v1, hv1, h⟩ := ob_some h
  have hPm : va_P (dC, dI) cls3 (mdW cL cI qm (ms_thrown v (0 : Int32))) H := hPm
  have hD : va_D (inQ qm) (mdW cL cI qm (ms_thrown v (0 : Int32))) := hD
  rw [Option.some.inj hv1] at hPm hD
  refine lv_aload_n hx hb dM_polygon_5 rfl (lv_at hl 0 rfl) ?_
  refine va_get (D := (dC, dI)) (ci := 2) (v := .int (md_shapes v1)) (C := R_M) (T := T_M) (N := 15) hx hb hw in_M hown hK hPm 0 rfl rfl 1 (by decide) (hw _ w_446) (fun _ h9 => h9) rfl dM_polygon_6 ?_
  refine lv_bipush (v := 40) hx hb dM_polygon_9 (by decide) ?_
  refine lv_icmp_ne (tgt := 18) hx hb dM_polygon_11 (by decide) (fun c2 => ?_) (fun c2 => ?_)
  · have h := it_f c2 h
    refine lv_aload_n hx hb dM_polygon_18 rfl (lv_at hl 0 rfl) ?_
    refine lv_iconst (v := 2) hx hb dM_polygon_19 (by decide) ?_
    refine lv_lconst (v := 0) hx hb dM_polygon_20 (by decide) ?_
    obtain ⟨u3, hu3, h⟩ := ob_some h
    refine mu_call (va_runV (As := [.int (2 : Int32), .long (0 : Int64)]) (rest := []) ⟨hx, hb, hml, hown, hw⟩ (k_M_begin l dC dI cL cI qm v1 (2 : Int32) (0 : Int64) u3 hu3) (cwV 2 hw (gV w_508 w_510 wp_6 w_2 w_511) rfl rfl rfl (by decide +kernel) ⟨Nat.le_of_ble_eq_true rfl, Nat.le_of_ble_eq_true rfl⟩) ⟨rd_blind, va_recv hK hPm (ci := 2) (q0 := 0) rfl rfl, rd_pre ⟨hPm, hD⟩ hK⟩ rfl rfl hl.1 rfl (lv_room (Nat.le_of_ble_eq_true rfl)) dM_polygon_21 ⟨Nat.le_of_ble_eq_true rfl, Nat.le_of_ble_eq_true rfl⟩) hS (fun _ z => z) (fun H locs hPm hS _ _ => ?_)
    have hD := md_D (u3.2) hD
    exact k24 u3.2 u3.1 h H locs hPm hD hS ls (lv_sub hl [] rfl)
  · have h := it_t c2 h
    refine lv_iconst (v := -1) hx hb dM_polygon_14 (by decide) ?_
    refine lv_goto (tgt := 24) hx hb dM_polygon_15 (by decide) ?_
    exact k24 v1 (-1 : Int32) h H locs hPm hD hS ls (lv_sub hl [] rfl)
theorem dM_trace_0 : decode cM_trace 0 = .ok (.aload_n 0, 1) := by decide +kernel
theorem dM_trace_1 : decode cM_trace 1 = .ok (.lload_n 1, 1) := by decide +kernel
theorem dM_trace_2 : decode cM_trace 2 = .ok (.lconst 0, 1) := by decide +kernel
theorem dM_trace_3 : decode cM_trace 3 = .ok (.lcmp, 1) := by decide +kernel
theorem dM_trace_4 : decode cM_trace 4 = .ok (.ifCond .lt 25, 3) := by decide +kernel
theorem dM_trace_7 : decode cM_trace 7 = .ok (.lload_n 1, 1) := by decide +kernel
theorem dM_trace_8 : decode cM_trace 8 = .ok (.ldc2_w 83, 3) := by decide +kernel
theorem dM_trace_11 : decode cM_trace 11 = .ok (.lcmp, 1) := by decide +kernel
theorem dM_trace_12 : decode cM_trace 12 = .ok (.ifCond .gt 17, 3) := by decide +kernel
theorem dM_trace_15 : decode cM_trace 15 = .ok (.lload_n 1, 1) := by decide +kernel
theorem dM_trace_16 : decode cM_trace 16 = .ok (.ldc2_w 85, 3) := by decide +kernel
theorem dM_trace_19 : decode cM_trace 19 = .ok (.lrem, 1) := by decide +kernel
theorem dM_trace_20 : decode cM_trace 20 = .ok (.lconst 0, 1) := by decide +kernel
theorem dM_trace_21 : decode cM_trace 21 = .ok (.lcmp, 1) := by decide +kernel
theorem dM_trace_22 : decode cM_trace 22 = .ok (.ifCond .ne 7, 3) := by decide +kernel
theorem dM_trace_25 : decode cM_trace 25 = .ok (.iconst 0, 1) := by decide +kernel
theorem dM_trace_26 : decode cM_trace 26 = .ok (.goto 4, 3) := by decide +kernel
theorem dM_trace_29 : decode cM_trace 29 = .ok (.iconst 1, 1) := by decide +kernel
theorem dM_trace_30 : decode cM_trace 30 = .ok (.putfield 50, 3) := by decide +kernel
theorem dM_trace_33 : decode cM_trace 33 = .ok (.aload_n 0, 1) := by decide +kernel
theorem dM_trace_34 : decode cM_trace 34 = .ok (.getfield 50, 3) := by decide +kernel
theorem dM_trace_37 : decode cM_trace 37 = .ok (.ifCond .eq 5, 3) := by decide +kernel
theorem dM_trace_40 : decode cM_trace 40 = .ok (.iconst 0, 1) := by decide +kernel
theorem dM_trace_41 : decode cM_trace 41 = .ok (.ireturn, 1) := by decide +kernel
theorem dM_trace_42 : decode cM_trace 42 = .ok (.aload_n 0, 1) := by decide +kernel
theorem dM_trace_43 : decode cM_trace 43 = .ok (.getfield 60, 3) := by decide +kernel
theorem dM_trace_46 : decode cM_trace 46 = .ok (.bipush 40, 2) := by decide +kernel
theorem dM_trace_48 : decode cM_trace 48 = .ok (.if_icmp .ne 7, 3) := by decide +kernel
theorem dM_trace_51 : decode cM_trace 51 = .ok (.iconst (-1), 1) := by decide +kernel
theorem dM_trace_52 : decode cM_trace 52 = .ok (.goto 13, 3) := by decide +kernel
theorem dM_trace_55 : decode cM_trace 55 = .ok (.aload_n 0, 1) := by decide +kernel
theorem dM_trace_56 : decode cM_trace 56 = .ok (.iconst 3, 1) := by decide +kernel
theorem dM_trace_57 : decode cM_trace 57 = .ok (.lload_n 1, 1) := by decide +kernel
theorem dM_trace_58 : decode cM_trace 58 = .ok (.ldc2_w 85, 3) := by decide +kernel
theorem dM_trace_61 : decode cM_trace 61 = .ok (.ldiv, 1) := by decide +kernel
theorem dM_trace_62 : decode cM_trace 62 = .ok (.invokevirtual 75, 3) := by decide +kernel
theorem dM_trace_65 : decode cM_trace 65 = .ok (.ireturn, 1) := by decide +kernel
def f_M_trace_j65 (vv : MV) (s0 : Int32) : Option (Int32 × MV) := some (s0, vv)
def f_M_trace_j30 (vv : MV) (p1 : Int64) (s1 : Int32) : Option (Int32 × MV) := (some (ms_thrown vv s1)).bind fun v4 => (if (md_thrown v4) = 0 then (if (md_shapes v4) = (40 : Int32) then (f_M_trace_j65 v4 (-1 : Int32)) else (f_M_begin v4 (3 : Int32) (p1 / (2 : Int64))).bind fun u7 => (f_M_trace_j65 u7.2 u7.1)) else some ((0 : Int32), v4))
def f_M_trace_j29 (vv : MV) (p1 : Int64) : Option (Int32 × MV) := (f_M_trace_j30 vv p1 (1 : Int32))
def f_M_trace (v : MV) (x1 : Int64) : Option (Int32 × MV) := (if (lg_cmp x1 (0 : Int64)) < 0 then (f_M_trace_j29 v x1) else (if 0 < (lg_cmp x1 (2000000000 : Int64)) then (f_M_trace_j29 v x1) else (if (lg_cmp (x1 - x1 / (2 : Int64) * (2 : Int64)) (0 : Int64)) = 0 then (f_M_trace_j30 v x1 (0 : Int32)) else (f_M_trace_j29 v x1))))
set_option maxHeartbeats 4000000 in
set_option maxRecDepth 100000 in
theorem k_M_trace (l : Launch) (dC : Nat → ClassId) (dI : Nat → Nat → Nat) (cL cI : ClassId) (qm : Nat → Nat) (v : MV) (x1 : Int64) (r : (Int32 × MV)) (h : f_M_trace v x1 = some r) : Met l yM_trace wsM_trace ({ frames := 1, cells := 0, slots := 0, locals := 23 }) (rd_Pc [.ref (qm 0), .long x1] (fun H => va_P (dC, dI) cls3 (mdW cL cI qm v) H ∧ va_D (inQ qm) (mdW cL cI qm v)) (dC, dI) cls3 [(cL, .long), (cI, .int)]) (mu_Q (some (.int r.1)) (dC, dI) cls3 (mdW cL cI qm r.2) (inQ qm)) 0 0 (inQ qm) := by
  refine Met.ofW (cc := cM_trace) (maxL := 3) (ret := (some .int)) (by decide) rfl ?_
  intro p e s m args below meth c s₁ B hml hv
  obtain ⟨rfl, ⟨hPm, hD⟩, hK⟩ := hv
  have hx := B.exec
  have hb := B.bytes
  have hr := B.returns
  have hw : ∀ w ∈ wG, w.before ([.ref (qm 0), .long x1] : List Value).toArray s = true := fun w hq => atoms_spec (ws := wsM_trace) B.pre w (List.mem_cons_of_mem _ hq)
  have hown : s.vm.findClass R_M = some m.cls := findClass_of_methodNamed B.named
  have hlocks := B.notSynchronized
  have hl := lv_entry ([.ref (qm 0), .long x1] : List Value) (n := 3) (Nat.le_of_ble_eq_true rfl)
  rw [lg_entry_eq]
  generalize (lg_sl ([.ref (qm 0), .long x1] : List Value) ++ List.replicate (3 - (lg_sl ([.ref (qm 0), .long x1] : List Value)).length) Slot.unset).toArray = ls at hl ⊢
  have hl : lv_has ls 3 [(0, .ref (qm 0)), (1, .long x1)] := hl
  have k65 : ∀ (vv : MV) (s0 : Int32), f_M_trace_j65 vv s0 = some r → ∀ (H : Heap) (locs : List Loc), va_P (dC, dI) cls3 (mdW cL cI qm vv) H → va_D (inQ qm) (mdW cL cI qm vv) → va_S (inQ qm) s.heap H locs → ∀ (ls : Array Slot), lv_has ls 3 [] → W p l e (headSpec wsM_trace ({ frames := 1, cells := 0, slots := 0, locals := 23 })).room s m ([.ref (qm 0), .long x1] : List Value).toArray below meth c H locs 0 0 (MQ below (mu_Q (some (.int r.1)) (dC, dI) cls3 (mdW cL cI qm r.2) (inQ qm)) ([.ref (qm 0), .long x1] : List Value).toArray s 0 0 (inQ qm)) (F0 m 65 ls [.int s0]) := by
    intro vv s0 h H locs hPm hD hS ls hl
    unfold f_M_trace_j65 at h
    have h := Option.some.inj h
    subst h
    exact W.iret hx hb hr (fun t ht hW => ⟨rfl, by rw [ht]; exact hPm, hS.F ht⟩) hS.2.2 dM_trace_65
  have k30 : ∀ (vv : MV) (p1 : Int64) (s1 : Int32), f_M_trace_j30 vv p1 s1 = some r → ∀ (H : Heap) (locs : List Loc), va_P (dC, dI) cls3 (mdW cL cI qm vv) H → va_D (inQ qm) (mdW cL cI qm vv) → va_S (inQ qm) s.heap H locs → ∀ (ls : Array Slot), lv_has ls 3 [(0, .ref (qm 0)), (1, .long p1)] → W p l e (headSpec wsM_trace ({ frames := 1, cells := 0, slots := 0, locals := 23 })).room s m ([.ref (qm 0), .long x1] : List Value).toArray below meth c H locs 0 0 (MQ below (mu_Q (some (.int r.1)) (dC, dI) cls3 (mdW cL cI qm r.2) (inQ qm)) ([.ref (qm 0), .long x1] : List Value).toArray s 0 0 (inQ qm)) (F0 m 30 ls [.int s1, .ref (qm 0)]) := by
    intro vv p1 s1 h H locs hPm hD hS ls hl
    unfold f_M_trace_j30 at h
    refine va_put (D := (dC, dI)) (ci := 2) (v := .int s1) (ty := .int) (C := R_M) (T := T_M) (N := 15) hx hb hw in_M t_M t_M_ok nm_M hown hK hPm hD hS 0 rfl rfl 0 (by decide) (hw _ w_445) (fun _ h9 => h9) rfl (by decide +kernel) rfl rfl (Nat.le_of_ble_eq_true rfl) dM_trace_30 (fun H locs hPm hD hS => ?_)
    obtain ⟨v4, hv4, h⟩ := ob_some h
    have hPm : va_P (dC, dI) cls3 (mdW cL cI qm (ms_thrown vv s1)) H := hPm
    have hD : va_D (inQ qm) (mdW cL cI qm (ms_thrown vv s1)) := hD
    rw [Option.some.inj hv4] at hPm hD
    refine lv_aload_n hx hb dM_trace_33 rfl (lv_at hl 0 rfl) ?_
    refine va_get (D := (dC, dI)) (ci := 2) (v := .int (md_thrown v4)) (C := R_M) (T := T_M) (N := 15) hx hb hw in_M hown hK hPm 0 rfl rfl 0 (by decide) (hw _ w_445) (fun _ h9 => h9) rfl dM_trace_34 ?_
    refine lv_if_eq (tgt := 42) hx hb dM_trace_37 (by decide) (fun c5 => ?_) (fun c5 => ?_)
    · have h := it_t c5 h
      refine lv_aload_n hx hb dM_trace_42 rfl (lv_at hl 0 rfl) ?_
      refine va_get (D := (dC, dI)) (ci := 2) (v := .int (md_shapes v4)) (C := R_M) (T := T_M) (N := 15) hx hb hw in_M hown hK hPm 0 rfl rfl 1 (by decide) (hw _ w_446) (fun _ h9 => h9) rfl dM_trace_43 ?_
      refine lv_bipush (v := 40) hx hb dM_trace_46 (by decide) ?_
      refine lv_icmp_ne (tgt := 55) hx hb dM_trace_48 (by decide) (fun c6 => ?_) (fun c6 => ?_)
      · have h := it_f c6 h
        refine lv_aload_n hx hb dM_trace_55 rfl (lv_at hl 0 rfl) ?_
        refine lv_iconst (v := 3) hx hb dM_trace_56 (by decide) ?_
        refine lv_lload_n hx hb dM_trace_57 rfl (lv_at hl 1 rfl) ?_
        refine lv_ldc2 (v := 2) hx hb hown (hw _ w_529) dM_trace_58 ?_
        refine lv_ldiv hx hb dM_trace_61 (by decide) ?_
        obtain ⟨u7, hu7, h⟩ := ob_some h
        refine mu_call (va_runV (As := [.int (3 : Int32), .long (p1 / (2 : Int64))]) (rest := []) ⟨hx, hb, hml, hown, hw⟩ (k_M_begin l dC dI cL cI qm v4 (3 : Int32) (p1 / (2 : Int64)) u7 hu7) (cwV 2 hw (gV w_508 w_510 wp_6 w_2 w_511) rfl rfl rfl (by decide +kernel) ⟨Nat.le_of_ble_eq_true rfl, Nat.le_of_ble_eq_true rfl⟩) ⟨rd_blind, va_recv hK hPm (ci := 2) (q0 := 0) rfl rfl, rd_pre ⟨hPm, hD⟩ hK⟩ rfl rfl hl.1 rfl (lv_room (Nat.le_of_ble_eq_true rfl)) dM_trace_62 ⟨Nat.le_of_ble_eq_true rfl, Nat.le_of_ble_eq_true rfl⟩) hS (fun _ z => z) (fun H locs hPm hS _ _ => ?_)
        have hD := md_D (u7.2) hD
        exact k65 u7.2 u7.1 h H locs hPm hD hS ls (lv_sub hl [] rfl)
      · have h := it_t c6 h
        refine lv_iconst (v := -1) hx hb dM_trace_51 (by decide) ?_
        refine lv_goto (tgt := 65) hx hb dM_trace_52 (by decide) ?_
        exact k65 v4 (-1 : Int32) h H locs hPm hD hS ls (lv_sub hl [] rfl)
    · have h := it_f c5 h
      refine lv_iconst (v := 0) hx hb dM_trace_40 (by decide) ?_
      have h := Option.some.inj h
      subst h
      exact W.iret hx hb hr (fun t ht hW => ⟨rfl, by rw [ht]; exact hPm, hS.F ht⟩) hS.2.2 dM_trace_41
  have k29 : ∀ (vv : MV) (p1 : Int64), f_M_trace_j29 vv p1 = some r → ∀ (H : Heap) (locs : List Loc), va_P (dC, dI) cls3 (mdW cL cI qm vv) H → va_D (inQ qm) (mdW cL cI qm vv) → va_S (inQ qm) s.heap H locs → ∀ (ls : Array Slot), lv_has ls 3 [(0, .ref (qm 0)), (1, .long p1)] → W p l e (headSpec wsM_trace ({ frames := 1, cells := 0, slots := 0, locals := 23 })).room s m ([.ref (qm 0), .long x1] : List Value).toArray below meth c H locs 0 0 (MQ below (mu_Q (some (.int r.1)) (dC, dI) cls3 (mdW cL cI qm r.2) (inQ qm)) ([.ref (qm 0), .long x1] : List Value).toArray s 0 0 (inQ qm)) (F0 m 29 ls [.ref (qm 0)]) := by
    intro vv p1 h H locs hPm hD hS ls hl
    unfold f_M_trace_j29 at h
    refine lv_iconst (v := 1) hx hb dM_trace_29 (by decide) ?_
    exact k30 vv p1 (1 : Int32) h H locs hPm hD hS ls (lv_sub hl [0, 1] rfl)
  have hS : va_S (inQ qm) s.heap s.heap [] := va_S.rf
  obtain ⟨H, hH⟩ : ∃ H : Heap, H = s.heap := ⟨_, rfl⟩
  obtain ⟨locs, hlocs⟩ : ∃ L : List Loc, L = [] := ⟨_, rfl⟩
  suffices hgo : W p l e (headSpec wsM_trace ({ frames := 1, cells := 0, slots := 0, locals := 23 })).room s m ([.ref (qm 0), .long x1] : List Value).toArray below meth c H locs 0 0 (MQ below (mu_Q (some (.int r.1)) (dC, dI) cls3 (mdW cL cI qm r.2) (inQ qm)) ([.ref (qm 0), .long x1] : List Value).toArray s 0 0 (inQ qm)) (F0 m 0 ls []) by rw [hH, hlocs] at hgo; exact hgo
  rw [← hH] at hPm
  have hS : va_S (inQ qm) s.heap H locs := by rw [hH, hlocs]; exact hS
  clear hH hlocs
  unfold f_M_trace at h
  refine lv_aload_n hx hb dM_trace_0 rfl (lv_at hl 0 rfl) ?_
  refine lv_lload_n hx hb dM_trace_1 rfl (lv_at hl 1 rfl) ?_
  refine lv_lconst (v := 0) hx hb dM_trace_2 (by decide) ?_
  refine W.lcmp hx hb dM_trace_3 ?_
  refine lv_if_lt (tgt := 29) hx hb dM_trace_4 (by decide) (fun c1 => ?_) (fun c1 => ?_)
  · have h := it_t c1 h
    exact k29 v x1 h H locs hPm hD hS ls (lv_sub hl [0, 1] rfl)
  · have h := it_f c1 h
    refine lv_lload_n hx hb dM_trace_7 rfl (lv_at hl 1 rfl) ?_
    refine lv_ldc2 (v := 2000000000) hx hb hown (hw _ w_528) dM_trace_8 ?_
    refine W.lcmp hx hb dM_trace_11 ?_
    refine lv_if_gt (tgt := 29) hx hb dM_trace_12 (by decide) (fun c2 => ?_) (fun c2 => ?_)
    · have h := it_t c2 h
      exact k29 v x1 h H locs hPm hD hS ls (lv_sub hl [0, 1] rfl)
    · have h := it_f c2 h
      refine lv_lload_n hx hb dM_trace_15 rfl (lv_at hl 1 rfl) ?_
      refine lv_ldc2 (v := 2) hx hb hown (hw _ w_529) dM_trace_16 ?_
      refine lv_lrem hx hb dM_trace_19 (by decide) ?_
      refine lv_lconst (v := 0) hx hb dM_trace_20 (by decide) ?_
      refine W.lcmp hx hb dM_trace_21 ?_
      refine lv_if_ne (tgt := 29) hx hb dM_trace_22 (by decide) (fun c3 => ?_) (fun c3 => ?_)
      · have h := it_f c3 h
        exact k29 v x1 h H locs hPm hD hS ls (lv_sub hl [0, 1] rfl)
      · have h := it_t c3 h
        refine lv_iconst (v := 0) hx hb dM_trace_25 (by decide) ?_
        refine lv_goto (tgt := 30) hx hb dM_trace_26 (by decide) ?_
        exact k30 v x1 (0 : Int32) h H locs hPm hD hS ls (lv_sub hl [0, 1] rfl)
