/-! ===== the law: acts, isSo, law ===== -/
/-! L_acts -/
def tL_acts : TrD := (yL_acts, cL_acts, 11, some .boolean, 8, 169)
theorem dL_acts_0 : decode cL_acts 0 = .ok (.iload 4, 2) := by decide +kernel
theorem dL_acts_2 : decode cL_acts 2 = .ok (.iconst 5, 1) := by decide +kernel
theorem dL_acts_3 : decode cL_acts 3 = .ok (.ishr, 1) := by decide +kernel
theorem dL_acts_4 : decode cL_acts 4 = .ok (.ldc 60, 2) := by decide +kernel
theorem dL_acts_6 : decode cL_acts 6 = .ok (.invokestatic 61, 3) := by decide +kernel
theorem dL_acts_9 : decode cL_acts 9 = .ok (.istore 5, 2) := by decide +kernel
theorem dL_acts_11 : decode cL_acts 11 = .ok (.aload_n 1, 1) := by decide +kernel
theorem dL_acts_12 : decode cL_acts 12 = .ok (.bipush 6, 2) := by decide +kernel
theorem dL_acts_14 : decode cL_acts 14 = .ok (.iaload, 1) := by decide +kernel
theorem dL_acts_15 : decode cL_acts 15 = .ok (.sipush 9000, 3) := by decide +kernel
theorem dL_acts_18 : decode cL_acts 18 = .ok (.if_icmp .le 7, 3) := by decide +kernel
theorem dL_acts_21 : decode cL_acts 21 = .ok (.iconst 0, 1) := by decide +kernel
theorem dL_acts_22 : decode cL_acts 22 = .ok (.goto 10, 3) := by decide +kernel
theorem dL_acts_25 : decode cL_acts 25 = .ok (.iload 4, 2) := by decide +kernel
theorem dL_acts_27 : decode cL_acts 27 = .ok (.bipush 24, 2) := by decide +kernel
theorem dL_acts_29 : decode cL_acts 29 = .ok (.invokestatic 61, 3) := by decide +kernel
theorem dL_acts_32 : decode cL_acts 32 = .ok (.istore 6, 2) := by decide +kernel
theorem dL_acts_34 : decode cL_acts 34 = .ok (.iload 6, 2) := by decide +kernel
theorem dL_acts_36 : decode cL_acts 36 = .ok (.ifCond .ne 80, 3) := by decide +kernel
theorem dL_acts_39 : decode cL_acts 39 = .ok (.aload_n 1, 1) := by decide +kernel
theorem dL_acts_40 : decode cL_acts 40 = .ok (.bipush 21, 2) := by decide +kernel
theorem dL_acts_42 : decode cL_acts 42 = .ok (.iaload, 1) := by decide +kernel
theorem dL_acts_43 : decode cL_acts 43 = .ok (.istore 7, 2) := by decide +kernel
theorem dL_acts_45 : decode cL_acts 45 = .ok (.bipush 6, 2) := by decide +kernel
theorem dL_acts_47 : decode cL_acts 47 = .ok (.istore 8, 2) := by decide +kernel
theorem dL_acts_49 : decode cL_acts 49 = .ok (.iload 8, 2) := by decide +kernel
theorem dL_acts_51 : decode cL_acts 51 = .ok (.bipush 23, 2) := by decide +kernel
theorem dL_acts_53 : decode cL_acts 53 = .ok (.if_icmp .ge 14, 3) := by decide +kernel
theorem dL_acts_56 : decode cL_acts 56 = .ok (.aload_n 1, 1) := by decide +kernel
theorem dL_acts_57 : decode cL_acts 57 = .ok (.iload 8, 2) := by decide +kernel
theorem dL_acts_59 : decode cL_acts 59 = .ok (.iconst 0, 1) := by decide +kernel
theorem dL_acts_60 : decode cL_acts 60 = .ok (.iastore, 1) := by decide +kernel
theorem dL_acts_61 : decode cL_acts 61 = .ok (.iinc 8 1, 3) := by decide +kernel
theorem dL_acts_64 : decode cL_acts 64 = .ok (.goto (-15), 3) := by decide +kernel
theorem dL_acts_67 : decode cL_acts 67 = .ok (.aload_n 1, 1) := by decide +kernel
theorem dL_acts_68 : decode cL_acts 68 = .ok (.bipush 20, 2) := by decide +kernel
theorem dL_acts_70 : decode cL_acts 70 = .ok (.iconst 1, 1) := by decide +kernel
theorem dL_acts_71 : decode cL_acts 71 = .ok (.iastore, 1) := by decide +kernel
theorem dL_acts_72 : decode cL_acts 72 = .ok (.aload_n 1, 1) := by decide +kernel
theorem dL_acts_73 : decode cL_acts 73 = .ok (.iconst 0, 1) := by decide +kernel
theorem dL_acts_74 : decode cL_acts 74 = .ok (.iconst 4, 1) := by decide +kernel
theorem dL_acts_75 : decode cL_acts 75 = .ok (.iload 5, 2) := by decide +kernel
theorem dL_acts_77 : decode cL_acts 77 = .ok (.bipush 21, 2) := by decide +kernel
theorem dL_acts_79 : decode cL_acts 79 = .ok (.irem, 1) := by decide +kernel
theorem dL_acts_80 : decode cL_acts 80 = .ok (.iadd, 1) := by decide +kernel
theorem dL_acts_81 : decode cL_acts 81 = .ok (.iastore, 1) := by decide +kernel
theorem dL_acts_82 : decode cL_acts 82 = .ok (.aload_n 1, 1) := by decide +kernel
theorem dL_acts_83 : decode cL_acts 83 = .ok (.iconst 1, 1) := by decide +kernel
theorem dL_acts_84 : decode cL_acts 84 = .ok (.iconst 3, 1) := by decide +kernel
theorem dL_acts_85 : decode cL_acts 85 = .ok (.iload 5, 2) := by decide +kernel
theorem dL_acts_87 : decode cL_acts 87 = .ok (.bipush 21, 2) := by decide +kernel
theorem dL_acts_89 : decode cL_acts 89 = .ok (.idiv, 1) := by decide +kernel
theorem dL_acts_90 : decode cL_acts 90 = .ok (.bipush 10, 2) := by decide +kernel
theorem dL_acts_92 : decode cL_acts 92 = .ok (.irem, 1) := by decide +kernel
theorem dL_acts_93 : decode cL_acts 93 = .ok (.iadd, 1) := by decide +kernel
theorem dL_acts_94 : decode cL_acts 94 = .ok (.iastore, 1) := by decide +kernel
theorem dL_acts_95 : decode cL_acts 95 = .ok (.aload_n 0, 1) := by decide +kernel
theorem dL_acts_96 : decode cL_acts 96 = .ok (.aload_n 1, 1) := by decide +kernel
theorem dL_acts_97 : decode cL_acts 97 = .ok (.iconst 0, 1) := by decide +kernel
theorem dL_acts_98 : decode cL_acts 98 = .ok (.iaload, 1) := by decide +kernel
theorem dL_acts_99 : decode cL_acts 99 = .ok (.aload_n 1, 1) := by decide +kernel
theorem dL_acts_100 : decode cL_acts 100 = .ok (.iconst 1, 1) := by decide +kernel
theorem dL_acts_101 : decode cL_acts 101 = .ok (.iaload, 1) := by decide +kernel
theorem dL_acts_102 : decode cL_acts 102 = .ok (.invokestatic 64, 3) := by decide +kernel
theorem dL_acts_105 : decode cL_acts 105 = .ok (.iload 7, 2) := by decide +kernel
theorem dL_acts_107 : decode cL_acts 107 = .ok (.if_icmp .ne 7, 3) := by decide +kernel
theorem dL_acts_110 : decode cL_acts 110 = .ok (.iconst 1, 1) := by decide +kernel
theorem dL_acts_111 : decode cL_acts 111 = .ok (.goto 4, 3) := by decide +kernel
theorem dL_acts_114 : decode cL_acts 114 = .ok (.iconst 0, 1) := by decide +kernel
theorem dL_acts_115 : decode cL_acts 115 = .ok (.ireturn, 1) := by decide +kernel
theorem dL_acts_116 : decode cL_acts 116 = .ok (.iload 6, 2) := by decide +kernel
theorem dL_acts_118 : decode cL_acts 118 = .ok (.bipush 11, 2) := by decide +kernel
theorem dL_acts_120 : decode cL_acts 120 = .ok (.if_icmp .ge 172, 3) := by decide +kernel
theorem dL_acts_123 : decode cL_acts 123 = .ok (.iload 5, 2) := by decide +kernel
theorem dL_acts_125 : decode cL_acts 125 = .ok (.aload_n 1, 1) := by decide +kernel
theorem dL_acts_126 : decode cL_acts 126 = .ok (.iconst 0, 1) := by decide +kernel
theorem dL_acts_127 : decode cL_acts 127 = .ok (.iaload, 1) := by decide +kernel
theorem dL_acts_128 : decode cL_acts 128 = .ok (.irem, 1) := by decide +kernel
theorem dL_acts_129 : decode cL_acts 129 = .ok (.istore 7, 2) := by decide +kernel
theorem dL_acts_131 : decode cL_acts 131 = .ok (.iload 5, 2) := by decide +kernel
theorem dL_acts_133 : decode cL_acts 133 = .ok (.bipush 24, 2) := by decide +kernel
theorem dL_acts_135 : decode cL_acts 135 = .ok (.idiv, 1) := by decide +kernel
theorem dL_acts_136 : decode cL_acts 136 = .ok (.aload_n 1, 1) := by decide +kernel
theorem dL_acts_137 : decode cL_acts 137 = .ok (.iconst 1, 1) := by decide +kernel
theorem dL_acts_138 : decode cL_acts 138 = .ok (.iaload, 1) := by decide +kernel
theorem dL_acts_139 : decode cL_acts 139 = .ok (.irem, 1) := by decide +kernel
theorem dL_acts_140 : decode cL_acts 140 = .ok (.istore 8, 2) := by decide +kernel
theorem dL_acts_142 : decode cL_acts 142 = .ok (.aload_n 1, 1) := by decide +kernel
theorem dL_acts_143 : decode cL_acts 143 = .ok (.bipush 6, 2) := by decide +kernel
theorem dL_acts_145 : decode cL_acts 145 = .ok (.iaload, 1) := by decide +kernel
theorem dL_acts_146 : decode cL_acts 146 = .ok (.iload 5, 2) := by decide +kernel
theorem dL_acts_148 : decode cL_acts 148 = .ok (.sipush 300, 3) := by decide +kernel
theorem dL_acts_151 : decode cL_acts 151 = .ok (.idiv, 1) := by decide +kernel
theorem dL_acts_152 : decode cL_acts 152 = .ok (.iload 5, 2) := by decide +kernel
theorem dL_acts_154 : decode cL_acts 154 = .ok (.iconst 3, 1) := by decide +kernel
theorem dL_acts_155 : decode cL_acts 155 = .ok (.irem, 1) := by decide +kernel
theorem dL_acts_156 : decode cL_acts 156 = .ok (.ifCond .ne 9, 3) := by decide +kernel
theorem dL_acts_159 : decode cL_acts 159 = .ok (.sipush 300, 3) := by decide +kernel
theorem dL_acts_162 : decode cL_acts 162 = .ok (.goto 5, 3) := by decide +kernel
theorem dL_acts_165 : decode cL_acts 165 = .ok (.bipush 40, 2) := by decide +kernel
theorem dL_acts_167 : decode cL_acts 167 = .ok (.irem, 1) := by decide +kernel
theorem dL_acts_168 : decode cL_acts 168 = .ok (.iadd, 1) := by decide +kernel
theorem dL_acts_169 : decode cL_acts 169 = .ok (.istore 9, 2) := by decide +kernel
theorem dL_acts_171 : decode cL_acts 171 = .ok (.aload_n 1, 1) := by decide +kernel
theorem dL_acts_172 : decode cL_acts 172 = .ok (.bipush 21, 2) := by decide +kernel
theorem dL_acts_174 : decode cL_acts 174 = .ok (.iaload, 1) := by decide +kernel
theorem dL_acts_175 : decode cL_acts 175 = .ok (.bipush 12, 2) := by decide +kernel
theorem dL_acts_177 : decode cL_acts 177 = .ok (.if_icmp .ne 24, 3) := by decide +kernel
theorem dL_acts_180 : decode cL_acts 180 = .ok (.aload_n 0, 1) := by decide +kernel
theorem dL_acts_181 : decode cL_acts 181 = .ok (.iload 7, 2) := by decide +kernel
theorem dL_acts_183 : decode cL_acts 183 = .ok (.iload 8, 2) := by decide +kernel
theorem dL_acts_185 : decode cL_acts 185 = .ok (.iload 9, 2) := by decide +kernel
theorem dL_acts_187 : decode cL_acts 187 = .ok (.invokestatic 68, 3) := by decide +kernel
theorem dL_acts_190 : decode cL_acts 190 = .ok (.ldc 24, 2) := by decide +kernel
theorem dL_acts_192 : decode cL_acts 192 = .ok (.if_icmp .ne 7, 3) := by decide +kernel
theorem dL_acts_195 : decode cL_acts 195 = .ok (.iconst 1, 1) := by decide +kernel
theorem dL_acts_196 : decode cL_acts 196 = .ok (.goto 4, 3) := by decide +kernel
theorem dL_acts_199 : decode cL_acts 199 = .ok (.iconst 0, 1) := by decide +kernel
theorem dL_acts_200 : decode cL_acts 200 = .ok (.ireturn, 1) := by decide +kernel
theorem dL_acts_201 : decode cL_acts 201 = .ok (.iconst 5, 1) := by decide +kernel
theorem dL_acts_202 : decode cL_acts 202 = .ok (.aload_n 1, 1) := by decide +kernel
theorem dL_acts_203 : decode cL_acts 203 = .ok (.bipush 21, 2) := by decide +kernel
theorem dL_acts_205 : decode cL_acts 205 = .ok (.iaload, 1) := by decide +kernel
theorem dL_acts_206 : decode cL_acts 206 = .ok (.imul, 1) := by decide +kernel
theorem dL_acts_207 : decode cL_acts 207 = .ok (.istore 10, 2) := by decide +kernel
theorem dL_acts_209 : decode cL_acts 209 = .ok (.aload_n 2, 1) := by decide +kernel
theorem dL_acts_210 : decode cL_acts 210 = .ok (.iload 10, 2) := by decide +kernel
theorem dL_acts_212 : decode cL_acts 212 = .ok (.aload_n 1, 1) := by decide +kernel
theorem dL_acts_213 : decode cL_acts 213 = .ok (.bipush 7, 2) := by decide +kernel
theorem dL_acts_215 : decode cL_acts 215 = .ok (.iaload, 1) := by decide +kernel
theorem dL_acts_216 : decode cL_acts 216 = .ok (.iastore, 1) := by decide +kernel
theorem dL_acts_217 : decode cL_acts 217 = .ok (.aload_n 2, 1) := by decide +kernel
theorem dL_acts_218 : decode cL_acts 218 = .ok (.iload 10, 2) := by decide +kernel
theorem dL_acts_220 : decode cL_acts 220 = .ok (.iconst 1, 1) := by decide +kernel
theorem dL_acts_221 : decode cL_acts 221 = .ok (.iadd, 1) := by decide +kernel
theorem dL_acts_222 : decode cL_acts 222 = .ok (.iload 7, 2) := by decide +kernel
theorem dL_acts_224 : decode cL_acts 224 = .ok (.iastore, 1) := by decide +kernel
theorem dL_acts_225 : decode cL_acts 225 = .ok (.aload_n 2, 1) := by decide +kernel
theorem dL_acts_226 : decode cL_acts 226 = .ok (.iload 10, 2) := by decide +kernel
theorem dL_acts_228 : decode cL_acts 228 = .ok (.iconst 2, 1) := by decide +kernel
theorem dL_acts_229 : decode cL_acts 229 = .ok (.iadd, 1) := by decide +kernel
theorem dL_acts_230 : decode cL_acts 230 = .ok (.iload 8, 2) := by decide +kernel
theorem dL_acts_232 : decode cL_acts 232 = .ok (.iastore, 1) := by decide +kernel
theorem dL_acts_233 : decode cL_acts 233 = .ok (.aload_n 2, 1) := by decide +kernel
theorem dL_acts_234 : decode cL_acts 234 = .ok (.iload 10, 2) := by decide +kernel
theorem dL_acts_236 : decode cL_acts 236 = .ok (.iconst 3, 1) := by decide +kernel
theorem dL_acts_237 : decode cL_acts 237 = .ok (.iadd, 1) := by decide +kernel
theorem dL_acts_238 : decode cL_acts 238 = .ok (.iload 9, 2) := by decide +kernel
theorem dL_acts_240 : decode cL_acts 240 = .ok (.iastore, 1) := by decide +kernel
theorem dL_acts_241 : decode cL_acts 241 = .ok (.aload_n 2, 1) := by decide +kernel
theorem dL_acts_242 : decode cL_acts 242 = .ok (.iload 10, 2) := by decide +kernel
theorem dL_acts_244 : decode cL_acts 244 = .ok (.iconst 4, 1) := by decide +kernel
theorem dL_acts_245 : decode cL_acts 245 = .ok (.iadd, 1) := by decide +kernel
theorem dL_acts_246 : decode cL_acts 246 = .ok (.aload_n 1, 1) := by decide +kernel
theorem dL_acts_247 : decode cL_acts 247 = .ok (.bipush 6, 2) := by decide +kernel
theorem dL_acts_249 : decode cL_acts 249 = .ok (.iaload, 1) := by decide +kernel
theorem dL_acts_250 : decode cL_acts 250 = .ok (.iastore, 1) := by decide +kernel
theorem dL_acts_251 : decode cL_acts 251 = .ok (.aload_n 1, 1) := by decide +kernel
theorem dL_acts_252 : decode cL_acts 252 = .ok (.bipush 21, 2) := by decide +kernel
theorem dL_acts_254 : decode cL_acts 254 = .ok (.dup2, 1) := by decide +kernel
theorem dL_acts_255 : decode cL_acts 255 = .ok (.iaload, 1) := by decide +kernel
theorem dL_acts_256 : decode cL_acts 256 = .ok (.iconst 1, 1) := by decide +kernel
theorem dL_acts_257 : decode cL_acts 257 = .ok (.iadd, 1) := by decide +kernel
theorem dL_acts_258 : decode cL_acts 258 = .ok (.iastore, 1) := by decide +kernel
theorem dL_acts_259 : decode cL_acts 259 = .ok (.aload_n 1, 1) := by decide +kernel
theorem dL_acts_260 : decode cL_acts 260 = .ok (.bipush 7, 2) := by decide +kernel
theorem dL_acts_262 : decode cL_acts 262 = .ok (.dup2, 1) := by decide +kernel
theorem dL_acts_263 : decode cL_acts 263 = .ok (.iaload, 1) := by decide +kernel
theorem dL_acts_264 : decode cL_acts 264 = .ok (.iconst 1, 1) := by decide +kernel
theorem dL_acts_265 : decode cL_acts 265 = .ok (.iadd, 1) := by decide +kernel
theorem dL_acts_266 : decode cL_acts 266 = .ok (.iastore, 1) := by decide +kernel
theorem dL_acts_267 : decode cL_acts 267 = .ok (.aload_n 0, 1) := by decide +kernel
theorem dL_acts_268 : decode cL_acts 268 = .ok (.iload 7, 2) := by decide +kernel
theorem dL_acts_270 : decode cL_acts 270 = .ok (.iload 8, 2) := by decide +kernel
theorem dL_acts_272 : decode cL_acts 272 = .ok (.iload 9, 2) := by decide +kernel
theorem dL_acts_274 : decode cL_acts 274 = .ok (.invokestatic 68, 3) := by decide +kernel
theorem dL_acts_277 : decode cL_acts 277 = .ok (.aload_n 1, 1) := by decide +kernel
theorem dL_acts_278 : decode cL_acts 278 = .ok (.bipush 7, 2) := by decide +kernel
theorem dL_acts_280 : decode cL_acts 280 = .ok (.iaload, 1) := by decide +kernel
theorem dL_acts_281 : decode cL_acts 281 = .ok (.iconst 1, 1) := by decide +kernel
theorem dL_acts_282 : decode cL_acts 282 = .ok (.isub, 1) := by decide +kernel
theorem dL_acts_283 : decode cL_acts 283 = .ok (.if_icmp .ne 7, 3) := by decide +kernel
theorem dL_acts_286 : decode cL_acts 286 = .ok (.iconst 1, 1) := by decide +kernel
theorem dL_acts_287 : decode cL_acts 287 = .ok (.goto 4, 3) := by decide +kernel
theorem dL_acts_290 : decode cL_acts 290 = .ok (.iconst 0, 1) := by decide +kernel
theorem dL_acts_291 : decode cL_acts 291 = .ok (.ireturn, 1) := by decide +kernel
theorem dL_acts_292 : decode cL_acts 292 = .ok (.iload 6, 2) := by decide +kernel
theorem dL_acts_294 : decode cL_acts 294 = .ok (.bipush 11, 2) := by decide +kernel
theorem dL_acts_296 : decode cL_acts 296 = .ok (.if_icmp .ne 84, 3) := by decide +kernel
theorem dL_acts_299 : decode cL_acts 299 = .ok (.iload 5, 2) := by decide +kernel
theorem dL_acts_301 : decode cL_acts 301 = .ok (.aload_n 1, 1) := by decide +kernel
theorem dL_acts_302 : decode cL_acts 302 = .ok (.bipush 7, 2) := by decide +kernel
theorem dL_acts_304 : decode cL_acts 304 = .ok (.iaload, 1) := by decide +kernel
theorem dL_acts_305 : decode cL_acts 305 = .ok (.iconst 1, 1) := by decide +kernel
theorem dL_acts_306 : decode cL_acts 306 = .ok (.iadd, 1) := by decide +kernel
theorem dL_acts_307 : decode cL_acts 307 = .ok (.irem, 1) := by decide +kernel
theorem dL_acts_308 : decode cL_acts 308 = .ok (.istore 7, 2) := by decide +kernel
theorem dL_acts_310 : decode cL_acts 310 = .ok (.aload_n 1, 1) := by decide +kernel
theorem dL_acts_311 : decode cL_acts 311 = .ok (.aload_n 2, 1) := by decide +kernel
theorem dL_acts_312 : decode cL_acts 312 = .ok (.iload 7, 2) := by decide +kernel
theorem dL_acts_314 : decode cL_acts 314 = .ok (.invokestatic 72, 3) := by decide +kernel
theorem dL_acts_317 : decode cL_acts 317 = .ok (.istore 8, 2) := by decide +kernel
theorem dL_acts_319 : decode cL_acts 319 = .ok (.iload 8, 2) := by decide +kernel
theorem dL_acts_321 : decode cL_acts 321 = .ok (.ifCond .ge 20, 3) := by decide +kernel
theorem dL_acts_324 : decode cL_acts 324 = .ok (.aload_n 0, 1) := by decide +kernel
theorem dL_acts_325 : decode cL_acts 325 = .ok (.iload 7, 2) := by decide +kernel
theorem dL_acts_327 : decode cL_acts 327 = .ok (.invokestatic 75, 3) := by decide +kernel
theorem dL_acts_330 : decode cL_acts 330 = .ok (.ldc 31, 2) := by decide +kernel
theorem dL_acts_332 : decode cL_acts 332 = .ok (.if_icmp .ne 7, 3) := by decide +kernel
theorem dL_acts_335 : decode cL_acts 335 = .ok (.iconst 1, 1) := by decide +kernel
theorem dL_acts_336 : decode cL_acts 336 = .ok (.goto 4, 3) := by decide +kernel
theorem dL_acts_339 : decode cL_acts 339 = .ok (.iconst 0, 1) := by decide +kernel
theorem dL_acts_340 : decode cL_acts 340 = .ok (.ireturn, 1) := by decide +kernel
theorem dL_acts_341 : decode cL_acts 341 = .ok (.aload_n 1, 1) := by decide +kernel
theorem dL_acts_342 : decode cL_acts 342 = .ok (.bipush 6, 2) := by decide +kernel
theorem dL_acts_344 : decode cL_acts 344 = .ok (.iaload, 1) := by decide +kernel
theorem dL_acts_345 : decode cL_acts 345 = .ok (.aload_n 2, 1) := by decide +kernel
theorem dL_acts_346 : decode cL_acts 346 = .ok (.iconst 5, 1) := by decide +kernel
theorem dL_acts_347 : decode cL_acts 347 = .ok (.iload 8, 2) := by decide +kernel
theorem dL_acts_349 : decode cL_acts 349 = .ok (.imul, 1) := by decide +kernel
theorem dL_acts_350 : decode cL_acts 350 = .ok (.iconst 4, 1) := by decide +kernel
theorem dL_acts_351 : decode cL_acts 351 = .ok (.iadd, 1) := by decide +kernel
theorem dL_acts_352 : decode cL_acts 352 = .ok (.iaload, 1) := by decide +kernel
theorem dL_acts_353 : decode cL_acts 353 = .ok (.isub, 1) := by decide +kernel
theorem dL_acts_354 : decode cL_acts 354 = .ok (.istore 9, 2) := by decide +kernel
theorem dL_acts_356 : decode cL_acts 356 = .ok (.aload_n 1, 1) := by decide +kernel
theorem dL_acts_357 : decode cL_acts 357 = .ok (.aload_n 2, 1) := by decide +kernel
theorem dL_acts_358 : decode cL_acts 358 = .ok (.iload 8, 2) := by decide +kernel
theorem dL_acts_360 : decode cL_acts 360 = .ok (.invokestatic 52, 3) := by decide +kernel
theorem dL_acts_363 : decode cL_acts 363 = .ok (.aload_n 0, 1) := by decide +kernel
theorem dL_acts_364 : decode cL_acts 364 = .ok (.iload 7, 2) := by decide +kernel
theorem dL_acts_366 : decode cL_acts 366 = .ok (.invokestatic 75, 3) := by decide +kernel
theorem dL_acts_369 : decode cL_acts 369 = .ok (.iload 9, 2) := by decide +kernel
theorem dL_acts_371 : decode cL_acts 371 = .ok (.if_icmp .ne 7, 3) := by decide +kernel
theorem dL_acts_374 : decode cL_acts 374 = .ok (.iconst 1, 1) := by decide +kernel
theorem dL_acts_375 : decode cL_acts 375 = .ok (.goto 4, 3) := by decide +kernel
theorem dL_acts_378 : decode cL_acts 378 = .ok (.iconst 0, 1) := by decide +kernel
theorem dL_acts_379 : decode cL_acts 379 = .ok (.ireturn, 1) := by decide +kernel
theorem dL_acts_380 : decode cL_acts 380 = .ok (.iload 6, 2) := by decide +kernel
theorem dL_acts_382 : decode cL_acts 382 = .ok (.bipush 15, 2) := by decide +kernel
theorem dL_acts_384 : decode cL_acts 384 = .ok (.if_icmp .ge 101, 3) := by decide +kernel
theorem dL_acts_387 : decode cL_acts 387 = .ok (.iload 5, 2) := by decide +kernel
theorem dL_acts_389 : decode cL_acts 389 = .ok (.iconst 4, 1) := by decide +kernel
theorem dL_acts_390 : decode cL_acts 390 = .ok (.irem, 1) := by decide +kernel
theorem dL_acts_391 : decode cL_acts 391 = .ok (.istore 7, 2) := by decide +kernel
theorem dL_acts_393 : decode cL_acts 393 = .ok (.aload_n 1, 1) := by decide +kernel
theorem dL_acts_394 : decode cL_acts 394 = .ok (.iconst 2, 1) := by decide +kernel
theorem dL_acts_395 : decode cL_acts 395 = .ok (.iload 7, 2) := by decide +kernel
theorem dL_acts_397 : decode cL_acts 397 = .ok (.iadd, 1) := by decide +kernel
theorem dL_acts_398 : decode cL_acts 398 = .ok (.iaload, 1) := by decide +kernel
theorem dL_acts_399 : decode cL_acts 399 = .ok (.istore 8, 2) := by decide +kernel
theorem dL_acts_401 : decode cL_acts 401 = .ok (.aload_n 1, 1) := by decide +kernel
theorem dL_acts_402 : decode cL_acts 402 = .ok (.iconst 2, 1) := by decide +kernel
theorem dL_acts_403 : decode cL_acts 403 = .ok (.iload 7, 2) := by decide +kernel
theorem dL_acts_405 : decode cL_acts 405 = .ok (.iadd, 1) := by decide +kernel
theorem dL_acts_406 : decode cL_acts 406 = .ok (.iload 7, 2) := by decide +kernel
theorem dL_acts_408 : decode cL_acts 408 = .ok (.ifCond .ne 12, 3) := by decide +kernel
theorem dL_acts_411 : decode cL_acts 411 = .ok (.iload 5, 2) := by decide +kernel
theorem dL_acts_413 : decode cL_acts 413 = .ok (.iconst 4, 1) := by decide +kernel
theorem dL_acts_414 : decode cL_acts 414 = .ok (.idiv, 1) := by decide +kernel
theorem dL_acts_415 : decode cL_acts 415 = .ok (.iconst 4, 1) := by decide +kernel
theorem dL_acts_416 : decode cL_acts 416 = .ok (.irem, 1) := by decide +kernel
theorem dL_acts_417 : decode cL_acts 417 = .ok (.goto 44, 3) := by decide +kernel
theorem dL_acts_420 : decode cL_acts 420 = .ok (.iload 7, 2) := by decide +kernel
theorem dL_acts_422 : decode cL_acts 422 = .ok (.iconst 1, 1) := by decide +kernel
theorem dL_acts_423 : decode cL_acts 423 = .ok (.if_icmp .ne 13, 3) := by decide +kernel
theorem dL_acts_426 : decode cL_acts 426 = .ok (.iload 5, 2) := by decide +kernel
theorem dL_acts_428 : decode cL_acts 428 = .ok (.iconst 4, 1) := by decide +kernel
theorem dL_acts_429 : decode cL_acts 429 = .ok (.idiv, 1) := by decide +kernel
theorem dL_acts_430 : decode cL_acts 430 = .ok (.bipush 21, 2) := by decide +kernel
theorem dL_acts_432 : decode cL_acts 432 = .ok (.irem, 1) := by decide +kernel
theorem dL_acts_433 : decode cL_acts 433 = .ok (.goto 28, 3) := by decide +kernel
theorem dL_acts_436 : decode cL_acts 436 = .ok (.iload 7, 2) := by decide +kernel
theorem dL_acts_438 : decode cL_acts 438 = .ok (.iconst 2, 1) := by decide +kernel
theorem dL_acts_439 : decode cL_acts 439 = .ok (.if_icmp .ne 15, 3) := by decide +kernel
theorem dL_acts_442 : decode cL_acts 442 = .ok (.iconst 5, 1) := by decide +kernel
theorem dL_acts_443 : decode cL_acts 443 = .ok (.iload 5, 2) := by decide +kernel
theorem dL_acts_445 : decode cL_acts 445 = .ok (.iconst 4, 1) := by decide +kernel
theorem dL_acts_446 : decode cL_acts 446 = .ok (.idiv, 1) := by decide +kernel
theorem dL_acts_447 : decode cL_acts 447 = .ok (.bipush 40, 2) := by decide +kernel
theorem dL_acts_449 : decode cL_acts 449 = .ok (.irem, 1) := by decide +kernel
theorem dL_acts_450 : decode cL_acts 450 = .ok (.iadd, 1) := by decide +kernel
theorem dL_acts_451 : decode cL_acts 451 = .ok (.goto 10, 3) := by decide +kernel
theorem dL_acts_454 : decode cL_acts 454 = .ok (.iload 5, 2) := by decide +kernel
theorem dL_acts_456 : decode cL_acts 456 = .ok (.iconst 4, 1) := by decide +kernel
theorem dL_acts_457 : decode cL_acts 457 = .ok (.idiv, 1) := by decide +kernel
theorem dL_acts_458 : decode cL_acts 458 = .ok (.bipush 60, 2) := by decide +kernel
theorem dL_acts_460 : decode cL_acts 460 = .ok (.irem, 1) := by decide +kernel
theorem dL_acts_461 : decode cL_acts 461 = .ok (.iastore, 1) := by decide +kernel
theorem dL_acts_462 : decode cL_acts 462 = .ok (.aload_n 0, 1) := by decide +kernel
theorem dL_acts_463 : decode cL_acts 463 = .ok (.iload 7, 2) := by decide +kernel
theorem dL_acts_465 : decode cL_acts 465 = .ok (.aload_n 1, 1) := by decide +kernel
theorem dL_acts_466 : decode cL_acts 466 = .ok (.iconst 2, 1) := by decide +kernel
theorem dL_acts_467 : decode cL_acts 467 = .ok (.iload 7, 2) := by decide +kernel
theorem dL_acts_469 : decode cL_acts 469 = .ok (.iadd, 1) := by decide +kernel
theorem dL_acts_470 : decode cL_acts 470 = .ok (.iaload, 1) := by decide +kernel
theorem dL_acts_471 : decode cL_acts 471 = .ok (.invokestatic 79, 3) := by decide +kernel
theorem dL_acts_474 : decode cL_acts 474 = .ok (.iload 8, 2) := by decide +kernel
theorem dL_acts_476 : decode cL_acts 476 = .ok (.if_icmp .ne 7, 3) := by decide +kernel
theorem dL_acts_479 : decode cL_acts 479 = .ok (.iconst 1, 1) := by decide +kernel
theorem dL_acts_480 : decode cL_acts 480 = .ok (.goto 4, 3) := by decide +kernel
theorem dL_acts_483 : decode cL_acts 483 = .ok (.iconst 0, 1) := by decide +kernel
theorem dL_acts_484 : decode cL_acts 484 = .ok (.ireturn, 1) := by decide +kernel
theorem dL_acts_485 : decode cL_acts 485 = .ok (.iload 6, 2) := by decide +kernel
theorem dL_acts_487 : decode cL_acts 487 = .ok (.bipush 15, 2) := by decide +kernel
theorem dL_acts_489 : decode cL_acts 489 = .ok (.if_icmp .ne 22, 3) := by decide +kernel
theorem dL_acts_492 : decode cL_acts 492 = .ok (.aload_n 0, 1) := by decide +kernel
theorem dL_acts_493 : decode cL_acts 493 = .ok (.invokestatic 82, 3) := by decide +kernel
theorem dL_acts_496 : decode cL_acts 496 = .ok (.aload_n 1, 1) := by decide +kernel
theorem dL_acts_497 : decode cL_acts 497 = .ok (.aload_n 2, 1) := by decide +kernel
theorem dL_acts_498 : decode cL_acts 498 = .ok (.aload_n 3, 1) := by decide +kernel
theorem dL_acts_499 : decode cL_acts 499 = .ok (.invokestatic 86, 3) := by decide +kernel
theorem dL_acts_502 : decode cL_acts 502 = .ok (.if_icmp .ne 7, 3) := by decide +kernel
theorem dL_acts_505 : decode cL_acts 505 = .ok (.iconst 1, 1) := by decide +kernel
theorem dL_acts_506 : decode cL_acts 506 = .ok (.goto 4, 3) := by decide +kernel
theorem dL_acts_509 : decode cL_acts 509 = .ok (.iconst 0, 1) := by decide +kernel
theorem dL_acts_510 : decode cL_acts 510 = .ok (.ireturn, 1) := by decide +kernel
theorem dL_acts_511 : decode cL_acts 511 = .ok (.iconst 1, 1) := by decide +kernel
theorem dL_acts_512 : decode cL_acts 512 = .ok (.iload 5, 2) := by decide +kernel
theorem dL_acts_514 : decode cL_acts 514 = .ok (.iload 5, 2) := by decide +kernel
theorem dL_acts_516 : decode cL_acts 516 = .ok (.iconst 5, 1) := by decide +kernel
theorem dL_acts_517 : decode cL_acts 517 = .ok (.irem, 1) := by decide +kernel
theorem dL_acts_518 : decode cL_acts 518 = .ok (.ifCond .ne 8, 3) := by decide +kernel
theorem dL_acts_521 : decode cL_acts 521 = .ok (.bipush 30, 2) := by decide +kernel
theorem dL_acts_523 : decode cL_acts 523 = .ok (.goto 4, 3) := by decide +kernel
theorem dL_acts_526 : decode cL_acts 526 = .ok (.iconst 5, 1) := by decide +kernel
theorem dL_acts_527 : decode cL_acts 527 = .ok (.irem, 1) := by decide +kernel
theorem dL_acts_528 : decode cL_acts 528 = .ok (.iadd, 1) := by decide +kernel
theorem dL_acts_529 : decode cL_acts 529 = .ok (.istore 7, 2) := by decide +kernel
theorem dL_acts_531 : decode cL_acts 531 = .ok (.aload_n 1, 1) := by decide +kernel
theorem dL_acts_532 : decode cL_acts 532 = .ok (.bipush 8, 2) := by decide +kernel
theorem dL_acts_534 : decode cL_acts 534 = .ok (.iaload, 1) := by decide +kernel
theorem dL_acts_535 : decode cL_acts 535 = .ok (.istore 8, 2) := by decide +kernel
theorem dL_acts_537 : decode cL_acts 537 = .ok (.iconst 0, 1) := by decide +kernel
theorem dL_acts_538 : decode cL_acts 538 = .ok (.istore 9, 2) := by decide +kernel
theorem dL_acts_540 : decode cL_acts 540 = .ok (.iload 9, 2) := by decide +kernel
theorem dL_acts_542 : decode cL_acts 542 = .ok (.iload 7, 2) := by decide +kernel
theorem dL_acts_544 : decode cL_acts 544 = .ok (.if_icmp .ge 29, 3) := by decide +kernel
theorem dL_acts_547 : decode cL_acts 547 = .ok (.iload 8, 2) := by decide +kernel
theorem dL_acts_549 : decode cL_acts 549 = .ok (.aload_n 1, 1) := by decide +kernel
theorem dL_acts_550 : decode cL_acts 550 = .ok (.aload_n 2, 1) := by decide +kernel
theorem dL_acts_551 : decode cL_acts 551 = .ok (.aload_n 3, 1) := by decide +kernel
theorem dL_acts_552 : decode cL_acts 552 = .ok (.iconst (-1), 1) := by decide +kernel
theorem dL_acts_553 : decode cL_acts 553 = .ok (.invokestatic 56, 3) := by decide +kernel
theorem dL_acts_556 : decode cL_acts 556 = .ok (.ifCond .eq 7, 3) := by decide +kernel
theorem dL_acts_559 : decode cL_acts 559 = .ok (.iconst 1, 1) := by decide +kernel
theorem dL_acts_560 : decode cL_acts 560 = .ok (.goto 4, 3) := by decide +kernel
theorem dL_acts_563 : decode cL_acts 563 = .ok (.iconst 0, 1) := by decide +kernel
theorem dL_acts_564 : decode cL_acts 564 = .ok (.iadd, 1) := by decide +kernel
theorem dL_acts_565 : decode cL_acts 565 = .ok (.istore 8, 2) := by decide +kernel
theorem dL_acts_567 : decode cL_acts 567 = .ok (.iinc 9 1, 3) := by decide +kernel
theorem dL_acts_570 : decode cL_acts 570 = .ok (.goto (-30), 3) := by decide +kernel
theorem dL_acts_573 : decode cL_acts 573 = .ok (.aload_n 0, 1) := by decide +kernel
theorem dL_acts_574 : decode cL_acts 574 = .ok (.iload 7, 2) := by decide +kernel
theorem dL_acts_576 : decode cL_acts 576 = .ok (.invokestatic 89, 3) := by decide +kernel
theorem dL_acts_579 : decode cL_acts 579 = .ok (.aload_n 1, 1) := by decide +kernel
theorem dL_acts_580 : decode cL_acts 580 = .ok (.bipush 8, 2) := by decide +kernel
theorem dL_acts_582 : decode cL_acts 582 = .ok (.iaload, 1) := by decide +kernel
theorem dL_acts_583 : decode cL_acts 583 = .ok (.iload 8, 2) := by decide +kernel
theorem dL_acts_585 : decode cL_acts 585 = .ok (.isub, 1) := by decide +kernel
theorem dL_acts_586 : decode cL_acts 586 = .ok (.if_icmp .ne 7, 3) := by decide +kernel
theorem dL_acts_589 : decode cL_acts 589 = .ok (.iconst 1, 1) := by decide +kernel
theorem dL_acts_590 : decode cL_acts 590 = .ok (.goto 4, 3) := by decide +kernel
theorem dL_acts_593 : decode cL_acts 593 = .ok (.iconst 0, 1) := by decide +kernel
theorem dL_acts_594 : decode cL_acts 594 = .ok (.ireturn, 1) := by decide +kernel
theorem cc_L_acts_L_low : CallC tL_acts tL_low 2 := ⟨by decide +kernel, by decide +kernel, by decide +kernel, by decide, by decide, qw_14, qw_278⟩
theorem cc_L_acts_L_place : CallC tL_acts tL_place 3 := ⟨by decide +kernel, by decide +kernel, by decide +kernel, by decide, by decide, qw_14, qw_451⟩
theorem cc_L_acts_L_gone : CallC tL_acts tL_gone 3 := ⟨by decide +kernel, by decide +kernel, by decide +kernel, by decide, by decide, qw_14, qw_490⟩
theorem cc_L_acts_L_finish : CallC tL_acts tL_finish 3 := ⟨by decide +kernel, by decide +kernel, by decide +kernel, by decide, by decide, qw_14, qw_584⟩
theorem cc_L_acts_L_tick : CallC tL_acts tL_tick 4 := ⟨by decide +kernel, by decide +kernel, by decide +kernel, by decide, by decide, qw_14, qw_587⟩
theorem cc_L_acts_L_plates : CallH tL_acts tL_plates hhL_plates 3 := ⟨by decide +kernel, by decide +kernel, by decide +kernel, by decide, by decide, qw_14, qw_286⟩
theorem cc_L_acts_L_requests : CallH tL_acts tL_requests hhL_requests 4 := ⟨by decide +kernel, by decide +kernel, by decide +kernel, by decide, by decide, qw_14, qw_414⟩
theorem cc_L_acts_L_cancels : CallH tL_acts tL_cancels hhL_cancels 2 := ⟨by decide +kernel, by decide +kernel, by decide +kernel, by decide, by decide, qw_14, qw_454⟩
theorem cc_L_acts_L_sets : CallH tL_acts tL_sets hhL_sets 3 := ⟨by decide +kernel, by decide +kernel, by decide +kernel, by decide, by decide, qw_14, qw_493⟩
theorem cc_L_acts_L_finishes : CallH tL_acts tL_finishes hhL_finishes 1 := ⟨by decide +kernel, by decide +kernel, by decide +kernel, by decide, by decide, qw_14, qw_507⟩
theorem cc_L_acts_L_passes : CallH tL_acts tL_passes hhL_passes 2 := ⟨by decide +kernel, by decide +kernel, by decide +kernel, by decide, by decide, qw_14, qw_597⟩
def kL_acts : Nat → WOp := cN 283 (cN 146 (cN 80 (cN 42 (cN 18 (cN 6 (cN 2 (cN 0 (cL 0 (o_iload 2 4)) (cL 2 (o_push 3 5))) (cN 3 (cL 3 (o_ishr 4)) (cN 4 (cL 4 (o_push 6 10000000)) (cL 6 (o_callS 9 2 tL_low 0 0))))) (cN 12 (cN 9 (cL 9 (o_istore 11 5)) (cN 11 (cL 11 (o_aload 12 1)) (cL 12 (o_push 14 6)))) (cN 14 (cL 14 (o_iald 15)) (cN 15 (cL 15 (o_push 18 9000)) (cL 18 (o_icmp_le 25 21)))))) (cN 29 (cN 22 (cN 21 (cL 21 (o_push 22 0)) (cL 22 (o_goto 32))) (cN 25 (cL 25 (o_iload 27 4)) (cN 27 (cL 27 (o_push 29 24)) (cL 29 (o_callS 32 2 tL_low 0 0))))) (cN 36 (cN 32 (cL 32 (o_istore 34 6)) (cN 34 (cL 34 (o_iload 36 6)) (cL 36 (o_if_ne 116 39)))) (cN 39 (cL 39 (o_aload 40 1)) (cN 40 (cL 40 (o_push 42 21)) (cL 42 (o_iald 43))))))) (cN 61 (cN 51 (cN 45 (cN 43 (cL 43 (o_istore 45 7)) (cL 45 (o_push 47 6))) (cN 47 (cL 47 (o_istore 49 8)) (cN 49 (cL 49 (o_iload 51 8)) (cL 51 (o_push 53 23))))) (cN 57 (cN 53 (cL 53 (o_icmp_ge 67 56)) (cN 56 (cL 56 (o_aload 57 1)) (cL 57 (o_iload 59 8)))) (cN 59 (cL 59 (o_push 60 0)) (cN 60 (cL 60 (o_iast 61)) (cL 61 (o_iinc 64 8 1)))))) (cN 72 (cN 68 (cN 64 (cL 64 (o_goto 49)) (cN 67 (cL 67 (o_aload 68 1)) (cL 68 (o_push 70 20)))) (cN 70 (cL 70 (o_push 71 1)) (cN 71 (cL 71 (o_iast 72)) (cL 72 (o_aload 73 1))))) (cN 75 (cN 73 (cL 73 (o_push 74 0)) (cN 74 (cL 74 (o_push 75 4)) (cL 75 (o_iload 77 5)))) (cN 77 (cL 77 (o_push 79 21)) (cN 79 (cL 79 (o_irem 80)) (cL 80 (o_iadd 81)))))))) (cN 111 (cN 94 (cN 85 (cN 82 (cN 81 (cL 81 (o_iast 82)) (cL 82 (o_aload 83 1))) (cN 83 (cL 83 (o_push 84 1)) (cN 84 (cL 84 (o_push 85 3)) (cL 85 (o_iload 87 5))))) (cN 90 (cN 87 (cL 87 (o_push 89 21)) (cN 89 (cL 89 (o_idiv 90)) (cL 90 (o_push 92 10)))) (cN 92 (cL 92 (o_irem 93)) (cN 93 (cL 93 (o_iadd 94)) (cL 94 (o_iast 95)))))) (cN 100 (cN 97 (cN 95 (cL 95 (o_aload 96 0)) (cN 96 (cL 96 (o_aload 97 1)) (cL 97 (o_push 98 0)))) (cN 98 (cL 98 (o_iald 99)) (cN 99 (cL 99 (o_aload 100 1)) (cL 100 (o_push 101 1))))) (cN 105 (cN 101 (cL 101 (o_iald 102)) (cN 102 (cL 102 (o_callSW 105 3 tL_plates hhL_plates 1 6)) (cL 105 (o_iload 107 7)))) (cN 107 (cL 107 (o_icmp_ne 114 110)) (cN 110 (cL 110 (o_push 111 1)) (cL 111 (o_goto 115))))))) (cN 129 (cN 120 (cN 115 (cN 114 (cL 114 (o_push 115 0)) (cL 115 (o_zret))) (cN 116 (cL 116 (o_iload 118 6)) (cN 118 (cL 118 (o_push 120 11)) (cL 120 (o_icmp_ge 292 123))))) (cN 126 (cN 123 (cL 123 (o_iload 125 5)) (cN 125 (cL 125 (o_aload 126 1)) (cL 126 (o_push 127 0)))) (cN 127 (cL 127 (o_iald 128)) (cN 128 (cL 128 (o_irem 129)) (cL 129 (o_istore 131 7)))))) (cN 138 (cN 135 (cN 131 (cL 131 (o_iload 133 5)) (cN 133 (cL 133 (o_push 135 24)) (cL 135 (o_idiv 136)))) (cN 136 (cL 136 (o_aload 137 1)) (cN 137 (cL 137 (o_push 138 1)) (cL 138 (o_iald 139))))) (cN 142 (cN 139 (cL 139 (o_irem 140)) (cN 140 (cL 140 (o_istore 142 8)) (cL 142 (o_aload 143 1)))) (cN 143 (cL 143 (o_push 145 6)) (cN 145 (cL 145 (o_iald 146)) (cL 146 (o_iload 148 5))))))))) (cN 222 (cN 187 (cN 168 (cN 155 (cN 151 (cN 148 (cL 148 (o_push 151 300)) (cL 151 (o_idiv 152))) (cN 152 (cL 152 (o_iload 154 5)) (cN 154 (cL 154 (o_push 155 3)) (cL 155 (o_irem 156))))) (cN 162 (cN 156 (cL 156 (o_if_ne 165 159)) (cN 159 (cL 159 (o_push 162 300)) (cL 162 (o_goto 167)))) (cN 165 (cL 165 (o_push 167 40)) (cN 167 (cL 167 (o_irem 168)) (cL 168 (o_iadd 169)))))) (cN 175 (cN 171 (cN 169 (cL 169 (o_istore 171 9)) (cL 171 (o_aload 172 1))) (cN 172 (cL 172 (o_push 174 21)) (cN 174 (cL 174 (o_iald 175)) (cL 175 (o_push 177 12))))) (cN 181 (cN 177 (cL 177 (o_icmp_ne 201 180)) (cN 180 (cL 180 (o_aload 181 0)) (cL 181 (o_iload 183 7)))) (cN 183 (cL 183 (o_iload 185 8)) (cN 185 (cL 185 (o_iload 187 9)) (cL 187 (o_callSW 190 4 tL_requests hhL_requests 1 6))))))) (cN 206 (cN 199 (cN 192 (cN 190 (cL 190 (o_push 192 (-2000003))) (cL 192 (o_icmp_ne 199 195))) (cN 195 (cL 195 (o_push 196 1)) (cN 196 (cL 196 (o_goto 200)) (cL 199 (o_push 200 0))))) (cN 202 (cN 200 (cL 200 (o_zret)) (cN 201 (cL 201 (o_push 202 5)) (cL 202 (o_aload 203 1)))) (cN 203 (cL 203 (o_push 205 21)) (cN 205 (cL 205 (o_iald 206)) (cL 206 (o_imul 207)))))) (cN 215 (cN 210 (cN 207 (cL 207 (o_istore 209 10)) (cN 209 (cL 209 (o_aload 210 2)) (cL 210 (o_iload 212 10)))) (cN 212 (cL 212 (o_aload 213 1)) (cN 213 (cL 213 (o_push 215 7)) (cL 215 (o_iald 216))))) (cN 218 (cN 216 (cL 216 (o_iast 217)) (cN 217 (cL 217 (o_aload 218 2)) (cL 218 (o_iload 220 10)))) (cN 220 (cL 220 (o_push 221 1)) (cN 221 (cL 221 (o_iadd 222)) (cL 222 (o_iload 224 7)))))))) (cN 252 (cN 237 (cN 229 (cN 225 (cN 224 (cL 224 (o_iast 225)) (cL 225 (o_aload 226 2))) (cN 226 (cL 226 (o_iload 228 10)) (cN 228 (cL 228 (o_push 229 2)) (cL 229 (o_iadd 230))))) (cN 233 (cN 230 (cL 230 (o_iload 232 8)) (cN 232 (cL 232 (o_iast 233)) (cL 233 (o_aload 234 2)))) (cN 234 (cL 234 (o_iload 236 10)) (cN 236 (cL 236 (o_push 237 3)) (cL 237 (o_iadd 238)))))) (cN 245 (cN 241 (cN 238 (cL 238 (o_iload 240 9)) (cN 240 (cL 240 (o_iast 241)) (cL 241 (o_aload 242 2)))) (cN 242 (cL 242 (o_iload 244 10)) (cN 244 (cL 244 (o_push 245 4)) (cL 245 (o_iadd 246))))) (cN 249 (cN 246 (cL 246 (o_aload 247 1)) (cN 247 (cL 247 (o_push 249 6)) (cL 249 (o_iald 250)))) (cN 250 (cL 250 (o_iast 251)) (cN 251 (cL 251 (o_aload 252 1)) (cL 252 (o_push 254 21))))))) (cN 265 (cN 258 (cN 255 (cN 254 (cL 254 (o_dup2 255)) (cL 255 (o_iald 256))) (cN 256 (cL 256 (o_push 257 1)) (cN 257 (cL 257 (o_iadd 258)) (cL 258 (o_iast 259))))) (cN 262 (cN 259 (cL 259 (o_aload 260 1)) (cN 260 (cL 260 (o_push 262 7)) (cL 262 (o_dup2 263)))) (cN 263 (cL 263 (o_iald 264)) (cN 264 (cL 264 (o_push 265 1)) (cL 265 (o_iadd 266)))))) (cN 274 (cN 268 (cN 266 (cL 266 (o_iast 267)) (cN 267 (cL 267 (o_aload 268 0)) (cL 268 (o_iload 270 7)))) (cN 270 (cL 270 (o_iload 272 8)) (cN 272 (cL 272 (o_iload 274 9)) (cL 274 (o_callSW 277 4 tL_requests hhL_requests 1 6))))) (cN 280 (cN 277 (cL 277 (o_aload 278 1)) (cN 278 (cL 278 (o_push 280 7)) (cL 280 (o_iald 281)))) (cN 281 (cL 281 (o_push 282 1)) (cN 282 (cL 282 (o_isub 283)) (cL 283 (o_icmp_ne 290 286)))))))))) (cN 436 (cN 357 (cN 321 (cN 304 (cN 292 (cN 287 (cN 286 (cL 286 (o_push 287 1)) (cL 287 (o_goto 291))) (cN 290 (cL 290 (o_push 291 0)) (cN 291 (cL 291 (o_zret)) (cL 292 (o_iload 294 6))))) (cN 299 (cN 294 (cL 294 (o_push 296 11)) (cN 296 (cL 296 (o_icmp_ne 380 299)) (cL 299 (o_iload 301 5)))) (cN 301 (cL 301 (o_aload 302 1)) (cN 302 (cL 302 (o_push 304 7)) (cL 304 (o_iald 305)))))) (cN 310 (cN 306 (cN 305 (cL 305 (o_push 306 1)) (cL 306 (o_iadd 307))) (cN 307 (cL 307 (o_irem 308)) (cN 308 (cL 308 (o_istore 310 7)) (cL 310 (o_aload 311 1))))) (cN 314 (cN 311 (cL 311 (o_aload 312 2)) (cN 312 (cL 312 (o_iload 314 7)) (cL 314 (o_callS 317 3 tL_place 0 0)))) (cN 317 (cL 317 (o_istore 319 8)) (cN 319 (cL 319 (o_iload 321 8)) (cL 321 (o_if_ge 341 324))))))) (cN 342 (cN 332 (cN 325 (cN 324 (cL 324 (o_aload 325 0)) (cL 325 (o_iload 327 7))) (cN 327 (cL 327 (o_callSW 330 2 tL_cancels hhL_cancels 1 6)) (cN 330 (cL 330 (o_push 332 (-2000001))) (cL 332 (o_icmp_ne 339 335))))) (cN 339 (cN 335 (cL 335 (o_push 336 1)) (cN 336 (cL 336 (o_goto 340)) (cL 339 (o_push 340 0)))) (cN 340 (cL 340 (o_zret)) (cN 341 (cL 341 (o_aload 342 1)) (cL 342 (o_push 344 6)))))) (cN 350 (cN 346 (cN 344 (cL 344 (o_iald 345)) (cN 345 (cL 345 (o_aload 346 2)) (cL 346 (o_push 347 5)))) (cN 347 (cL 347 (o_iload 349 8)) (cN 349 (cL 349 (o_imul 350)) (cL 350 (o_push 351 4))))) (cN 353 (cN 351 (cL 351 (o_iadd 352)) (cN 352 (cL 352 (o_iald 353)) (cL 353 (o_isub 354)))) (cN 354 (cL 354 (o_istore 356 9)) (cN 356 (cL 356 (o_aload 357 1)) (cL 357 (o_aload 358 2)))))))) (cN 398 (cN 379 (cN 366 (cN 360 (cN 358 (cL 358 (o_iload 360 8)) (cL 360 (o_callS 363 3 tL_gone 0 0))) (cN 363 (cL 363 (o_aload 364 0)) (cN 364 (cL 364 (o_iload 366 7)) (cL 366 (o_callSW 369 2 tL_cancels hhL_cancels 1 6))))) (cN 374 (cN 369 (cL 369 (o_iload 371 9)) (cN 371 (cL 371 (o_icmp_ne 378 374)) (cL 374 (o_push 375 1)))) (cN 375 (cL 375 (o_goto 379)) (cN 378 (cL 378 (o_push 379 0)) (cL 379 (o_zret)))))) (cN 390 (cN 384 (cN 380 (cL 380 (o_iload 382 6)) (cN 382 (cL 382 (o_push 384 15)) (cL 384 (o_icmp_ge 485 387)))) (cN 387 (cL 387 (o_iload 389 5)) (cN 389 (cL 389 (o_push 390 4)) (cL 390 (o_irem 391))))) (cN 394 (cN 391 (cL 391 (o_istore 393 7)) (cN 393 (cL 393 (o_aload 394 1)) (cL 394 (o_push 395 2)))) (cN 395 (cL 395 (o_iload 397 7)) (cN 397 (cL 397 (o_iadd 398)) (cL 398 (o_iald 399))))))) (cN 415 (cN 405 (cN 401 (cN 399 (cL 399 (o_istore 401 8)) (cL 401 (o_aload 402 1))) (cN 402 (cL 402 (o_push 403 2)) (cN 403 (cL 403 (o_iload 405 7)) (cL 405 (o_iadd 406))))) (cN 411 (cN 406 (cL 406 (o_iload 408 7)) (cN 408 (cL 408 (o_if_ne 420 411)) (cL 411 (o_iload 413 5)))) (cN 413 (cL 413 (o_push 414 4)) (cN 414 (cL 414 (o_idiv 415)) (cL 415 (o_push 416 4)))))) (cN 426 (cN 420 (cN 416 (cL 416 (o_irem 417)) (cN 417 (cL 417 (o_goto 461)) (cL 420 (o_iload 422 7)))) (cN 422 (cL 422 (o_push 423 1)) (cN 423 (cL 423 (o_icmp_ne 436 426)) (cL 426 (o_iload 428 5))))) (cN 430 (cN 428 (cL 428 (o_push 429 4)) (cN 429 (cL 429 (o_idiv 430)) (cL 430 (o_push 432 21)))) (cN 432 (cL 432 (o_irem 433)) (cN 433 (cL 433 (o_goto 461)) (cL 436 (o_iload 438 7))))))))) (cN 512 (cN 470 (cN 454 (cN 445 (cN 439 (cN 438 (cL 438 (o_push 439 2)) (cL 439 (o_icmp_ne 454 442))) (cN 442 (cL 442 (o_push 443 5)) (cN 443 (cL 443 (o_iload 445 5)) (cL 445 (o_push 446 4))))) (cN 449 (cN 446 (cL 446 (o_idiv 447)) (cN 447 (cL 447 (o_push 449 40)) (cL 449 (o_irem 450)))) (cN 450 (cL 450 (o_iadd 451)) (cN 451 (cL 451 (o_goto 461)) (cL 454 (o_iload 456 5)))))) (cN 462 (cN 458 (cN 456 (cL 456 (o_push 457 4)) (cN 457 (cL 457 (o_idiv 458)) (cL 458 (o_push 460 60)))) (cN 460 (cL 460 (o_irem 461)) (cN 461 (cL 461 (o_iast 462)) (cL 462 (o_aload 463 0))))) (cN 466 (cN 463 (cL 463 (o_iload 465 7)) (cN 465 (cL 465 (o_aload 466 1)) (cL 466 (o_push 467 2)))) (cN 467 (cL 467 (o_iload 469 7)) (cN 469 (cL 469 (o_iadd 470)) (cL 470 (o_iald 471))))))) (cN 492 (cN 480 (cN 474 (cN 471 (cL 471 (o_callSW 474 3 tL_sets hhL_sets 1 6)) (cL 474 (o_iload 476 8))) (cN 476 (cL 476 (o_icmp_ne 483 479)) (cN 479 (cL 479 (o_push 480 1)) (cL 480 (o_goto 484))))) (cN 485 (cN 483 (cL 483 (o_push 484 0)) (cN 484 (cL 484 (o_zret)) (cL 485 (o_iload 487 6)))) (cN 487 (cL 487 (o_push 489 15)) (cN 489 (cL 489 (o_icmp_ne 511 492)) (cL 492 (o_aload 493 0)))))) (cN 502 (cN 497 (cN 493 (cL 493 (o_callSW 496 1 tL_finishes hhL_finishes 1 6)) (cN 496 (cL 496 (o_aload 497 1)) (cL 497 (o_aload 498 2)))) (cN 498 (cL 498 (o_aload 499 3)) (cN 499 (cL 499 (o_callS 502 3 tL_finish 0 0)) (cL 502 (o_icmp_ne 509 505))))) (cN 509 (cN 505 (cL 505 (o_push 506 1)) (cN 506 (cL 506 (o_goto 510)) (cL 509 (o_push 510 0)))) (cN 510 (cL 510 (o_zret)) (cN 511 (cL 511 (o_push 512 1)) (cL 512 (o_iload 514 5)))))))) (cN 551 (cN 531 (cN 521 (cN 516 (cN 514 (cL 514 (o_iload 516 5)) (cL 516 (o_push 517 5))) (cN 517 (cL 517 (o_irem 518)) (cN 518 (cL 518 (o_if_ne 526 521)) (cL 521 (o_push 523 30))))) (cN 527 (cN 523 (cL 523 (o_goto 527)) (cN 526 (cL 526 (o_push 527 5)) (cL 527 (o_irem 528)))) (cN 528 (cL 528 (o_iadd 529)) (cN 529 (cL 529 (o_istore 531 7)) (cL 531 (o_aload 532 1)))))) (cN 540 (cN 535 (cN 532 (cL 532 (o_push 534 8)) (cN 534 (cL 534 (o_iald 535)) (cL 535 (o_istore 537 8)))) (cN 537 (cL 537 (o_push 538 0)) (cN 538 (cL 538 (o_istore 540 9)) (cL 540 (o_iload 542 9))))) (cN 547 (cN 542 (cL 542 (o_iload 544 7)) (cN 544 (cL 544 (o_icmp_ge 573 547)) (cL 547 (o_iload 549 8)))) (cN 549 (cL 549 (o_aload 550 1)) (cN 550 (cL 550 (o_aload 551 2)) (cL 551 (o_aload 552 3))))))) (cN 573 (cN 560 (cN 553 (cN 552 (cL 552 (o_push 553 (-1))) (cL 553 (o_callS 556 4 tL_tick 0 0))) (cN 556 (cL 556 (o_if_eq 563 559)) (cN 559 (cL 559 (o_push 560 1)) (cL 560 (o_goto 564))))) (cN 565 (cN 563 (cL 563 (o_push 564 0)) (cN 564 (cL 564 (o_iadd 565)) (cL 565 (o_istore 567 8)))) (cN 567 (cL 567 (o_iinc 570 9 1)) (cN 570 (cL 570 (o_goto 540)) (cL 573 (o_aload 574 0)))))) (cN 583 (cN 579 (cN 574 (cL 574 (o_iload 576 7)) (cN 576 (cL 576 (o_callSW 579 2 tL_passes hhL_passes 1 6)) (cL 579 (o_aload 580 1)))) (cN 580 (cL 580 (o_push 582 8)) (cN 582 (cL 582 (o_iald 583)) (cL 583 (o_iload 585 8))))) (cN 589 (cN 585 (cL 585 (o_isub 586)) (cN 586 (cL 586 (o_icmp_ne 593 589)) (cL 589 (o_push 590 1)))) (cN 590 (cL 590 (o_goto 594)) (cN 593 (cL 593 (o_push 594 0)) (cL 594 (o_zret))))))))))
theorem sL_acts : ∀ pc, Snd tL_acts G1 pc (kL_acts pc) := s_N (s_N (s_N (s_N (s_N (s_N (s_N (s_N (s_L (s_iload dL_acts_0)) (s_L (s_iconst dL_acts_2 (by decide +kernel)))) (s_N (s_L (s_o_ishr dL_acts_3)) (s_N (s_L (s_ldc dL_acts_4 qw_283)) (s_L (s_callS (d' := tL_low) (mc := 0) (ms := 0) cc_L_acts_L_low qw_276 qw_277 dL_acts_6))))) (s_N (s_N (s_L (s_istore dL_acts_9 (by decide))) (s_N (s_L (s_aload_n dL_acts_11 rfl)) (s_L (s_bipush dL_acts_12 (by decide +kernel))))) (s_N (s_L (s_iald dL_acts_14)) (s_N (s_L (s_sipush dL_acts_15 (by decide +kernel))) (s_L (s_o_icmp_le dL_acts_18 (by decide))))))) (s_N (s_N (s_N (s_L (s_iconst dL_acts_21 (by decide +kernel))) (s_L (s_o_goto dL_acts_22 (by decide)))) (s_N (s_L (s_iload dL_acts_25)) (s_N (s_L (s_bipush dL_acts_27 (by decide +kernel))) (s_L (s_callS (d' := tL_low) (mc := 0) (ms := 0) cc_L_acts_L_low qw_276 qw_277 dL_acts_29))))) (s_N (s_N (s_L (s_istore dL_acts_32 (by decide))) (s_N (s_L (s_iload dL_acts_34)) (s_L (s_o_if_ne dL_acts_36 (by decide))))) (s_N (s_L (s_aload_n dL_acts_39 rfl)) (s_N (s_L (s_bipush dL_acts_40 (by decide +kernel))) (s_L (s_iald dL_acts_42))))))) (s_N (s_N (s_N (s_N (s_L (s_istore dL_acts_43 (by decide))) (s_L (s_bipush dL_acts_45 (by decide +kernel)))) (s_N (s_L (s_istore dL_acts_47 (by decide))) (s_N (s_L (s_iload dL_acts_49)) (s_L (s_bipush dL_acts_51 (by decide +kernel)))))) (s_N (s_N (s_L (s_o_icmp_ge dL_acts_53 (by decide))) (s_N (s_L (s_aload_n dL_acts_56 rfl)) (s_L (s_iload dL_acts_57)))) (s_N (s_L (s_iconst dL_acts_59 (by decide +kernel))) (s_N (s_L (s_iast dL_acts_60)) (s_L (s_iinc (v := 1) dL_acts_61 (by decide +kernel) (by decide))))))) (s_N (s_N (s_N (s_L (s_o_goto dL_acts_64 (by decide))) (s_N (s_L (s_aload_n dL_acts_67 rfl)) (s_L (s_bipush dL_acts_68 (by decide +kernel))))) (s_N (s_L (s_iconst dL_acts_70 (by decide +kernel))) (s_N (s_L (s_iast dL_acts_71)) (s_L (s_aload_n dL_acts_72 rfl))))) (s_N (s_N (s_L (s_iconst dL_acts_73 (by decide +kernel))) (s_N (s_L (s_iconst dL_acts_74 (by decide +kernel))) (s_L (s_iload dL_acts_75)))) (s_N (s_L (s_bipush dL_acts_77 (by decide +kernel))) (s_N (s_L (s_o_irem dL_acts_79)) (s_L (s_o_iadd dL_acts_80)))))))) (s_N (s_N (s_N (s_N (s_N (s_L (s_iast dL_acts_81)) (s_L (s_aload_n dL_acts_82 rfl))) (s_N (s_L (s_iconst dL_acts_83 (by decide +kernel))) (s_N (s_L (s_iconst dL_acts_84 (by decide +kernel))) (s_L (s_iload dL_acts_85))))) (s_N (s_N (s_L (s_bipush dL_acts_87 (by decide +kernel))) (s_N (s_L (s_o_idiv dL_acts_89)) (s_L (s_bipush dL_acts_90 (by decide +kernel))))) (s_N (s_L (s_o_irem dL_acts_92)) (s_N (s_L (s_o_iadd dL_acts_93)) (s_L (s_iast dL_acts_94)))))) (s_N (s_N (s_N (s_L (s_aload_n dL_acts_95 rfl)) (s_N (s_L (s_aload_n dL_acts_96 rfl)) (s_L (s_iconst dL_acts_97 (by decide +kernel))))) (s_N (s_L (s_iald dL_acts_98)) (s_N (s_L (s_aload_n dL_acts_99 rfl)) (s_L (s_iconst dL_acts_100 (by decide +kernel)))))) (s_N (s_N (s_L (s_iald dL_acts_101)) (s_N (s_L (s_callSW (mc := 1) (ms := 6) cc_L_acts_L_plates qw_284 qw_285 dL_acts_102)) (s_L (s_iload dL_acts_105)))) (s_N (s_L (s_o_icmp_ne dL_acts_107 (by decide))) (s_N (s_L (s_iconst dL_acts_110 (by decide +kernel))) (s_L (s_o_goto dL_acts_111 (by decide)))))))) (s_N (s_N (s_N (s_N (s_L (s_iconst dL_acts_114 (by decide +kernel))) (s_L (s_zret rfl dL_acts_115))) (s_N (s_L (s_iload dL_acts_116)) (s_N (s_L (s_bipush dL_acts_118 (by decide +kernel))) (s_L (s_o_icmp_ge dL_acts_120 (by decide)))))) (s_N (s_N (s_L (s_iload dL_acts_123)) (s_N (s_L (s_aload_n dL_acts_125 rfl)) (s_L (s_iconst dL_acts_126 (by decide +kernel))))) (s_N (s_L (s_iald dL_acts_127)) (s_N (s_L (s_o_irem dL_acts_128)) (s_L (s_istore dL_acts_129 (by decide))))))) (s_N (s_N (s_N (s_L (s_iload dL_acts_131)) (s_N (s_L (s_bipush dL_acts_133 (by decide +kernel))) (s_L (s_o_idiv dL_acts_135)))) (s_N (s_L (s_aload_n dL_acts_136 rfl)) (s_N (s_L (s_iconst dL_acts_137 (by decide +kernel))) (s_L (s_iald dL_acts_138))))) (s_N (s_N (s_L (s_o_irem dL_acts_139)) (s_N (s_L (s_istore dL_acts_140 (by decide))) (s_L (s_aload_n dL_acts_142 rfl)))) (s_N (s_L (s_bipush dL_acts_143 (by decide +kernel))) (s_N (s_L (s_iald dL_acts_145)) (s_L (s_iload dL_acts_146))))))))) (s_N (s_N (s_N (s_N (s_N (s_N (s_L (s_sipush dL_acts_148 (by decide +kernel))) (s_L (s_o_idiv dL_acts_151))) (s_N (s_L (s_iload dL_acts_152)) (s_N (s_L (s_iconst dL_acts_154 (by decide +kernel))) (s_L (s_o_irem dL_acts_155))))) (s_N (s_N (s_L (s_o_if_ne dL_acts_156 (by decide))) (s_N (s_L (s_sipush dL_acts_159 (by decide +kernel))) (s_L (s_o_goto dL_acts_162 (by decide))))) (s_N (s_L (s_bipush dL_acts_165 (by decide +kernel))) (s_N (s_L (s_o_irem dL_acts_167)) (s_L (s_o_iadd dL_acts_168)))))) (s_N (s_N (s_N (s_L (s_istore dL_acts_169 (by decide))) (s_L (s_aload_n dL_acts_171 rfl))) (s_N (s_L (s_bipush dL_acts_172 (by decide +kernel))) (s_N (s_L (s_iald dL_acts_174)) (s_L (s_bipush dL_acts_175 (by decide +kernel)))))) (s_N (s_N (s_L (s_o_icmp_ne dL_acts_177 (by decide))) (s_N (s_L (s_aload_n dL_acts_180 rfl)) (s_L (s_iload dL_acts_181)))) (s_N (s_L (s_iload dL_acts_183)) (s_N (s_L (s_iload dL_acts_185)) (s_L (s_callSW (mc := 1) (ms := 6) cc_L_acts_L_requests qw_412 qw_413 dL_acts_187))))))) (s_N (s_N (s_N (s_N (s_L (s_ldc dL_acts_190 qw_448)) (s_L (s_o_icmp_ne dL_acts_192 (by decide)))) (s_N (s_L (s_iconst dL_acts_195 (by decide +kernel))) (s_N (s_L (s_o_goto dL_acts_196 (by decide))) (s_L (s_iconst dL_acts_199 (by decide +kernel)))))) (s_N (s_N (s_L (s_zret rfl dL_acts_200)) (s_N (s_L (s_iconst dL_acts_201 (by decide +kernel))) (s_L (s_aload_n dL_acts_202 rfl)))) (s_N (s_L (s_bipush dL_acts_203 (by decide +kernel))) (s_N (s_L (s_iald dL_acts_205)) (s_L (s_o_imul dL_acts_206)))))) (s_N (s_N (s_N (s_L (s_istore dL_acts_207 (by decide))) (s_N (s_L (s_aload_n dL_acts_209 rfl)) (s_L (s_iload dL_acts_210)))) (s_N (s_L (s_aload_n dL_acts_212 rfl)) (s_N (s_L (s_bipush dL_acts_213 (by decide +kernel))) (s_L (s_iald dL_acts_215))))) (s_N (s_N (s_L (s_iast dL_acts_216)) (s_N (s_L (s_aload_n dL_acts_217 rfl)) (s_L (s_iload dL_acts_218)))) (s_N (s_L (s_iconst dL_acts_220 (by decide +kernel))) (s_N (s_L (s_o_iadd dL_acts_221)) (s_L (s_iload dL_acts_222)))))))) (s_N (s_N (s_N (s_N (s_N (s_L (s_iast dL_acts_224)) (s_L (s_aload_n dL_acts_225 rfl))) (s_N (s_L (s_iload dL_acts_226)) (s_N (s_L (s_iconst dL_acts_228 (by decide +kernel))) (s_L (s_o_iadd dL_acts_229))))) (s_N (s_N (s_L (s_iload dL_acts_230)) (s_N (s_L (s_iast dL_acts_232)) (s_L (s_aload_n dL_acts_233 rfl)))) (s_N (s_L (s_iload dL_acts_234)) (s_N (s_L (s_iconst dL_acts_236 (by decide +kernel))) (s_L (s_o_iadd dL_acts_237)))))) (s_N (s_N (s_N (s_L (s_iload dL_acts_238)) (s_N (s_L (s_iast dL_acts_240)) (s_L (s_aload_n dL_acts_241 rfl)))) (s_N (s_L (s_iload dL_acts_242)) (s_N (s_L (s_iconst dL_acts_244 (by decide +kernel))) (s_L (s_o_iadd dL_acts_245))))) (s_N (s_N (s_L (s_aload_n dL_acts_246 rfl)) (s_N (s_L (s_bipush dL_acts_247 (by decide +kernel))) (s_L (s_iald dL_acts_249)))) (s_N (s_L (s_iast dL_acts_250)) (s_N (s_L (s_aload_n dL_acts_251 rfl)) (s_L (s_bipush dL_acts_252 (by decide +kernel)))))))) (s_N (s_N (s_N (s_N (s_L (s_o_dup2 dL_acts_254)) (s_L (s_iald dL_acts_255))) (s_N (s_L (s_iconst dL_acts_256 (by decide +kernel))) (s_N (s_L (s_o_iadd dL_acts_257)) (s_L (s_iast dL_acts_258))))) (s_N (s_N (s_L (s_aload_n dL_acts_259 rfl)) (s_N (s_L (s_bipush dL_acts_260 (by decide +kernel))) (s_L (s_o_dup2 dL_acts_262)))) (s_N (s_L (s_iald dL_acts_263)) (s_N (s_L (s_iconst dL_acts_264 (by decide +kernel))) (s_L (s_o_iadd dL_acts_265)))))) (s_N (s_N (s_N (s_L (s_iast dL_acts_266)) (s_N (s_L (s_aload_n dL_acts_267 rfl)) (s_L (s_iload dL_acts_268)))) (s_N (s_L (s_iload dL_acts_270)) (s_N (s_L (s_iload dL_acts_272)) (s_L (s_callSW (mc := 1) (ms := 6) cc_L_acts_L_requests qw_412 qw_413 dL_acts_274))))) (s_N (s_N (s_L (s_aload_n dL_acts_277 rfl)) (s_N (s_L (s_bipush dL_acts_278 (by decide +kernel))) (s_L (s_iald dL_acts_280)))) (s_N (s_L (s_iconst dL_acts_281 (by decide +kernel))) (s_N (s_L (s_o_isub dL_acts_282)) (s_L (s_o_icmp_ne dL_acts_283 (by decide))))))))))) (s_N (s_N (s_N (s_N (s_N (s_N (s_N (s_L (s_iconst dL_acts_286 (by decide +kernel))) (s_L (s_o_goto dL_acts_287 (by decide)))) (s_N (s_L (s_iconst dL_acts_290 (by decide +kernel))) (s_N (s_L (s_zret rfl dL_acts_291)) (s_L (s_iload dL_acts_292))))) (s_N (s_N (s_L (s_bipush dL_acts_294 (by decide +kernel))) (s_N (s_L (s_o_icmp_ne dL_acts_296 (by decide))) (s_L (s_iload dL_acts_299)))) (s_N (s_L (s_aload_n dL_acts_301 rfl)) (s_N (s_L (s_bipush dL_acts_302 (by decide +kernel))) (s_L (s_iald dL_acts_304)))))) (s_N (s_N (s_N (s_L (s_iconst dL_acts_305 (by decide +kernel))) (s_L (s_o_iadd dL_acts_306))) (s_N (s_L (s_o_irem dL_acts_307)) (s_N (s_L (s_istore dL_acts_308 (by decide))) (s_L (s_aload_n dL_acts_310 rfl))))) (s_N (s_N (s_L (s_aload_n dL_acts_311 rfl)) (s_N (s_L (s_iload dL_acts_312)) (s_L (s_callS (d' := tL_place) (mc := 0) (ms := 0) cc_L_acts_L_place qw_449 qw_450 dL_acts_314)))) (s_N (s_L (s_istore dL_acts_317 (by decide))) (s_N (s_L (s_iload dL_acts_319)) (s_L (s_o_if_ge dL_acts_321 (by decide)))))))) (s_N (s_N (s_N (s_N (s_L (s_aload_n dL_acts_324 rfl)) (s_L (s_iload dL_acts_325))) (s_N (s_L (s_callSW (mc := 1) (ms := 6) cc_L_acts_L_cancels qw_452 qw_453 dL_acts_327)) (s_N (s_L (s_ldc dL_acts_330 qw_487)) (s_L (s_o_icmp_ne dL_acts_332 (by decide)))))) (s_N (s_N (s_L (s_iconst dL_acts_335 (by decide +kernel))) (s_N (s_L (s_o_goto dL_acts_336 (by decide))) (s_L (s_iconst dL_acts_339 (by decide +kernel))))) (s_N (s_L (s_zret rfl dL_acts_340)) (s_N (s_L (s_aload_n dL_acts_341 rfl)) (s_L (s_bipush dL_acts_342 (by decide +kernel))))))) (s_N (s_N (s_N (s_L (s_iald dL_acts_344)) (s_N (s_L (s_aload_n dL_acts_345 rfl)) (s_L (s_iconst dL_acts_346 (by decide +kernel))))) (s_N (s_L (s_iload dL_acts_347)) (s_N (s_L (s_o_imul dL_acts_349)) (s_L (s_iconst dL_acts_350 (by decide +kernel)))))) (s_N (s_N (s_L (s_o_iadd dL_acts_351)) (s_N (s_L (s_iald dL_acts_352)) (s_L (s_o_isub dL_acts_353)))) (s_N (s_L (s_istore dL_acts_354 (by decide))) (s_N (s_L (s_aload_n dL_acts_356 rfl)) (s_L (s_aload_n dL_acts_357 rfl)))))))) (s_N (s_N (s_N (s_N (s_N (s_L (s_iload dL_acts_358)) (s_L (s_callS (d' := tL_gone) (mc := 0) (ms := 0) cc_L_acts_L_gone qw_488 qw_489 dL_acts_360))) (s_N (s_L (s_aload_n dL_acts_363 rfl)) (s_N (s_L (s_iload dL_acts_364)) (s_L (s_callSW (mc := 1) (ms := 6) cc_L_acts_L_cancels qw_452 qw_453 dL_acts_366))))) (s_N (s_N (s_L (s_iload dL_acts_369)) (s_N (s_L (s_o_icmp_ne dL_acts_371 (by decide))) (s_L (s_iconst dL_acts_374 (by decide +kernel))))) (s_N (s_L (s_o_goto dL_acts_375 (by decide))) (s_N (s_L (s_iconst dL_acts_378 (by decide +kernel))) (s_L (s_zret rfl dL_acts_379)))))) (s_N (s_N (s_N (s_L (s_iload dL_acts_380)) (s_N (s_L (s_bipush dL_acts_382 (by decide +kernel))) (s_L (s_o_icmp_ge dL_acts_384 (by decide))))) (s_N (s_L (s_iload dL_acts_387)) (s_N (s_L (s_iconst dL_acts_389 (by decide +kernel))) (s_L (s_o_irem dL_acts_390))))) (s_N (s_N (s_L (s_istore dL_acts_391 (by decide))) (s_N (s_L (s_aload_n dL_acts_393 rfl)) (s_L (s_iconst dL_acts_394 (by decide +kernel))))) (s_N (s_L (s_iload dL_acts_395)) (s_N (s_L (s_o_iadd dL_acts_397)) (s_L (s_iald dL_acts_398))))))) (s_N (s_N (s_N (s_N (s_L (s_istore dL_acts_399 (by decide))) (s_L (s_aload_n dL_acts_401 rfl))) (s_N (s_L (s_iconst dL_acts_402 (by decide +kernel))) (s_N (s_L (s_iload dL_acts_403)) (s_L (s_o_iadd dL_acts_405))))) (s_N (s_N (s_L (s_iload dL_acts_406)) (s_N (s_L (s_o_if_ne dL_acts_408 (by decide))) (s_L (s_iload dL_acts_411)))) (s_N (s_L (s_iconst dL_acts_413 (by decide +kernel))) (s_N (s_L (s_o_idiv dL_acts_414)) (s_L (s_iconst dL_acts_415 (by decide +kernel))))))) (s_N (s_N (s_N (s_L (s_o_irem dL_acts_416)) (s_N (s_L (s_o_goto dL_acts_417 (by decide))) (s_L (s_iload dL_acts_420)))) (s_N (s_L (s_iconst dL_acts_422 (by decide +kernel))) (s_N (s_L (s_o_icmp_ne dL_acts_423 (by decide))) (s_L (s_iload dL_acts_426))))) (s_N (s_N (s_L (s_iconst dL_acts_428 (by decide +kernel))) (s_N (s_L (s_o_idiv dL_acts_429)) (s_L (s_bipush dL_acts_430 (by decide +kernel))))) (s_N (s_L (s_o_irem dL_acts_432)) (s_N (s_L (s_o_goto dL_acts_433 (by decide))) (s_L (s_iload dL_acts_436))))))))) (s_N (s_N (s_N (s_N (s_N (s_N (s_L (s_iconst dL_acts_438 (by decide +kernel))) (s_L (s_o_icmp_ne dL_acts_439 (by decide)))) (s_N (s_L (s_iconst dL_acts_442 (by decide +kernel))) (s_N (s_L (s_iload dL_acts_443)) (s_L (s_iconst dL_acts_445 (by decide +kernel)))))) (s_N (s_N (s_L (s_o_idiv dL_acts_446)) (s_N (s_L (s_bipush dL_acts_447 (by decide +kernel))) (s_L (s_o_irem dL_acts_449)))) (s_N (s_L (s_o_iadd dL_acts_450)) (s_N (s_L (s_o_goto dL_acts_451 (by decide))) (s_L (s_iload dL_acts_454)))))) (s_N (s_N (s_N (s_L (s_iconst dL_acts_456 (by decide +kernel))) (s_N (s_L (s_o_idiv dL_acts_457)) (s_L (s_bipush dL_acts_458 (by decide +kernel))))) (s_N (s_L (s_o_irem dL_acts_460)) (s_N (s_L (s_iast dL_acts_461)) (s_L (s_aload_n dL_acts_462 rfl))))) (s_N (s_N (s_L (s_iload dL_acts_463)) (s_N (s_L (s_aload_n dL_acts_465 rfl)) (s_L (s_iconst dL_acts_466 (by decide +kernel))))) (s_N (s_L (s_iload dL_acts_467)) (s_N (s_L (s_o_iadd dL_acts_469)) (s_L (s_iald dL_acts_470))))))) (s_N (s_N (s_N (s_N (s_L (s_callSW (mc := 1) (ms := 6) cc_L_acts_L_sets qw_491 qw_492 dL_acts_471)) (s_L (s_iload dL_acts_474))) (s_N (s_L (s_o_icmp_ne dL_acts_476 (by decide))) (s_N (s_L (s_iconst dL_acts_479 (by decide +kernel))) (s_L (s_o_goto dL_acts_480 (by decide)))))) (s_N (s_N (s_L (s_iconst dL_acts_483 (by decide +kernel))) (s_N (s_L (s_zret rfl dL_acts_484)) (s_L (s_iload dL_acts_485)))) (s_N (s_L (s_bipush dL_acts_487 (by decide +kernel))) (s_N (s_L (s_o_icmp_ne dL_acts_489 (by decide))) (s_L (s_aload_n dL_acts_492 rfl)))))) (s_N (s_N (s_N (s_L (s_callSW (mc := 1) (ms := 6) cc_L_acts_L_finishes qw_505 qw_506 dL_acts_493)) (s_N (s_L (s_aload_n dL_acts_496 rfl)) (s_L (s_aload_n dL_acts_497 rfl)))) (s_N (s_L (s_aload_n dL_acts_498 rfl)) (s_N (s_L (s_callS (d' := tL_finish) (mc := 0) (ms := 0) cc_L_acts_L_finish qw_582 qw_583 dL_acts_499)) (s_L (s_o_icmp_ne dL_acts_502 (by decide)))))) (s_N (s_N (s_L (s_iconst dL_acts_505 (by decide +kernel))) (s_N (s_L (s_o_goto dL_acts_506 (by decide))) (s_L (s_iconst dL_acts_509 (by decide +kernel))))) (s_N (s_L (s_zret rfl dL_acts_510)) (s_N (s_L (s_iconst dL_acts_511 (by decide +kernel))) (s_L (s_iload dL_acts_512)))))))) (s_N (s_N (s_N (s_N (s_N (s_L (s_iload dL_acts_514)) (s_L (s_iconst dL_acts_516 (by decide +kernel)))) (s_N (s_L (s_o_irem dL_acts_517)) (s_N (s_L (s_o_if_ne dL_acts_518 (by decide))) (s_L (s_bipush dL_acts_521 (by decide +kernel)))))) (s_N (s_N (s_L (s_o_goto dL_acts_523 (by decide))) (s_N (s_L (s_iconst dL_acts_526 (by decide +kernel))) (s_L (s_o_irem dL_acts_527)))) (s_N (s_L (s_o_iadd dL_acts_528)) (s_N (s_L (s_istore dL_acts_529 (by decide))) (s_L (s_aload_n dL_acts_531 rfl)))))) (s_N (s_N (s_N (s_L (s_bipush dL_acts_532 (by decide +kernel))) (s_N (s_L (s_iald dL_acts_534)) (s_L (s_istore dL_acts_535 (by decide))))) (s_N (s_L (s_iconst dL_acts_537 (by decide +kernel))) (s_N (s_L (s_istore dL_acts_538 (by decide))) (s_L (s_iload dL_acts_540))))) (s_N (s_N (s_L (s_iload dL_acts_542)) (s_N (s_L (s_o_icmp_ge dL_acts_544 (by decide))) (s_L (s_iload dL_acts_547)))) (s_N (s_L (s_aload_n dL_acts_549 rfl)) (s_N (s_L (s_aload_n dL_acts_550 rfl)) (s_L (s_aload_n dL_acts_551 rfl))))))) (s_N (s_N (s_N (s_N (s_L (s_iconst dL_acts_552 (by decide +kernel))) (s_L (s_callS (d' := tL_tick) (mc := 0) (ms := 0) cc_L_acts_L_tick qw_585 qw_586 dL_acts_553))) (s_N (s_L (s_o_if_eq dL_acts_556 (by decide))) (s_N (s_L (s_iconst dL_acts_559 (by decide +kernel))) (s_L (s_o_goto dL_acts_560 (by decide)))))) (s_N (s_N (s_L (s_iconst dL_acts_563 (by decide +kernel))) (s_N (s_L (s_o_iadd dL_acts_564)) (s_L (s_istore dL_acts_565 (by decide))))) (s_N (s_L (s_iinc (v := 1) dL_acts_567 (by decide +kernel) (by decide))) (s_N (s_L (s_o_goto dL_acts_570 (by decide))) (s_L (s_aload_n dL_acts_573 rfl)))))) (s_N (s_N (s_N (s_L (s_iload dL_acts_574)) (s_N (s_L (s_callSW (mc := 1) (ms := 6) cc_L_acts_L_passes qw_595 qw_596 dL_acts_576)) (s_L (s_aload_n dL_acts_579 rfl)))) (s_N (s_L (s_bipush dL_acts_580 (by decide +kernel))) (s_N (s_L (s_iald dL_acts_582)) (s_L (s_iload dL_acts_583))))) (s_N (s_N (s_L (s_o_isub dL_acts_585)) (s_N (s_L (s_o_icmp_ne dL_acts_586 (by decide))) (s_L (s_iconst dL_acts_589 (by decide +kernel))))) (s_N (s_L (s_o_goto dL_acts_590 (by decide))) (s_N (s_L (s_iconst dL_acts_593 (by decide +kernel))) (s_L (s_zret rfl dL_acts_594))))))))))
/-! L_isSo -/
def tL_isSo : TrD := (yL_isSo, cL_isSo, 7, some .boolean, 8, 127)
theorem dL_isSo_0 : decode cL_isSo 0 = .ok (.iconst 1, 1) := by decide +kernel
theorem dL_isSo_1 : decode cL_isSo 1 = .ok (.istore 4, 2) := by decide +kernel
theorem dL_isSo_3 : decode cL_isSo 3 = .ok (.iconst 0, 1) := by decide +kernel
theorem dL_isSo_4 : decode cL_isSo 4 = .ok (.istore 5, 2) := by decide +kernel
theorem dL_isSo_6 : decode cL_isSo 6 = .ok (.iload 5, 2) := by decide +kernel
theorem dL_isSo_8 : decode cL_isSo 8 = .ok (.aload_n 1, 1) := by decide +kernel
theorem dL_isSo_9 : decode cL_isSo 9 = .ok (.bipush 21, 2) := by decide +kernel
theorem dL_isSo_11 : decode cL_isSo 11 = .ok (.iaload, 1) := by decide +kernel
theorem dL_isSo_12 : decode cL_isSo 12 = .ok (.if_icmp .ge 181, 3) := by decide +kernel
theorem dL_isSo_15 : decode cL_isSo 15 = .ok (.iload 4, 2) := by decide +kernel
theorem dL_isSo_17 : decode cL_isSo 17 = .ok (.ifCond .eq 176, 3) := by decide +kernel
theorem dL_isSo_20 : decode cL_isSo 20 = .ok (.aload_n 2, 1) := by decide +kernel
theorem dL_isSo_21 : decode cL_isSo 21 = .ok (.iconst 5, 1) := by decide +kernel
theorem dL_isSo_22 : decode cL_isSo 22 = .ok (.iload 5, 2) := by decide +kernel
theorem dL_isSo_24 : decode cL_isSo 24 = .ok (.imul, 1) := by decide +kernel
theorem dL_isSo_25 : decode cL_isSo 25 = .ok (.iaload, 1) := by decide +kernel
theorem dL_isSo_26 : decode cL_isSo 26 = .ok (.istore 6, 2) := by decide +kernel
theorem dL_isSo_28 : decode cL_isSo 28 = .ok (.aload_n 0, 1) := by decide +kernel
theorem dL_isSo_29 : decode cL_isSo 29 = .ok (.iload 5, 2) := by decide +kernel
theorem dL_isSo_31 : decode cL_isSo 31 = .ok (.invokestatic 107, 3) := by decide +kernel
theorem dL_isSo_34 : decode cL_isSo 34 = .ok (.iload 6, 2) := by decide +kernel
theorem dL_isSo_36 : decode cL_isSo 36 = .ok (.if_icmp .ne 148, 3) := by decide +kernel
theorem dL_isSo_39 : decode cL_isSo 39 = .ok (.aload_n 0, 1) := by decide +kernel
theorem dL_isSo_40 : decode cL_isSo 40 = .ok (.iload 6, 2) := by decide +kernel
theorem dL_isSo_42 : decode cL_isSo 42 = .ok (.iconst 0, 1) := by decide +kernel
theorem dL_isSo_43 : decode cL_isSo 43 = .ok (.invokestatic 109, 3) := by decide +kernel
theorem dL_isSo_46 : decode cL_isSo 46 = .ok (.aload_n 2, 1) := by decide +kernel
theorem dL_isSo_47 : decode cL_isSo 47 = .ok (.iconst 5, 1) := by decide +kernel
theorem dL_isSo_48 : decode cL_isSo 48 = .ok (.iload 5, 2) := by decide +kernel
theorem dL_isSo_50 : decode cL_isSo 50 = .ok (.imul, 1) := by decide +kernel
theorem dL_isSo_51 : decode cL_isSo 51 = .ok (.iconst 1, 1) := by decide +kernel
theorem dL_isSo_52 : decode cL_isSo 52 = .ok (.iadd, 1) := by decide +kernel
theorem dL_isSo_53 : decode cL_isSo 53 = .ok (.iaload, 1) := by decide +kernel
theorem dL_isSo_54 : decode cL_isSo 54 = .ok (.if_icmp .ne 130, 3) := by decide +kernel
theorem dL_isSo_57 : decode cL_isSo 57 = .ok (.aload_n 0, 1) := by decide +kernel
theorem dL_isSo_58 : decode cL_isSo 58 = .ok (.iload 6, 2) := by decide +kernel
theorem dL_isSo_60 : decode cL_isSo 60 = .ok (.iconst 1, 1) := by decide +kernel
theorem dL_isSo_61 : decode cL_isSo 61 = .ok (.invokestatic 109, 3) := by decide +kernel
theorem dL_isSo_64 : decode cL_isSo 64 = .ok (.aload_n 2, 1) := by decide +kernel
theorem dL_isSo_65 : decode cL_isSo 65 = .ok (.iconst 5, 1) := by decide +kernel
theorem dL_isSo_66 : decode cL_isSo 66 = .ok (.iload 5, 2) := by decide +kernel
theorem dL_isSo_68 : decode cL_isSo 68 = .ok (.imul, 1) := by decide +kernel
theorem dL_isSo_69 : decode cL_isSo 69 = .ok (.iconst 2, 1) := by decide +kernel
theorem dL_isSo_70 : decode cL_isSo 70 = .ok (.iadd, 1) := by decide +kernel
theorem dL_isSo_71 : decode cL_isSo 71 = .ok (.iaload, 1) := by decide +kernel
theorem dL_isSo_72 : decode cL_isSo 72 = .ok (.if_icmp .ne 112, 3) := by decide +kernel
theorem dL_isSo_75 : decode cL_isSo 75 = .ok (.aload_n 0, 1) := by decide +kernel
theorem dL_isSo_76 : decode cL_isSo 76 = .ok (.iload 6, 2) := by decide +kernel
theorem dL_isSo_78 : decode cL_isSo 78 = .ok (.iconst 2, 1) := by decide +kernel
theorem dL_isSo_79 : decode cL_isSo 79 = .ok (.invokestatic 109, 3) := by decide +kernel
theorem dL_isSo_82 : decode cL_isSo 82 = .ok (.aload_n 2, 1) := by decide +kernel
theorem dL_isSo_83 : decode cL_isSo 83 = .ok (.iconst 5, 1) := by decide +kernel
theorem dL_isSo_84 : decode cL_isSo 84 = .ok (.iload 5, 2) := by decide +kernel
theorem dL_isSo_86 : decode cL_isSo 86 = .ok (.imul, 1) := by decide +kernel
theorem dL_isSo_87 : decode cL_isSo 87 = .ok (.iconst 3, 1) := by decide +kernel
theorem dL_isSo_88 : decode cL_isSo 88 = .ok (.iadd, 1) := by decide +kernel
theorem dL_isSo_89 : decode cL_isSo 89 = .ok (.iaload, 1) := by decide +kernel
theorem dL_isSo_90 : decode cL_isSo 90 = .ok (.if_icmp .ne 94, 3) := by decide +kernel
theorem dL_isSo_93 : decode cL_isSo 93 = .ok (.aload_n 0, 1) := by decide +kernel
theorem dL_isSo_94 : decode cL_isSo 94 = .ok (.iload 6, 2) := by decide +kernel
theorem dL_isSo_96 : decode cL_isSo 96 = .ok (.iconst 3, 1) := by decide +kernel
theorem dL_isSo_97 : decode cL_isSo 97 = .ok (.invokestatic 109, 3) := by decide +kernel
theorem dL_isSo_100 : decode cL_isSo 100 = .ok (.aload_n 2, 1) := by decide +kernel
theorem dL_isSo_101 : decode cL_isSo 101 = .ok (.iconst 5, 1) := by decide +kernel
theorem dL_isSo_102 : decode cL_isSo 102 = .ok (.iload 5, 2) := by decide +kernel
theorem dL_isSo_104 : decode cL_isSo 104 = .ok (.imul, 1) := by decide +kernel
theorem dL_isSo_105 : decode cL_isSo 105 = .ok (.iconst 4, 1) := by decide +kernel
theorem dL_isSo_106 : decode cL_isSo 106 = .ok (.iadd, 1) := by decide +kernel
theorem dL_isSo_107 : decode cL_isSo 107 = .ok (.iaload, 1) := by decide +kernel
theorem dL_isSo_108 : decode cL_isSo 108 = .ok (.if_icmp .ne 76, 3) := by decide +kernel
theorem dL_isSo_111 : decode cL_isSo 111 = .ok (.aload_n 0, 1) := by decide +kernel
theorem dL_isSo_112 : decode cL_isSo 112 = .ok (.iload 6, 2) := by decide +kernel
theorem dL_isSo_114 : decode cL_isSo 114 = .ok (.iconst 4, 1) := by decide +kernel
theorem dL_isSo_115 : decode cL_isSo 115 = .ok (.invokestatic 109, 3) := by decide +kernel
theorem dL_isSo_118 : decode cL_isSo 118 = .ok (.aload_n 2, 1) := by decide +kernel
theorem dL_isSo_119 : decode cL_isSo 119 = .ok (.iconst 5, 1) := by decide +kernel
theorem dL_isSo_120 : decode cL_isSo 120 = .ok (.iload 5, 2) := by decide +kernel
theorem dL_isSo_122 : decode cL_isSo 122 = .ok (.imul, 1) := by decide +kernel
theorem dL_isSo_123 : decode cL_isSo 123 = .ok (.iconst 1, 1) := by decide +kernel
theorem dL_isSo_124 : decode cL_isSo 124 = .ok (.iadd, 1) := by decide +kernel
theorem dL_isSo_125 : decode cL_isSo 125 = .ok (.iaload, 1) := by decide +kernel
theorem dL_isSo_126 : decode cL_isSo 126 = .ok (.aload_n 1, 1) := by decide +kernel
theorem dL_isSo_127 : decode cL_isSo 127 = .ok (.bipush 16, 2) := by decide +kernel
theorem dL_isSo_129 : decode cL_isSo 129 = .ok (.iaload, 1) := by decide +kernel
theorem dL_isSo_130 : decode cL_isSo 130 = .ok (.isub, 1) := by decide +kernel
theorem dL_isSo_131 : decode cL_isSo 131 = .ok (.invokestatic 43, 3) := by decide +kernel
theorem dL_isSo_134 : decode cL_isSo 134 = .ok (.if_icmp .ne 50, 3) := by decide +kernel
theorem dL_isSo_137 : decode cL_isSo 137 = .ok (.aload_n 0, 1) := by decide +kernel
theorem dL_isSo_138 : decode cL_isSo 138 = .ok (.iload 6, 2) := by decide +kernel
theorem dL_isSo_140 : decode cL_isSo 140 = .ok (.iconst 5, 1) := by decide +kernel
theorem dL_isSo_141 : decode cL_isSo 141 = .ok (.invokestatic 109, 3) := by decide +kernel
theorem dL_isSo_144 : decode cL_isSo 144 = .ok (.aload_n 1, 1) := by decide +kernel
theorem dL_isSo_145 : decode cL_isSo 145 = .ok (.bipush 6, 2) := by decide +kernel
theorem dL_isSo_147 : decode cL_isSo 147 = .ok (.iaload, 1) := by decide +kernel
theorem dL_isSo_148 : decode cL_isSo 148 = .ok (.aload_n 2, 1) := by decide +kernel
theorem dL_isSo_149 : decode cL_isSo 149 = .ok (.iconst 5, 1) := by decide +kernel
theorem dL_isSo_150 : decode cL_isSo 150 = .ok (.iload 5, 2) := by decide +kernel
theorem dL_isSo_152 : decode cL_isSo 152 = .ok (.imul, 1) := by decide +kernel
theorem dL_isSo_153 : decode cL_isSo 153 = .ok (.iconst 3, 1) := by decide +kernel
theorem dL_isSo_154 : decode cL_isSo 154 = .ok (.iadd, 1) := by decide +kernel
theorem dL_isSo_155 : decode cL_isSo 155 = .ok (.iaload, 1) := by decide +kernel
theorem dL_isSo_156 : decode cL_isSo 156 = .ok (.if_icmp .le 7, 3) := by decide +kernel
theorem dL_isSo_159 : decode cL_isSo 159 = .ok (.iconst 1, 1) := by decide +kernel
theorem dL_isSo_160 : decode cL_isSo 160 = .ok (.goto 4, 3) := by decide +kernel
theorem dL_isSo_163 : decode cL_isSo 163 = .ok (.iconst 0, 1) := by decide +kernel
theorem dL_isSo_164 : decode cL_isSo 164 = .ok (.if_icmp .ne 20, 3) := by decide +kernel
theorem dL_isSo_167 : decode cL_isSo 167 = .ok (.aload_n 0, 1) := by decide +kernel
theorem dL_isSo_168 : decode cL_isSo 168 = .ok (.iload 6, 2) := by decide +kernel
theorem dL_isSo_170 : decode cL_isSo 170 = .ok (.bipush 6, 2) := by decide +kernel
theorem dL_isSo_172 : decode cL_isSo 172 = .ok (.invokestatic 109, 3) := by decide +kernel
theorem dL_isSo_175 : decode cL_isSo 175 = .ok (.ldc 17, 2) := by decide +kernel
theorem dL_isSo_177 : decode cL_isSo 177 = .ok (.if_icmp .ne 7, 3) := by decide +kernel
theorem dL_isSo_180 : decode cL_isSo 180 = .ok (.iconst 1, 1) := by decide +kernel
theorem dL_isSo_181 : decode cL_isSo 181 = .ok (.goto 4, 3) := by decide +kernel
theorem dL_isSo_184 : decode cL_isSo 184 = .ok (.iconst 0, 1) := by decide +kernel
theorem dL_isSo_185 : decode cL_isSo 185 = .ok (.istore 4, 2) := by decide +kernel
theorem dL_isSo_187 : decode cL_isSo 187 = .ok (.iinc 5 1, 3) := by decide +kernel
theorem dL_isSo_190 : decode cL_isSo 190 = .ok (.goto (-184), 3) := by decide +kernel
theorem dL_isSo_193 : decode cL_isSo 193 = .ok (.iconst 0, 1) := by decide +kernel
theorem dL_isSo_194 : decode cL_isSo 194 = .ok (.istore 5, 2) := by decide +kernel
theorem dL_isSo_196 : decode cL_isSo 196 = .ok (.iload 5, 2) := by decide +kernel
theorem dL_isSo_198 : decode cL_isSo 198 = .ok (.bipush 55, 2) := by decide +kernel
theorem dL_isSo_200 : decode cL_isSo 200 = .ok (.if_icmp .ge 55, 3) := by decide +kernel
theorem dL_isSo_203 : decode cL_isSo 203 = .ok (.iload 4, 2) := by decide +kernel
theorem dL_isSo_205 : decode cL_isSo 205 = .ok (.ifCond .eq 50, 3) := by decide +kernel
theorem dL_isSo_208 : decode cL_isSo 208 = .ok (.aload_n 0, 1) := by decide +kernel
theorem dL_isSo_209 : decode cL_isSo 209 = .ok (.iload 5, 2) := by decide +kernel
theorem dL_isSo_211 : decode cL_isSo 211 = .ok (.iconst 5, 1) := by decide +kernel
theorem dL_isSo_212 : decode cL_isSo 212 = .ok (.idiv, 1) := by decide +kernel
theorem dL_isSo_213 : decode cL_isSo 213 = .ok (.iload 5, 2) := by decide +kernel
theorem dL_isSo_215 : decode cL_isSo 215 = .ok (.iconst 5, 1) := by decide +kernel
theorem dL_isSo_216 : decode cL_isSo 216 = .ok (.irem, 1) := by decide +kernel
theorem dL_isSo_217 : decode cL_isSo 217 = .ok (.invokestatic 111, 3) := by decide +kernel
theorem dL_isSo_220 : decode cL_isSo 220 = .ok (.iload 5, 2) := by decide +kernel
theorem dL_isSo_222 : decode cL_isSo 222 = .ok (.iconst 5, 1) := by decide +kernel
theorem dL_isSo_223 : decode cL_isSo 223 = .ok (.aload_n 1, 1) := by decide +kernel
theorem dL_isSo_224 : decode cL_isSo 224 = .ok (.bipush 22, 2) := by decide +kernel
theorem dL_isSo_226 : decode cL_isSo 226 = .ok (.iaload, 1) := by decide +kernel
theorem dL_isSo_227 : decode cL_isSo 227 = .ok (.imul, 1) := by decide +kernel
theorem dL_isSo_228 : decode cL_isSo 228 = .ok (.if_icmp .ge 10, 3) := by decide +kernel
theorem dL_isSo_231 : decode cL_isSo 231 = .ok (.aload_n 3, 1) := by decide +kernel
theorem dL_isSo_232 : decode cL_isSo 232 = .ok (.iload 5, 2) := by decide +kernel
theorem dL_isSo_234 : decode cL_isSo 234 = .ok (.iaload, 1) := by decide +kernel
theorem dL_isSo_235 : decode cL_isSo 235 = .ok (.goto 4, 3) := by decide +kernel
theorem dL_isSo_238 : decode cL_isSo 238 = .ok (.iconst (-1), 1) := by decide +kernel
theorem dL_isSo_239 : decode cL_isSo 239 = .ok (.if_icmp .ne 7, 3) := by decide +kernel
theorem dL_isSo_242 : decode cL_isSo 242 = .ok (.iconst 1, 1) := by decide +kernel
theorem dL_isSo_243 : decode cL_isSo 243 = .ok (.goto 4, 3) := by decide +kernel
theorem dL_isSo_246 : decode cL_isSo 246 = .ok (.iconst 0, 1) := by decide +kernel
theorem dL_isSo_247 : decode cL_isSo 247 = .ok (.istore 4, 2) := by decide +kernel
theorem dL_isSo_249 : decode cL_isSo 249 = .ok (.iinc 5 1, 3) := by decide +kernel
theorem dL_isSo_252 : decode cL_isSo 252 = .ok (.goto (-56), 3) := by decide +kernel
theorem dL_isSo_255 : decode cL_isSo 255 = .ok (.iconst 0, 1) := by decide +kernel
theorem dL_isSo_256 : decode cL_isSo 256 = .ok (.istore 5, 2) := by decide +kernel
theorem dL_isSo_258 : decode cL_isSo 258 = .ok (.iload 5, 2) := by decide +kernel
theorem dL_isSo_260 : decode cL_isSo 260 = .ok (.aload_n 1, 1) := by decide +kernel
theorem dL_isSo_261 : decode cL_isSo 261 = .ok (.bipush 22, 2) := by decide +kernel
theorem dL_isSo_263 : decode cL_isSo 263 = .ok (.iaload, 1) := by decide +kernel
theorem dL_isSo_264 : decode cL_isSo 264 = .ok (.if_icmp .ge 44, 3) := by decide +kernel
theorem dL_isSo_267 : decode cL_isSo 267 = .ok (.iload 4, 2) := by decide +kernel
theorem dL_isSo_269 : decode cL_isSo 269 = .ok (.ifCond .eq 39, 3) := by decide +kernel
theorem dL_isSo_272 : decode cL_isSo 272 = .ok (.aload_n 0, 1) := by decide +kernel
theorem dL_isSo_273 : decode cL_isSo 273 = .ok (.iload 5, 2) := by decide +kernel
theorem dL_isSo_275 : decode cL_isSo 275 = .ok (.iconst 3, 1) := by decide +kernel
theorem dL_isSo_276 : decode cL_isSo 276 = .ok (.invokestatic 111, 3) := by decide +kernel
theorem dL_isSo_279 : decode cL_isSo 279 = .ok (.aload_n 0, 1) := by decide +kernel
theorem dL_isSo_280 : decode cL_isSo 280 = .ok (.iconst 1, 1) := by decide +kernel
theorem dL_isSo_281 : decode cL_isSo 281 = .ok (.invokestatic 114, 3) := by decide +kernel
theorem dL_isSo_284 : decode cL_isSo 284 = .ok (.irem, 1) := by decide +kernel
theorem dL_isSo_285 : decode cL_isSo 285 = .ok (.aload_n 0, 1) := by decide +kernel
theorem dL_isSo_286 : decode cL_isSo 286 = .ok (.iload 5, 2) := by decide +kernel
theorem dL_isSo_288 : decode cL_isSo 288 = .ok (.iconst 2, 1) := by decide +kernel
theorem dL_isSo_289 : decode cL_isSo 289 = .ok (.invokestatic 111, 3) := by decide +kernel
theorem dL_isSo_292 : decode cL_isSo 292 = .ok (.if_icmp .ne 7, 3) := by decide +kernel
theorem dL_isSo_295 : decode cL_isSo 295 = .ok (.iconst 1, 1) := by decide +kernel
theorem dL_isSo_296 : decode cL_isSo 296 = .ok (.goto 4, 3) := by decide +kernel
theorem dL_isSo_299 : decode cL_isSo 299 = .ok (.iconst 0, 1) := by decide +kernel
theorem dL_isSo_300 : decode cL_isSo 300 = .ok (.istore 4, 2) := by decide +kernel
theorem dL_isSo_302 : decode cL_isSo 302 = .ok (.iinc 5 1, 3) := by decide +kernel
theorem dL_isSo_305 : decode cL_isSo 305 = .ok (.goto (-47), 3) := by decide +kernel
theorem dL_isSo_308 : decode cL_isSo 308 = .ok (.iconst 0, 1) := by decide +kernel
theorem dL_isSo_309 : decode cL_isSo 309 = .ok (.istore 5, 2) := by decide +kernel
theorem dL_isSo_311 : decode cL_isSo 311 = .ok (.iload 5, 2) := by decide +kernel
theorem dL_isSo_313 : decode cL_isSo 313 = .ok (.bipush 18, 2) := by decide +kernel
theorem dL_isSo_315 : decode cL_isSo 315 = .ok (.if_icmp .ge 75, 3) := by decide +kernel
theorem dL_isSo_318 : decode cL_isSo 318 = .ok (.iload 4, 2) := by decide +kernel
theorem dL_isSo_320 : decode cL_isSo 320 = .ok (.ifCond .eq 70, 3) := by decide +kernel
theorem dL_isSo_323 : decode cL_isSo 323 = .ok (.aload_n 0, 1) := by decide +kernel
theorem dL_isSo_324 : decode cL_isSo 324 = .ok (.iload 5, 2) := by decide +kernel
theorem dL_isSo_326 : decode cL_isSo 326 = .ok (.invokestatic 114, 3) := by decide +kernel
theorem dL_isSo_329 : decode cL_isSo 329 = .ok (.iload 5, 2) := by decide +kernel
theorem dL_isSo_331 : decode cL_isSo 331 = .ok (.bipush 7, 2) := by decide +kernel
theorem dL_isSo_333 : decode cL_isSo 333 = .ok (.if_icmp .ge 10, 3) := by decide +kernel
theorem dL_isSo_336 : decode cL_isSo 336 = .ok (.aload_n 1, 1) := by decide +kernel
theorem dL_isSo_337 : decode cL_isSo 337 = .ok (.iload 5, 2) := by decide +kernel
theorem dL_isSo_339 : decode cL_isSo 339 = .ok (.iaload, 1) := by decide +kernel
theorem dL_isSo_340 : decode cL_isSo 340 = .ok (.goto 34, 3) := by decide +kernel
theorem dL_isSo_343 : decode cL_isSo 343 = .ok (.iload 5, 2) := by decide +kernel
theorem dL_isSo_345 : decode cL_isSo 345 = .ok (.bipush 7, 2) := by decide +kernel
theorem dL_isSo_347 : decode cL_isSo 347 = .ok (.if_icmp .ne 10, 3) := by decide +kernel
theorem dL_isSo_350 : decode cL_isSo 350 = .ok (.aload_n 1, 1) := by decide +kernel
theorem dL_isSo_351 : decode cL_isSo 351 = .ok (.bipush 21, 2) := by decide +kernel
theorem dL_isSo_353 : decode cL_isSo 353 = .ok (.iaload, 1) := by decide +kernel
theorem dL_isSo_354 : decode cL_isSo 354 = .ok (.goto 20, 3) := by decide +kernel
theorem dL_isSo_357 : decode cL_isSo 357 = .ok (.iload 5, 2) := by decide +kernel
theorem dL_isSo_359 : decode cL_isSo 359 = .ok (.bipush 17, 2) := by decide +kernel
theorem dL_isSo_361 : decode cL_isSo 361 = .ok (.if_icmp .ne 7, 3) := by decide +kernel
theorem dL_isSo_364 : decode cL_isSo 364 = .ok (.iconst 0, 1) := by decide +kernel
theorem dL_isSo_365 : decode cL_isSo 365 = .ok (.goto 9, 3) := by decide +kernel
theorem dL_isSo_368 : decode cL_isSo 368 = .ok (.aload_n 1, 1) := by decide +kernel
theorem dL_isSo_369 : decode cL_isSo 369 = .ok (.iload 5, 2) := by decide +kernel
theorem dL_isSo_371 : decode cL_isSo 371 = .ok (.iconst 1, 1) := by decide +kernel
theorem dL_isSo_372 : decode cL_isSo 372 = .ok (.isub, 1) := by decide +kernel
theorem dL_isSo_373 : decode cL_isSo 373 = .ok (.iaload, 1) := by decide +kernel
theorem dL_isSo_374 : decode cL_isSo 374 = .ok (.if_icmp .ne 7, 3) := by decide +kernel
theorem dL_isSo_377 : decode cL_isSo 377 = .ok (.iconst 1, 1) := by decide +kernel
theorem dL_isSo_378 : decode cL_isSo 378 = .ok (.goto 4, 3) := by decide +kernel
theorem dL_isSo_381 : decode cL_isSo 381 = .ok (.iconst 0, 1) := by decide +kernel
theorem dL_isSo_382 : decode cL_isSo 382 = .ok (.istore 4, 2) := by decide +kernel
theorem dL_isSo_384 : decode cL_isSo 384 = .ok (.iinc 5 1, 3) := by decide +kernel
theorem dL_isSo_387 : decode cL_isSo 387 = .ok (.goto (-76), 3) := by decide +kernel
theorem dL_isSo_390 : decode cL_isSo 390 = .ok (.iconst 0, 1) := by decide +kernel
theorem dL_isSo_391 : decode cL_isSo 391 = .ok (.istore 5, 2) := by decide +kernel
theorem dL_isSo_393 : decode cL_isSo 393 = .ok (.iload 5, 2) := by decide +kernel
theorem dL_isSo_395 : decode cL_isSo 395 = .ok (.bipush 6, 2) := by decide +kernel
theorem dL_isSo_397 : decode cL_isSo 397 = .ok (.if_icmp .ge 54, 3) := by decide +kernel
theorem dL_isSo_400 : decode cL_isSo 400 = .ok (.iload 4, 2) := by decide +kernel
theorem dL_isSo_402 : decode cL_isSo 402 = .ok (.ifCond .eq 49, 3) := by decide +kernel
theorem dL_isSo_405 : decode cL_isSo 405 = .ok (.aload_n 0, 1) := by decide +kernel
theorem dL_isSo_406 : decode cL_isSo 406 = .ok (.iload 5, 2) := by decide +kernel
theorem dL_isSo_408 : decode cL_isSo 408 = .ok (.invokestatic 117, 3) := by decide +kernel
theorem dL_isSo_411 : decode cL_isSo 411 = .ok (.iload 5, 2) := by decide +kernel
theorem dL_isSo_413 : decode cL_isSo 413 = .ok (.iconst 5, 1) := by decide +kernel
theorem dL_isSo_414 : decode cL_isSo 414 = .ok (.if_icmp .ge 13, 3) := by decide +kernel
theorem dL_isSo_417 : decode cL_isSo 417 = .ok (.aload_n 1, 1) := by decide +kernel
theorem dL_isSo_418 : decode cL_isSo 418 = .ok (.bipush 16, 2) := by decide +kernel
theorem dL_isSo_420 : decode cL_isSo 420 = .ok (.iload 5, 2) := by decide +kernel
theorem dL_isSo_422 : decode cL_isSo 422 = .ok (.iadd, 1) := by decide +kernel
theorem dL_isSo_423 : decode cL_isSo 423 = .ok (.iaload, 1) := by decide +kernel
theorem dL_isSo_424 : decode cL_isSo 424 = .ok (.goto 11, 3) := by decide +kernel
theorem dL_isSo_427 : decode cL_isSo 427 = .ok (.aload_n 1, 1) := by decide +kernel
theorem dL_isSo_428 : decode cL_isSo 428 = .ok (.bipush 6, 2) := by decide +kernel
theorem dL_isSo_430 : decode cL_isSo 430 = .ok (.iaload, 1) := by decide +kernel
theorem dL_isSo_431 : decode cL_isSo 431 = .ok (.aload_n 1, 1) := by decide +kernel
theorem dL_isSo_432 : decode cL_isSo 432 = .ok (.iconst 1, 1) := by decide +kernel
theorem dL_isSo_433 : decode cL_isSo 433 = .ok (.iaload, 1) := by decide +kernel
theorem dL_isSo_434 : decode cL_isSo 434 = .ok (.irem, 1) := by decide +kernel
theorem dL_isSo_435 : decode cL_isSo 435 = .ok (.if_icmp .ne 7, 3) := by decide +kernel
theorem dL_isSo_438 : decode cL_isSo 438 = .ok (.iconst 1, 1) := by decide +kernel
theorem dL_isSo_439 : decode cL_isSo 439 = .ok (.goto 4, 3) := by decide +kernel
theorem dL_isSo_442 : decode cL_isSo 442 = .ok (.iconst 0, 1) := by decide +kernel
theorem dL_isSo_443 : decode cL_isSo 443 = .ok (.istore 4, 2) := by decide +kernel
theorem dL_isSo_445 : decode cL_isSo 445 = .ok (.iinc 5 1, 3) := by decide +kernel
theorem dL_isSo_448 : decode cL_isSo 448 = .ok (.goto (-55), 3) := by decide +kernel
theorem dL_isSo_451 : decode cL_isSo 451 = .ok (.iload 4, 2) := by decide +kernel
theorem dL_isSo_453 : decode cL_isSo 453 = .ok (.ifCond .eq 19, 3) := by decide +kernel
theorem dL_isSo_456 : decode cL_isSo 456 = .ok (.aload_n 0, 1) := by decide +kernel
theorem dL_isSo_457 : decode cL_isSo 457 = .ok (.aload_n 1, 1) := by decide +kernel
theorem dL_isSo_458 : decode cL_isSo 458 = .ok (.bipush 21, 2) := by decide +kernel
theorem dL_isSo_460 : decode cL_isSo 460 = .ok (.iaload, 1) := by decide +kernel
theorem dL_isSo_461 : decode cL_isSo 461 = .ok (.invokestatic 107, 3) := by decide +kernel
theorem dL_isSo_464 : decode cL_isSo 464 = .ok (.iconst (-1), 1) := by decide +kernel
theorem dL_isSo_465 : decode cL_isSo 465 = .ok (.if_icmp .ne 7, 3) := by decide +kernel
theorem dL_isSo_468 : decode cL_isSo 468 = .ok (.iconst 1, 1) := by decide +kernel
theorem dL_isSo_469 : decode cL_isSo 469 = .ok (.goto 4, 3) := by decide +kernel
theorem dL_isSo_472 : decode cL_isSo 472 = .ok (.iconst 0, 1) := by decide +kernel
theorem dL_isSo_473 : decode cL_isSo 473 = .ok (.ireturn, 1) := by decide +kernel
theorem cc_L_isSo_L_size : CallC tL_isSo tL_size 1 := ⟨by decide +kernel, by decide +kernel, by decide +kernel, by decide, by decide, qw_14, qw_594⟩
theorem cc_L_isSo_L_requestAt : CallH tL_isSo tL_requestAt hhL_requestAt 2 := ⟨by decide +kernel, by decide +kernel, by decide +kernel, by decide, by decide, qw_14, qw_623⟩
theorem cc_L_isSo_L_requestOf : CallH tL_isSo tL_requestOf hhL_requestOf 3 := ⟨by decide +kernel, by decide +kernel, by decide +kernel, by decide, by decide, qw_14, qw_611⟩
theorem cc_L_isSo_L_loggedOf : CallH tL_isSo tL_loggedOf hhL_loggedOf 3 := ⟨by decide +kernel, by decide +kernel, by decide +kernel, by decide, by decide, qw_14, qw_630⟩
theorem cc_L_isSo_L_wholeOf : CallH tL_isSo tL_wholeOf hhL_wholeOf 2 := ⟨by decide +kernel, by decide +kernel, by decide +kernel, by decide, by decide, qw_14, qw_656⟩
theorem cc_L_isSo_L_armOf : CallH tL_isSo tL_armOf hhL_armOf 2 := ⟨by decide +kernel, by decide +kernel, by decide +kernel, by decide, by decide, qw_14, qw_648⟩
def kL_isSo : Nat → WOp := cN 217 (cN 104 (cN 53 (cN 25 (cN 11 (cN 4 (cN 1 (cN 0 (cL 0 (o_push 1 1)) (cL 1 (o_istore 3 4))) (cN 3 (cL 3 (o_push 4 0)) (cL 4 (o_istore 6 5)))) (cN 8 (cN 6 (cL 6 (o_iload 8 5)) (cL 8 (o_aload 9 1))) (cN 9 (cL 9 (o_push 11 21)) (cL 11 (o_iald 12))))) (cN 20 (cN 15 (cN 12 (cL 12 (o_icmp_ge 193 15)) (cL 15 (o_iload 17 4))) (cN 17 (cL 17 (o_if_eq 193 20)) (cL 20 (o_aload 21 2)))) (cN 22 (cN 21 (cL 21 (o_push 22 5)) (cL 22 (o_iload 24 5))) (cN 24 (cL 24 (o_imul 25)) (cL 25 (o_iald 26)))))) (cN 40 (cN 31 (cN 28 (cN 26 (cL 26 (o_istore 28 6)) (cL 28 (o_aload 29 0))) (cN 29 (cL 29 (o_iload 31 5)) (cL 31 (o_callSW 34 2 tL_requestAt hhL_requestAt 1 6)))) (cN 36 (cN 34 (cL 34 (o_iload 36 6)) (cL 36 (o_icmp_ne 184 39))) (cN 39 (cL 39 (o_aload 40 0)) (cL 40 (o_iload 42 6))))) (cN 47 (cN 43 (cN 42 (cL 42 (o_push 43 0)) (cL 43 (o_callSW 46 3 tL_requestOf hhL_requestOf 1 6))) (cN 46 (cL 46 (o_aload 47 2)) (cL 47 (o_push 48 5)))) (cN 50 (cN 48 (cL 48 (o_iload 50 5)) (cL 50 (o_imul 51))) (cN 51 (cL 51 (o_push 52 1)) (cN 52 (cL 52 (o_iadd 53)) (cL 53 (o_iald 54)))))))) (cN 78 (cN 66 (cN 60 (cN 57 (cN 54 (cL 54 (o_icmp_ne 184 57)) (cL 57 (o_aload 58 0))) (cN 58 (cL 58 (o_iload 60 6)) (cL 60 (o_push 61 1)))) (cN 64 (cN 61 (cL 61 (o_callSW 64 3 tL_requestOf hhL_requestOf 1 6)) (cL 64 (o_aload 65 2))) (cN 65 (cL 65 (o_push 66 5)) (cL 66 (o_iload 68 5))))) (cN 71 (cN 69 (cN 68 (cL 68 (o_imul 69)) (cL 69 (o_push 70 2))) (cN 70 (cL 70 (o_iadd 71)) (cL 71 (o_iald 72)))) (cN 75 (cN 72 (cL 72 (o_icmp_ne 184 75)) (cL 75 (o_aload 76 0))) (cN 76 (cL 76 (o_iload 78 6)) (cL 78 (o_push 79 2)))))) (cN 89 (cN 84 (cN 82 (cN 79 (cL 79 (o_callSW 82 3 tL_requestOf hhL_requestOf 1 6)) (cL 82 (o_aload 83 2))) (cN 83 (cL 83 (o_push 84 5)) (cL 84 (o_iload 86 5)))) (cN 87 (cN 86 (cL 86 (o_imul 87)) (cL 87 (o_push 88 3))) (cN 88 (cL 88 (o_iadd 89)) (cL 89 (o_iald 90))))) (cN 96 (cN 93 (cN 90 (cL 90 (o_icmp_ne 184 93)) (cL 93 (o_aload 94 0))) (cN 94 (cL 94 (o_iload 96 6)) (cL 96 (o_push 97 3)))) (cN 100 (cN 97 (cL 97 (o_callSW 100 3 tL_requestOf hhL_requestOf 1 6)) (cL 100 (o_aload 101 2))) (cN 101 (cL 101 (o_push 102 5)) (cN 102 (cL 102 (o_iload 104 5)) (cL 104 (o_imul 105))))))))) (cN 153 (cN 126 (cN 115 (cN 108 (cN 106 (cN 105 (cL 105 (o_push 106 4)) (cL 106 (o_iadd 107))) (cN 107 (cL 107 (o_iald 108)) (cL 108 (o_icmp_ne 184 111)))) (cN 112 (cN 111 (cL 111 (o_aload 112 0)) (cL 112 (o_iload 114 6))) (cN 114 (cL 114 (o_push 115 4)) (cL 115 (o_callSW 118 3 tL_requestOf hhL_requestOf 1 6))))) (cN 122 (cN 119 (cN 118 (cL 118 (o_aload 119 2)) (cL 119 (o_push 120 5))) (cN 120 (cL 120 (o_iload 122 5)) (cL 122 (o_imul 123)))) (cN 124 (cN 123 (cL 123 (o_push 124 1)) (cL 124 (o_iadd 125))) (cN 125 (cL 125 (o_iald 126)) (cL 126 (o_aload 127 1)))))) (cN 140 (cN 131 (cN 129 (cN 127 (cL 127 (o_push 129 16)) (cL 129 (o_iald 130))) (cN 130 (cL 130 (o_isub 131)) (cL 131 (o_callS 134 1 tL_size 0 0)))) (cN 137 (cN 134 (cL 134 (o_icmp_ne 184 137)) (cL 137 (o_aload 138 0))) (cN 138 (cL 138 (o_iload 140 6)) (cL 140 (o_push 141 5))))) (cN 147 (cN 144 (cN 141 (cL 141 (o_callSW 144 3 tL_requestOf hhL_requestOf 1 6)) (cL 144 (o_aload 145 1))) (cN 145 (cL 145 (o_push 147 6)) (cL 147 (o_iald 148)))) (cN 149 (cN 148 (cL 148 (o_aload 149 2)) (cL 149 (o_push 150 5))) (cN 150 (cL 150 (o_iload 152 5)) (cN 152 (cL 152 (o_imul 153)) (cL 153 (o_push 154 3)))))))) (cN 185 (cN 167 (cN 159 (cN 155 (cN 154 (cL 154 (o_iadd 155)) (cL 155 (o_iald 156))) (cN 156 (cL 156 (o_icmp_le 163 159)) (cL 159 (o_push 160 1)))) (cN 163 (cN 160 (cL 160 (o_goto 164)) (cL 163 (o_push 164 0))) (cN 164 (cL 164 (o_icmp_ne 184 167)) (cL 167 (o_aload 168 0))))) (cN 175 (cN 170 (cN 168 (cL 168 (o_iload 170 6)) (cL 170 (o_push 172 6))) (cN 172 (cL 172 (o_callSW 175 3 tL_requestOf hhL_requestOf 1 6)) (cL 175 (o_push 177 (-2000002))))) (cN 180 (cN 177 (cL 177 (o_icmp_ne 184 180)) (cL 180 (o_push 181 1))) (cN 181 (cL 181 (o_goto 185)) (cN 184 (cL 184 (o_push 185 0)) (cL 185 (o_istore 187 4))))))) (cN 203 (cN 194 (cN 190 (cN 187 (cL 187 (o_iinc 190 5 1)) (cL 190 (o_goto 6))) (cN 193 (cL 193 (o_push 194 0)) (cL 194 (o_istore 196 5)))) (cN 198 (cN 196 (cL 196 (o_iload 198 5)) (cL 198 (o_push 200 55))) (cN 200 (cL 200 (o_icmp_ge 255 203)) (cL 203 (o_iload 205 4))))) (cN 211 (cN 208 (cN 205 (cL 205 (o_if_eq 255 208)) (cL 208 (o_aload 209 0))) (cN 209 (cL 209 (o_iload 211 5)) (cL 211 (o_push 212 5)))) (cN 213 (cN 212 (cL 212 (o_idiv 213)) (cL 213 (o_iload 215 5))) (cN 215 (cL 215 (o_push 216 5)) (cN 216 (cL 216 (o_irem 217)) (cL 217 (o_callSW 220 3 tL_loggedOf hhL_loggedOf 1 6)))))))))) (cN 347 (cN 279 (cN 246 (cN 231 (cN 224 (cN 222 (cN 220 (cL 220 (o_iload 222 5)) (cL 222 (o_push 223 5))) (cN 223 (cL 223 (o_aload 224 1)) (cL 224 (o_push 226 22)))) (cN 227 (cN 226 (cL 226 (o_iald 227)) (cL 227 (o_imul 228))) (cN 228 (cL 228 (o_icmp_ge 238 231)) (cL 231 (o_aload 232 3))))) (cN 238 (cN 234 (cN 232 (cL 232 (o_iload 234 5)) (cL 234 (o_iald 235))) (cN 235 (cL 235 (o_goto 239)) (cL 238 (o_push 239 (-1))))) (cN 242 (cN 239 (cL 239 (o_icmp_ne 246 242)) (cL 242 (o_push 243 1))) (cN 243 (cL 243 (o_goto 247)) (cL 246 (o_push 247 0)))))) (cN 261 (cN 255 (cN 249 (cN 247 (cL 247 (o_istore 249 4)) (cL 249 (o_iinc 252 5 1))) (cN 252 (cL 252 (o_goto 196)) (cL 255 (o_push 256 0)))) (cN 258 (cN 256 (cL 256 (o_istore 258 5)) (cL 258 (o_iload 260 5))) (cN 260 (cL 260 (o_aload 261 1)) (cL 261 (o_push 263 22))))) (cN 269 (cN 264 (cN 263 (cL 263 (o_iald 264)) (cL 264 (o_icmp_ge 308 267))) (cN 267 (cL 267 (o_iload 269 4)) (cL 269 (o_if_eq 308 272)))) (cN 273 (cN 272 (cL 272 (o_aload 273 0)) (cL 273 (o_iload 275 5))) (cN 275 (cL 275 (o_push 276 3)) (cN 276 (cL 276 (o_callSW 279 3 tL_loggedOf hhL_loggedOf 1 6)) (cL 279 (o_aload 280 0)))))))) (cN 311 (cN 292 (cN 285 (cN 281 (cN 280 (cL 280 (o_push 281 1)) (cL 281 (o_callSW 284 2 tL_wholeOf hhL_wholeOf 1 6))) (cN 284 (cL 284 (o_irem 285)) (cL 285 (o_aload 286 0)))) (cN 288 (cN 286 (cL 286 (o_iload 288 5)) (cL 288 (o_push 289 2))) (cN 289 (cL 289 (o_callSW 292 3 tL_loggedOf hhL_loggedOf 1 6)) (cL 292 (o_icmp_ne 299 295))))) (cN 300 (cN 296 (cN 295 (cL 295 (o_push 296 1)) (cL 296 (o_goto 300))) (cN 299 (cL 299 (o_push 300 0)) (cL 300 (o_istore 302 4)))) (cN 305 (cN 302 (cL 302 (o_iinc 305 5 1)) (cL 305 (o_goto 258))) (cN 308 (cL 308 (o_push 309 0)) (cN 309 (cL 309 (o_istore 311 5)) (cL 311 (o_iload 313 5))))))) (cN 329 (cN 320 (cN 315 (cN 313 (cL 313 (o_push 315 18)) (cL 315 (o_icmp_ge 390 318))) (cN 318 (cL 318 (o_iload 320 4)) (cL 320 (o_if_eq 390 323)))) (cN 324 (cN 323 (cL 323 (o_aload 324 0)) (cL 324 (o_iload 326 5))) (cN 326 (cL 326 (o_callSW 329 2 tL_wholeOf hhL_wholeOf 1 6)) (cL 329 (o_iload 331 5))))) (cN 337 (cN 333 (cN 331 (cL 331 (o_push 333 7)) (cL 333 (o_icmp_ge 343 336))) (cN 336 (cL 336 (o_aload 337 1)) (cL 337 (o_iload 339 5)))) (cN 340 (cN 339 (cL 339 (o_iald 340)) (cL 340 (o_goto 374))) (cN 343 (cL 343 (o_iload 345 5)) (cN 345 (cL 345 (o_push 347 7)) (cL 347 (o_icmp_ne 357 350))))))))) (cN 413 (cN 377 (cN 364 (cN 354 (cN 351 (cN 350 (cL 350 (o_aload 351 1)) (cL 351 (o_push 353 21))) (cN 353 (cL 353 (o_iald 354)) (cL 354 (o_goto 374)))) (cN 359 (cN 357 (cL 357 (o_iload 359 5)) (cL 359 (o_push 361 17))) (cN 361 (cL 361 (o_icmp_ne 368 364)) (cL 364 (o_push 365 0))))) (cN 371 (cN 368 (cN 365 (cL 365 (o_goto 374)) (cL 368 (o_aload 369 1))) (cN 369 (cL 369 (o_iload 371 5)) (cL 371 (o_push 372 1)))) (cN 373 (cN 372 (cL 372 (o_isub 373)) (cL 373 (o_iald 374))) (cN 374 (cL 374 (o_icmp_ne 381 377)) (cL 377 (o_push 378 1)))))) (cN 393 (cN 384 (cN 381 (cN 378 (cL 378 (o_goto 382)) (cL 381 (o_push 382 0))) (cN 382 (cL 382 (o_istore 384 4)) (cL 384 (o_iinc 387 5 1)))) (cN 390 (cN 387 (cL 387 (o_goto 311)) (cL 390 (o_push 391 0))) (cN 391 (cL 391 (o_istore 393 5)) (cL 393 (o_iload 395 5))))) (cN 402 (cN 397 (cN 395 (cL 395 (o_push 397 6)) (cL 397 (o_icmp_ge 451 400))) (cN 400 (cL 400 (o_iload 402 4)) (cL 402 (o_if_eq 451 405)))) (cN 406 (cN 405 (cL 405 (o_aload 406 0)) (cL 406 (o_iload 408 5))) (cN 408 (cL 408 (o_callSW 411 2 tL_armOf hhL_armOf 1 6)) (cN 411 (cL 411 (o_iload 413 5)) (cL 413 (o_push 414 5)))))))) (cN 439 (cN 427 (cN 420 (cN 417 (cN 414 (cL 414 (o_icmp_ge 427 417)) (cL 417 (o_aload 418 1))) (cN 418 (cL 418 (o_push 420 16)) (cL 420 (o_iload 422 5)))) (cN 423 (cN 422 (cL 422 (o_iadd 423)) (cL 423 (o_iald 424))) (cN 424 (cL 424 (o_goto 435)) (cL 427 (o_aload 428 1))))) (cN 432 (cN 430 (cN 428 (cL 428 (o_push 430 6)) (cL 430 (o_iald 431))) (cN 431 (cL 431 (o_aload 432 1)) (cL 432 (o_push 433 1)))) (cN 434 (cN 433 (cL 433 (o_iald 434)) (cL 434 (o_irem 435))) (cN 435 (cL 435 (o_icmp_ne 442 438)) (cN 438 (cL 438 (o_push 439 1)) (cL 439 (o_goto 443))))))) (cN 457 (cN 448 (cN 443 (cN 442 (cL 442 (o_push 443 0)) (cL 443 (o_istore 445 4))) (cN 445 (cL 445 (o_iinc 448 5 1)) (cL 448 (o_goto 393)))) (cN 453 (cN 451 (cL 451 (o_iload 453 4)) (cL 453 (o_if_eq 472 456))) (cN 456 (cL 456 (o_aload 457 0)) (cL 457 (o_aload 458 1))))) (cN 464 (cN 460 (cN 458 (cL 458 (o_push 460 21)) (cL 460 (o_iald 461))) (cN 461 (cL 461 (o_callSW 464 2 tL_requestAt hhL_requestAt 1 6)) (cL 464 (o_push 465 (-1))))) (cN 468 (cN 465 (cL 465 (o_icmp_ne 472 468)) (cL 468 (o_push 469 1))) (cN 469 (cL 469 (o_goto 473)) (cN 472 (cL 472 (o_push 473 0)) (cL 473 (o_zret))))))))))
theorem sL_isSo : ∀ pc, Snd tL_isSo G1 pc (kL_isSo pc) := s_N (s_N (s_N (s_N (s_N (s_N (s_N (s_N (s_L (s_iconst dL_isSo_0 (by decide +kernel))) (s_L (s_istore dL_isSo_1 (by decide)))) (s_N (s_L (s_iconst dL_isSo_3 (by decide +kernel))) (s_L (s_istore dL_isSo_4 (by decide))))) (s_N (s_N (s_L (s_iload dL_isSo_6)) (s_L (s_aload_n dL_isSo_8 rfl))) (s_N (s_L (s_bipush dL_isSo_9 (by decide +kernel))) (s_L (s_iald dL_isSo_11))))) (s_N (s_N (s_N (s_L (s_o_icmp_ge dL_isSo_12 (by decide))) (s_L (s_iload dL_isSo_15))) (s_N (s_L (s_o_if_eq dL_isSo_17 (by decide))) (s_L (s_aload_n dL_isSo_20 rfl)))) (s_N (s_N (s_L (s_iconst dL_isSo_21 (by decide +kernel))) (s_L (s_iload dL_isSo_22))) (s_N (s_L (s_o_imul dL_isSo_24)) (s_L (s_iald dL_isSo_25)))))) (s_N (s_N (s_N (s_N (s_L (s_istore dL_isSo_26 (by decide))) (s_L (s_aload_n dL_isSo_28 rfl))) (s_N (s_L (s_iload dL_isSo_29)) (s_L (s_callSW (mc := 1) (ms := 6) cc_L_isSo_L_requestAt qw_621 qw_622 dL_isSo_31)))) (s_N (s_N (s_L (s_iload dL_isSo_34)) (s_L (s_o_icmp_ne dL_isSo_36 (by decide)))) (s_N (s_L (s_aload_n dL_isSo_39 rfl)) (s_L (s_iload dL_isSo_40))))) (s_N (s_N (s_N (s_L (s_iconst dL_isSo_42 (by decide +kernel))) (s_L (s_callSW (mc := 1) (ms := 6) cc_L_isSo_L_requestOf qw_609 qw_610 dL_isSo_43))) (s_N (s_L (s_aload_n dL_isSo_46 rfl)) (s_L (s_iconst dL_isSo_47 (by decide +kernel))))) (s_N (s_N (s_L (s_iload dL_isSo_48)) (s_L (s_o_imul dL_isSo_50))) (s_N (s_L (s_iconst dL_isSo_51 (by decide +kernel))) (s_N (s_L (s_o_iadd dL_isSo_52)) (s_L (s_iald dL_isSo_53)))))))) (s_N (s_N (s_N (s_N (s_N (s_L (s_o_icmp_ne dL_isSo_54 (by decide))) (s_L (s_aload_n dL_isSo_57 rfl))) (s_N (s_L (s_iload dL_isSo_58)) (s_L (s_iconst dL_isSo_60 (by decide +kernel))))) (s_N (s_N (s_L (s_callSW (mc := 1) (ms := 6) cc_L_isSo_L_requestOf qw_609 qw_610 dL_isSo_61)) (s_L (s_aload_n dL_isSo_64 rfl))) (s_N (s_L (s_iconst dL_isSo_65 (by decide +kernel))) (s_L (s_iload dL_isSo_66))))) (s_N (s_N (s_N (s_L (s_o_imul dL_isSo_68)) (s_L (s_iconst dL_isSo_69 (by decide +kernel)))) (s_N (s_L (s_o_iadd dL_isSo_70)) (s_L (s_iald dL_isSo_71)))) (s_N (s_N (s_L (s_o_icmp_ne dL_isSo_72 (by decide))) (s_L (s_aload_n dL_isSo_75 rfl))) (s_N (s_L (s_iload dL_isSo_76)) (s_L (s_iconst dL_isSo_78 (by decide +kernel))))))) (s_N (s_N (s_N (s_N (s_L (s_callSW (mc := 1) (ms := 6) cc_L_isSo_L_requestOf qw_609 qw_610 dL_isSo_79)) (s_L (s_aload_n dL_isSo_82 rfl))) (s_N (s_L (s_iconst dL_isSo_83 (by decide +kernel))) (s_L (s_iload dL_isSo_84)))) (s_N (s_N (s_L (s_o_imul dL_isSo_86)) (s_L (s_iconst dL_isSo_87 (by decide +kernel)))) (s_N (s_L (s_o_iadd dL_isSo_88)) (s_L (s_iald dL_isSo_89))))) (s_N (s_N (s_N (s_L (s_o_icmp_ne dL_isSo_90 (by decide))) (s_L (s_aload_n dL_isSo_93 rfl))) (s_N (s_L (s_iload dL_isSo_94)) (s_L (s_iconst dL_isSo_96 (by decide +kernel))))) (s_N (s_N (s_L (s_callSW (mc := 1) (ms := 6) cc_L_isSo_L_requestOf qw_609 qw_610 dL_isSo_97)) (s_L (s_aload_n dL_isSo_100 rfl))) (s_N (s_L (s_iconst dL_isSo_101 (by decide +kernel))) (s_N (s_L (s_iload dL_isSo_102)) (s_L (s_o_imul dL_isSo_104))))))))) (s_N (s_N (s_N (s_N (s_N (s_N (s_L (s_iconst dL_isSo_105 (by decide +kernel))) (s_L (s_o_iadd dL_isSo_106))) (s_N (s_L (s_iald dL_isSo_107)) (s_L (s_o_icmp_ne dL_isSo_108 (by decide))))) (s_N (s_N (s_L (s_aload_n dL_isSo_111 rfl)) (s_L (s_iload dL_isSo_112))) (s_N (s_L (s_iconst dL_isSo_114 (by decide +kernel))) (s_L (s_callSW (mc := 1) (ms := 6) cc_L_isSo_L_requestOf qw_609 qw_610 dL_isSo_115))))) (s_N (s_N (s_N (s_L (s_aload_n dL_isSo_118 rfl)) (s_L (s_iconst dL_isSo_119 (by decide +kernel)))) (s_N (s_L (s_iload dL_isSo_120)) (s_L (s_o_imul dL_isSo_122)))) (s_N (s_N (s_L (s_iconst dL_isSo_123 (by decide +kernel))) (s_L (s_o_iadd dL_isSo_124))) (s_N (s_L (s_iald dL_isSo_125)) (s_L (s_aload_n dL_isSo_126 rfl)))))) (s_N (s_N (s_N (s_N (s_L (s_bipush dL_isSo_127 (by decide +kernel))) (s_L (s_iald dL_isSo_129))) (s_N (s_L (s_o_isub dL_isSo_130)) (s_L (s_callS (d' := tL_size) (mc := 0) (ms := 0) cc_L_isSo_L_size qw_592 qw_593 dL_isSo_131)))) (s_N (s_N (s_L (s_o_icmp_ne dL_isSo_134 (by decide))) (s_L (s_aload_n dL_isSo_137 rfl))) (s_N (s_L (s_iload dL_isSo_138)) (s_L (s_iconst dL_isSo_140 (by decide +kernel)))))) (s_N (s_N (s_N (s_L (s_callSW (mc := 1) (ms := 6) cc_L_isSo_L_requestOf qw_609 qw_610 dL_isSo_141)) (s_L (s_aload_n dL_isSo_144 rfl))) (s_N (s_L (s_bipush dL_isSo_145 (by decide +kernel))) (s_L (s_iald dL_isSo_147)))) (s_N (s_N (s_L (s_aload_n dL_isSo_148 rfl)) (s_L (s_iconst dL_isSo_149 (by decide +kernel)))) (s_N (s_L (s_iload dL_isSo_150)) (s_N (s_L (s_o_imul dL_isSo_152)) (s_L (s_iconst dL_isSo_153 (by decide +kernel))))))))) (s_N (s_N (s_N (s_N (s_N (s_L (s_o_iadd dL_isSo_154)) (s_L (s_iald dL_isSo_155))) (s_N (s_L (s_o_icmp_le dL_isSo_156 (by decide))) (s_L (s_iconst dL_isSo_159 (by decide +kernel))))) (s_N (s_N (s_L (s_o_goto dL_isSo_160 (by decide))) (s_L (s_iconst dL_isSo_163 (by decide +kernel)))) (s_N (s_L (s_o_icmp_ne dL_isSo_164 (by decide))) (s_L (s_aload_n dL_isSo_167 rfl))))) (s_N (s_N (s_N (s_L (s_iload dL_isSo_168)) (s_L (s_bipush dL_isSo_170 (by decide +kernel)))) (s_N (s_L (s_callSW (mc := 1) (ms := 6) cc_L_isSo_L_requestOf qw_609 qw_610 dL_isSo_172)) (s_L (s_ldc dL_isSo_175 qw_411)))) (s_N (s_N (s_L (s_o_icmp_ne dL_isSo_177 (by decide))) (s_L (s_iconst dL_isSo_180 (by decide +kernel)))) (s_N (s_L (s_o_goto dL_isSo_181 (by decide))) (s_N (s_L (s_iconst dL_isSo_184 (by decide +kernel))) (s_L (s_istore dL_isSo_185 (by decide)))))))) (s_N (s_N (s_N (s_N (s_L (s_iinc (v := 1) dL_isSo_187 (by decide +kernel) (by decide))) (s_L (s_o_goto dL_isSo_190 (by decide)))) (s_N (s_L (s_iconst dL_isSo_193 (by decide +kernel))) (s_L (s_istore dL_isSo_194 (by decide))))) (s_N (s_N (s_L (s_iload dL_isSo_196)) (s_L (s_bipush dL_isSo_198 (by decide +kernel)))) (s_N (s_L (s_o_icmp_ge dL_isSo_200 (by decide))) (s_L (s_iload dL_isSo_203))))) (s_N (s_N (s_N (s_L (s_o_if_eq dL_isSo_205 (by decide))) (s_L (s_aload_n dL_isSo_208 rfl))) (s_N (s_L (s_iload dL_isSo_209)) (s_L (s_iconst dL_isSo_211 (by decide +kernel))))) (s_N (s_N (s_L (s_o_idiv dL_isSo_212)) (s_L (s_iload dL_isSo_213))) (s_N (s_L (s_iconst dL_isSo_215 (by decide +kernel))) (s_N (s_L (s_o_irem dL_isSo_216)) (s_L (s_callSW (mc := 1) (ms := 6) cc_L_isSo_L_loggedOf qw_628 qw_629 dL_isSo_217)))))))))) (s_N (s_N (s_N (s_N (s_N (s_N (s_N (s_L (s_iload dL_isSo_220)) (s_L (s_iconst dL_isSo_222 (by decide +kernel)))) (s_N (s_L (s_aload_n dL_isSo_223 rfl)) (s_L (s_bipush dL_isSo_224 (by decide +kernel))))) (s_N (s_N (s_L (s_iald dL_isSo_226)) (s_L (s_o_imul dL_isSo_227))) (s_N (s_L (s_o_icmp_ge dL_isSo_228 (by decide))) (s_L (s_aload_n dL_isSo_231 rfl))))) (s_N (s_N (s_N (s_L (s_iload dL_isSo_232)) (s_L (s_iald dL_isSo_234))) (s_N (s_L (s_o_goto dL_isSo_235 (by decide))) (s_L (s_iconst dL_isSo_238 (by decide +kernel))))) (s_N (s_N (s_L (s_o_icmp_ne dL_isSo_239 (by decide))) (s_L (s_iconst dL_isSo_242 (by decide +kernel)))) (s_N (s_L (s_o_goto dL_isSo_243 (by decide))) (s_L (s_iconst dL_isSo_246 (by decide +kernel))))))) (s_N (s_N (s_N (s_N (s_L (s_istore dL_isSo_247 (by decide))) (s_L (s_iinc (v := 1) dL_isSo_249 (by decide +kernel) (by decide)))) (s_N (s_L (s_o_goto dL_isSo_252 (by decide))) (s_L (s_iconst dL_isSo_255 (by decide +kernel))))) (s_N (s_N (s_L (s_istore dL_isSo_256 (by decide))) (s_L (s_iload dL_isSo_258))) (s_N (s_L (s_aload_n dL_isSo_260 rfl)) (s_L (s_bipush dL_isSo_261 (by decide +kernel)))))) (s_N (s_N (s_N (s_L (s_iald dL_isSo_263)) (s_L (s_o_icmp_ge dL_isSo_264 (by decide)))) (s_N (s_L (s_iload dL_isSo_267)) (s_L (s_o_if_eq dL_isSo_269 (by decide))))) (s_N (s_N (s_L (s_aload_n dL_isSo_272 rfl)) (s_L (s_iload dL_isSo_273))) (s_N (s_L (s_iconst dL_isSo_275 (by decide +kernel))) (s_N (s_L (s_callSW (mc := 1) (ms := 6) cc_L_isSo_L_loggedOf qw_628 qw_629 dL_isSo_276)) (s_L (s_aload_n dL_isSo_279 rfl)))))))) (s_N (s_N (s_N (s_N (s_N (s_L (s_iconst dL_isSo_280 (by decide +kernel))) (s_L (s_callSW (mc := 1) (ms := 6) cc_L_isSo_L_wholeOf qw_654 qw_655 dL_isSo_281))) (s_N (s_L (s_o_irem dL_isSo_284)) (s_L (s_aload_n dL_isSo_285 rfl)))) (s_N (s_N (s_L (s_iload dL_isSo_286)) (s_L (s_iconst dL_isSo_288 (by decide +kernel)))) (s_N (s_L (s_callSW (mc := 1) (ms := 6) cc_L_isSo_L_loggedOf qw_628 qw_629 dL_isSo_289)) (s_L (s_o_icmp_ne dL_isSo_292 (by decide)))))) (s_N (s_N (s_N (s_L (s_iconst dL_isSo_295 (by decide +kernel))) (s_L (s_o_goto dL_isSo_296 (by decide)))) (s_N (s_L (s_iconst dL_isSo_299 (by decide +kernel))) (s_L (s_istore dL_isSo_300 (by decide))))) (s_N (s_N (s_L (s_iinc (v := 1) dL_isSo_302 (by decide +kernel) (by decide))) (s_L (s_o_goto dL_isSo_305 (by decide)))) (s_N (s_L (s_iconst dL_isSo_308 (by decide +kernel))) (s_N (s_L (s_istore dL_isSo_309 (by decide))) (s_L (s_iload dL_isSo_311))))))) (s_N (s_N (s_N (s_N (s_L (s_bipush dL_isSo_313 (by decide +kernel))) (s_L (s_o_icmp_ge dL_isSo_315 (by decide)))) (s_N (s_L (s_iload dL_isSo_318)) (s_L (s_o_if_eq dL_isSo_320 (by decide))))) (s_N (s_N (s_L (s_aload_n dL_isSo_323 rfl)) (s_L (s_iload dL_isSo_324))) (s_N (s_L (s_callSW (mc := 1) (ms := 6) cc_L_isSo_L_wholeOf qw_654 qw_655 dL_isSo_326)) (s_L (s_iload dL_isSo_329))))) (s_N (s_N (s_N (s_L (s_bipush dL_isSo_331 (by decide +kernel))) (s_L (s_o_icmp_ge dL_isSo_333 (by decide)))) (s_N (s_L (s_aload_n dL_isSo_336 rfl)) (s_L (s_iload dL_isSo_337)))) (s_N (s_N (s_L (s_iald dL_isSo_339)) (s_L (s_o_goto dL_isSo_340 (by decide)))) (s_N (s_L (s_iload dL_isSo_343)) (s_N (s_L (s_bipush dL_isSo_345 (by decide +kernel))) (s_L (s_o_icmp_ne dL_isSo_347 (by decide)))))))))) (s_N (s_N (s_N (s_N (s_N (s_N (s_L (s_aload_n dL_isSo_350 rfl)) (s_L (s_bipush dL_isSo_351 (by decide +kernel)))) (s_N (s_L (s_iald dL_isSo_353)) (s_L (s_o_goto dL_isSo_354 (by decide))))) (s_N (s_N (s_L (s_iload dL_isSo_357)) (s_L (s_bipush dL_isSo_359 (by decide +kernel)))) (s_N (s_L (s_o_icmp_ne dL_isSo_361 (by decide))) (s_L (s_iconst dL_isSo_364 (by decide +kernel)))))) (s_N (s_N (s_N (s_L (s_o_goto dL_isSo_365 (by decide))) (s_L (s_aload_n dL_isSo_368 rfl))) (s_N (s_L (s_iload dL_isSo_369)) (s_L (s_iconst dL_isSo_371 (by decide +kernel))))) (s_N (s_N (s_L (s_o_isub dL_isSo_372)) (s_L (s_iald dL_isSo_373))) (s_N (s_L (s_o_icmp_ne dL_isSo_374 (by decide))) (s_L (s_iconst dL_isSo_377 (by decide +kernel))))))) (s_N (s_N (s_N (s_N (s_L (s_o_goto dL_isSo_378 (by decide))) (s_L (s_iconst dL_isSo_381 (by decide +kernel)))) (s_N (s_L (s_istore dL_isSo_382 (by decide))) (s_L (s_iinc (v := 1) dL_isSo_384 (by decide +kernel) (by decide))))) (s_N (s_N (s_L (s_o_goto dL_isSo_387 (by decide))) (s_L (s_iconst dL_isSo_390 (by decide +kernel)))) (s_N (s_L (s_istore dL_isSo_391 (by decide))) (s_L (s_iload dL_isSo_393))))) (s_N (s_N (s_N (s_L (s_bipush dL_isSo_395 (by decide +kernel))) (s_L (s_o_icmp_ge dL_isSo_397 (by decide)))) (s_N (s_L (s_iload dL_isSo_400)) (s_L (s_o_if_eq dL_isSo_402 (by decide))))) (s_N (s_N (s_L (s_aload_n dL_isSo_405 rfl)) (s_L (s_iload dL_isSo_406))) (s_N (s_L (s_callSW (mc := 1) (ms := 6) cc_L_isSo_L_armOf qw_646 qw_647 dL_isSo_408)) (s_N (s_L (s_iload dL_isSo_411)) (s_L (s_iconst dL_isSo_413 (by decide +kernel))))))))) (s_N (s_N (s_N (s_N (s_N (s_L (s_o_icmp_ge dL_isSo_414 (by decide))) (s_L (s_aload_n dL_isSo_417 rfl))) (s_N (s_L (s_bipush dL_isSo_418 (by decide +kernel))) (s_L (s_iload dL_isSo_420)))) (s_N (s_N (s_L (s_o_iadd dL_isSo_422)) (s_L (s_iald dL_isSo_423))) (s_N (s_L (s_o_goto dL_isSo_424 (by decide))) (s_L (s_aload_n dL_isSo_427 rfl))))) (s_N (s_N (s_N (s_L (s_bipush dL_isSo_428 (by decide +kernel))) (s_L (s_iald dL_isSo_430))) (s_N (s_L (s_aload_n dL_isSo_431 rfl)) (s_L (s_iconst dL_isSo_432 (by decide +kernel))))) (s_N (s_N (s_L (s_iald dL_isSo_433)) (s_L (s_o_irem dL_isSo_434))) (s_N (s_L (s_o_icmp_ne dL_isSo_435 (by decide))) (s_N (s_L (s_iconst dL_isSo_438 (by decide +kernel))) (s_L (s_o_goto dL_isSo_439 (by decide)))))))) (s_N (s_N (s_N (s_N (s_L (s_iconst dL_isSo_442 (by decide +kernel))) (s_L (s_istore dL_isSo_443 (by decide)))) (s_N (s_L (s_iinc (v := 1) dL_isSo_445 (by decide +kernel) (by decide))) (s_L (s_o_goto dL_isSo_448 (by decide))))) (s_N (s_N (s_L (s_iload dL_isSo_451)) (s_L (s_o_if_eq dL_isSo_453 (by decide)))) (s_N (s_L (s_aload_n dL_isSo_456 rfl)) (s_L (s_aload_n dL_isSo_457 rfl))))) (s_N (s_N (s_N (s_L (s_bipush dL_isSo_458 (by decide +kernel))) (s_L (s_iald dL_isSo_460))) (s_N (s_L (s_callSW (mc := 1) (ms := 6) cc_L_isSo_L_requestAt qw_621 qw_622 dL_isSo_461)) (s_L (s_iconst dL_isSo_464 (by decide +kernel))))) (s_N (s_N (s_L (s_o_icmp_ne dL_isSo_465 (by decide))) (s_L (s_iconst dL_isSo_468 (by decide +kernel)))) (s_N (s_L (s_o_goto dL_isSo_469 (by decide))) (s_N (s_L (s_iconst dL_isSo_472 (by decide +kernel))) (s_L (s_zret rfl dL_isSo_473))))))))))
/-! L_law -/
def tL_law : TrD := (yL_law, cL_law, 8, some .boolean, 11, 396)
theorem dL_law_0 : decode cL_law 0 = .ok (.new 10, 3) := by decide +kernel
theorem dL_law_3 : decode cL_law 3 = .ok (.dup, 1) := by decide +kernel
theorem dL_law_4 : decode cL_law 4 = .ok (.invokespecial 120, 3) := by decide +kernel
theorem dL_law_7 : decode cL_law 7 = .ok (.astore_n 1, 1) := by decide +kernel
theorem dL_law_8 : decode cL_law 8 = .ok (.bipush 23, 2) := by decide +kernel
theorem dL_law_10 : decode cL_law 10 = .ok (.newarray .int, 2) := by decide +kernel
theorem dL_law_12 : decode cL_law 12 = .ok (.astore_n 2, 1) := by decide +kernel
theorem dL_law_13 : decode cL_law 13 = .ok (.bipush 60, 2) := by decide +kernel
theorem dL_law_15 : decode cL_law 15 = .ok (.newarray .int, 2) := by decide +kernel
theorem dL_law_17 : decode cL_law 17 = .ok (.astore_n 3, 1) := by decide +kernel
theorem dL_law_18 : decode cL_law 18 = .ok (.bipush 50, 2) := by decide +kernel
theorem dL_law_20 : decode cL_law 20 = .ok (.newarray .int, 2) := by decide +kernel
theorem dL_law_22 : decode cL_law 22 = .ok (.astore 4, 2) := by decide +kernel
theorem dL_law_24 : decode cL_law 24 = .ok (.aload_n 2, 1) := by decide +kernel
theorem dL_law_25 : decode cL_law 25 = .ok (.iconst 0, 1) := by decide +kernel
theorem dL_law_26 : decode cL_law 26 = .ok (.bipush 12, 2) := by decide +kernel
theorem dL_law_28 : decode cL_law 28 = .ok (.iastore, 1) := by decide +kernel
theorem dL_law_29 : decode cL_law 29 = .ok (.aload_n 2, 1) := by decide +kernel
theorem dL_law_30 : decode cL_law 30 = .ok (.iconst 1, 1) := by decide +kernel
theorem dL_law_31 : decode cL_law 31 = .ok (.bipush 6, 2) := by decide +kernel
theorem dL_law_33 : decode cL_law 33 = .ok (.iastore, 1) := by decide +kernel
theorem dL_law_34 : decode cL_law 34 = .ok (.aload_n 2, 1) := by decide +kernel
theorem dL_law_35 : decode cL_law 35 = .ok (.iconst 3, 1) := by decide +kernel
theorem dL_law_36 : decode cL_law 36 = .ok (.iconst 3, 1) := by decide +kernel
theorem dL_law_37 : decode cL_law 37 = .ok (.iastore, 1) := by decide +kernel
theorem dL_law_38 : decode cL_law 38 = .ok (.aload_n 2, 1) := by decide +kernel
theorem dL_law_39 : decode cL_law 39 = .ok (.iconst 4, 1) := by decide +kernel
theorem dL_law_40 : decode cL_law 40 = .ok (.bipush 30, 2) := by decide +kernel
theorem dL_law_42 : decode cL_law 42 = .ok (.iastore, 1) := by decide +kernel
theorem dL_law_43 : decode cL_law 43 = .ok (.aload_n 2, 1) := by decide +kernel
theorem dL_law_44 : decode cL_law 44 = .ok (.bipush 20, 2) := by decide +kernel
theorem dL_law_46 : decode cL_law 46 = .ok (.iconst 1, 1) := by decide +kernel
theorem dL_law_47 : decode cL_law 47 = .ok (.iastore, 1) := by decide +kernel
theorem dL_law_48 : decode cL_law 48 = .ok (.aload_n 1, 1) := by decide +kernel
theorem dL_law_49 : decode cL_law 49 = .ok (.aload_n 2, 1) := by decide +kernel
theorem dL_law_50 : decode cL_law 50 = .ok (.aload_n 3, 1) := by decide +kernel
theorem dL_law_51 : decode cL_law 51 = .ok (.aload 4, 2) := by decide +kernel
theorem dL_law_53 : decode cL_law 53 = .ok (.invokestatic 121, 3) := by decide +kernel
theorem dL_law_56 : decode cL_law 56 = .ok (.istore 5, 2) := by decide +kernel
theorem dL_law_58 : decode cL_law 58 = .ok (.iconst 0, 1) := by decide +kernel
theorem dL_law_59 : decode cL_law 59 = .ok (.istore 6, 2) := by decide +kernel
theorem dL_law_61 : decode cL_law 61 = .ok (.iload 6, 2) := by decide +kernel
theorem dL_law_63 : decode cL_law 63 = .ok (.iconst 5, 1) := by decide +kernel
theorem dL_law_64 : decode cL_law 64 = .ok (.if_icmp .ge 45, 3) := by decide +kernel
theorem dL_law_67 : decode cL_law 67 = .ok (.iload 5, 2) := by decide +kernel
theorem dL_law_69 : decode cL_law 69 = .ok (.ifCond .eq 40, 3) := by decide +kernel
theorem dL_law_72 : decode cL_law 72 = .ok (.aload_n 1, 1) := by decide +kernel
theorem dL_law_73 : decode cL_law 73 = .ok (.aload_n 2, 1) := by decide +kernel
theorem dL_law_74 : decode cL_law 74 = .ok (.aload_n 3, 1) := by decide +kernel
theorem dL_law_75 : decode cL_law 75 = .ok (.aload 4, 2) := by decide +kernel
theorem dL_law_77 : decode cL_law 77 = .ok (.aload_n 0, 1) := by decide +kernel
theorem dL_law_78 : decode cL_law 78 = .ok (.iconst 1, 1) := by decide +kernel
theorem dL_law_79 : decode cL_law 79 = .ok (.iload 6, 2) := by decide +kernel
theorem dL_law_81 : decode cL_law 81 = .ok (.iadd, 1) := by decide +kernel
theorem dL_law_82 : decode cL_law 82 = .ok (.invokestatic 125, 3) := by decide +kernel
theorem dL_law_85 : decode cL_law 85 = .ok (.ldc 8, 2) := by decide +kernel
theorem dL_law_87 : decode cL_law 87 = .ok (.iand, 1) := by decide +kernel
theorem dL_law_88 : decode cL_law 88 = .ok (.sipush 768, 3) := by decide +kernel
theorem dL_law_91 : decode cL_law 91 = .ok (.idiv, 1) := by decide +kernel
theorem dL_law_92 : decode cL_law 92 = .ok (.sipush 768, 3) := by decide +kernel
theorem dL_law_95 : decode cL_law 95 = .ok (.imul, 1) := by decide +kernel
theorem dL_law_96 : decode cL_law 96 = .ok (.iconst 1, 1) := by decide +kernel
theorem dL_law_97 : decode cL_law 97 = .ok (.iadd, 1) := by decide +kernel
theorem dL_law_98 : decode cL_law 98 = .ok (.invokestatic 129, 3) := by decide +kernel
theorem dL_law_101 : decode cL_law 101 = .ok (.istore 5, 2) := by decide +kernel
theorem dL_law_103 : decode cL_law 103 = .ok (.iinc 6 1, 3) := by decide +kernel
theorem dL_law_106 : decode cL_law 106 = .ok (.goto (-45), 3) := by decide +kernel
theorem dL_law_109 : decode cL_law 109 = .ok (.bipush 8, 2) := by decide +kernel
theorem dL_law_111 : decode cL_law 111 = .ok (.aload_n 0, 1) := by decide +kernel
theorem dL_law_112 : decode cL_law 112 = .ok (.iconst 0, 1) := by decide +kernel
theorem dL_law_113 : decode cL_law 113 = .ok (.invokestatic 125, 3) := by decide +kernel
theorem dL_law_116 : decode cL_law 116 = .ok (.bipush 42, 2) := by decide +kernel
theorem dL_law_118 : decode cL_law 118 = .ok (.invokestatic 61, 3) := by decide +kernel
theorem dL_law_121 : decode cL_law 121 = .ok (.iadd, 1) := by decide +kernel
theorem dL_law_122 : decode cL_law 122 = .ok (.istore 6, 2) := by decide +kernel
theorem dL_law_124 : decode cL_law 124 = .ok (.iconst 0, 1) := by decide +kernel
theorem dL_law_125 : decode cL_law 125 = .ok (.istore 7, 2) := by decide +kernel
theorem dL_law_127 : decode cL_law 127 = .ok (.iload 7, 2) := by decide +kernel
theorem dL_law_129 : decode cL_law 129 = .ok (.iload 6, 2) := by decide +kernel
theorem dL_law_131 : decode cL_law 131 = .ok (.if_icmp .ge 59, 3) := by decide +kernel
theorem dL_law_134 : decode cL_law 134 = .ok (.iload 5, 2) := by decide +kernel
theorem dL_law_136 : decode cL_law 136 = .ok (.ifCond .eq 54, 3) := by decide +kernel
theorem dL_law_139 : decode cL_law 139 = .ok (.aload_n 1, 1) := by decide +kernel
theorem dL_law_140 : decode cL_law 140 = .ok (.aload_n 2, 1) := by decide +kernel
theorem dL_law_141 : decode cL_law 141 = .ok (.aload_n 3, 1) := by decide +kernel
theorem dL_law_142 : decode cL_law 142 = .ok (.aload 4, 2) := by decide +kernel
theorem dL_law_144 : decode cL_law 144 = .ok (.aload_n 0, 1) := by decide +kernel
theorem dL_law_145 : decode cL_law 145 = .ok (.bipush 6, 2) := by decide +kernel
theorem dL_law_147 : decode cL_law 147 = .ok (.iload 7, 2) := by decide +kernel
theorem dL_law_149 : decode cL_law 149 = .ok (.iadd, 1) := by decide +kernel
theorem dL_law_150 : decode cL_law 150 = .ok (.invokestatic 125, 3) := by decide +kernel
theorem dL_law_153 : decode cL_law 153 = .ok (.sipush 7919, 3) := by decide +kernel
theorem dL_law_156 : decode cL_law 156 = .ok (.iload 7, 2) := by decide +kernel
theorem dL_law_158 : decode cL_law 158 = .ok (.imul, 1) := by decide +kernel
theorem dL_law_159 : decode cL_law 159 = .ok (.ixor, 1) := by decide +kernel
theorem dL_law_160 : decode cL_law 160 = .ok (.invokestatic 129, 3) := by decide +kernel
theorem dL_law_163 : decode cL_law 163 = .ok (.ifCond .eq 18, 3) := by decide +kernel
theorem dL_law_166 : decode cL_law 166 = .ok (.aload_n 1, 1) := by decide +kernel
theorem dL_law_167 : decode cL_law 167 = .ok (.aload_n 2, 1) := by decide +kernel
theorem dL_law_168 : decode cL_law 168 = .ok (.aload_n 3, 1) := by decide +kernel
theorem dL_law_169 : decode cL_law 169 = .ok (.aload 4, 2) := by decide +kernel
theorem dL_law_171 : decode cL_law 171 = .ok (.invokestatic 121, 3) := by decide +kernel
theorem dL_law_174 : decode cL_law 174 = .ok (.ifCond .eq 7, 3) := by decide +kernel
theorem dL_law_177 : decode cL_law 177 = .ok (.iconst 1, 1) := by decide +kernel
theorem dL_law_178 : decode cL_law 178 = .ok (.goto 4, 3) := by decide +kernel
theorem dL_law_181 : decode cL_law 181 = .ok (.iconst 0, 1) := by decide +kernel
theorem dL_law_182 : decode cL_law 182 = .ok (.istore 5, 2) := by decide +kernel
theorem dL_law_184 : decode cL_law 184 = .ok (.iinc 7 1, 3) := by decide +kernel
theorem dL_law_187 : decode cL_law 187 = .ok (.goto (-60), 3) := by decide +kernel
theorem dL_law_190 : decode cL_law 190 = .ok (.iload 5, 2) := by decide +kernel
theorem dL_law_192 : decode cL_law 192 = .ok (.ifCond .eq 97, 3) := by decide +kernel
theorem dL_law_195 : decode cL_law 195 = .ok (.aload_n 1, 1) := by decide +kernel
theorem dL_law_196 : decode cL_law 196 = .ok (.iconst (-1), 1) := by decide +kernel
theorem dL_law_197 : decode cL_law 197 = .ok (.invokestatic 107, 3) := by decide +kernel
theorem dL_law_200 : decode cL_law 200 = .ok (.ldc 17, 2) := by decide +kernel
theorem dL_law_202 : decode cL_law 202 = .ok (.if_icmp .ne 87, 3) := by decide +kernel
theorem dL_law_205 : decode cL_law 205 = .ok (.aload_n 1, 1) := by decide +kernel
theorem dL_law_206 : decode cL_law 206 = .ok (.iconst (-1), 1) := by decide +kernel
theorem dL_law_207 : decode cL_law 207 = .ok (.iconst 0, 1) := by decide +kernel
theorem dL_law_208 : decode cL_law 208 = .ok (.invokestatic 111, 3) := by decide +kernel
theorem dL_law_211 : decode cL_law 211 = .ok (.ldc 17, 2) := by decide +kernel
theorem dL_law_213 : decode cL_law 213 = .ok (.if_icmp .ne 76, 3) := by decide +kernel
theorem dL_law_216 : decode cL_law 216 = .ok (.aload_n 1, 1) := by decide +kernel
theorem dL_law_217 : decode cL_law 217 = .ok (.iconst 0, 1) := by decide +kernel
theorem dL_law_218 : decode cL_law 218 = .ok (.iconst 5, 1) := by decide +kernel
theorem dL_law_219 : decode cL_law 219 = .ok (.invokestatic 111, 3) := by decide +kernel
theorem dL_law_222 : decode cL_law 222 = .ok (.ldc 17, 2) := by decide +kernel
theorem dL_law_224 : decode cL_law 224 = .ok (.if_icmp .ne 65, 3) := by decide +kernel
theorem dL_law_227 : decode cL_law 227 = .ok (.aload_n 1, 1) := by decide +kernel
theorem dL_law_228 : decode cL_law 228 = .ok (.bipush 6, 2) := by decide +kernel
theorem dL_law_230 : decode cL_law 230 = .ok (.invokestatic 117, 3) := by decide +kernel
theorem dL_law_233 : decode cL_law 233 = .ok (.ldc 17, 2) := by decide +kernel
theorem dL_law_235 : decode cL_law 235 = .ok (.if_icmp .ne 54, 3) := by decide +kernel
theorem dL_law_238 : decode cL_law 238 = .ok (.aload_n 1, 1) := by decide +kernel
theorem dL_law_239 : decode cL_law 239 = .ok (.bipush 18, 2) := by decide +kernel
theorem dL_law_241 : decode cL_law 241 = .ok (.invokestatic 114, 3) := by decide +kernel
theorem dL_law_244 : decode cL_law 244 = .ok (.ldc 17, 2) := by decide +kernel
theorem dL_law_246 : decode cL_law 246 = .ok (.if_icmp .ne 43, 3) := by decide +kernel
theorem dL_law_249 : decode cL_law 249 = .ok (.aload_n 1, 1) := by decide +kernel
theorem dL_law_250 : decode cL_law 250 = .ok (.iconst (-1), 1) := by decide +kernel
theorem dL_law_251 : decode cL_law 251 = .ok (.invokestatic 114, 3) := by decide +kernel
theorem dL_law_254 : decode cL_law 254 = .ok (.ldc 17, 2) := by decide +kernel
theorem dL_law_256 : decode cL_law 256 = .ok (.if_icmp .ne 33, 3) := by decide +kernel
theorem dL_law_259 : decode cL_law 259 = .ok (.aload_n 1, 1) := by decide +kernel
theorem dL_law_260 : decode cL_law 260 = .ok (.aload_n 2, 1) := by decide +kernel
theorem dL_law_261 : decode cL_law 261 = .ok (.bipush 7, 2) := by decide +kernel
theorem dL_law_263 : decode cL_law 263 = .ok (.iaload, 1) := by decide +kernel
theorem dL_law_264 : decode cL_law 264 = .ok (.bipush 9, 2) := by decide +kernel
theorem dL_law_266 : decode cL_law 266 = .ok (.invokestatic 109, 3) := by decide +kernel
theorem dL_law_269 : decode cL_law 269 = .ok (.ldc 31, 2) := by decide +kernel
theorem dL_law_271 : decode cL_law 271 = .ok (.if_icmp .ne 18, 3) := by decide +kernel
theorem dL_law_274 : decode cL_law 274 = .ok (.aload_n 1, 1) := by decide +kernel
theorem dL_law_275 : decode cL_law 275 = .ok (.iconst (-1), 1) := by decide +kernel
theorem dL_law_276 : decode cL_law 276 = .ok (.iconst 0, 1) := by decide +kernel
theorem dL_law_277 : decode cL_law 277 = .ok (.invokestatic 109, 3) := by decide +kernel
theorem dL_law_280 : decode cL_law 280 = .ok (.ldc 31, 2) := by decide +kernel
theorem dL_law_282 : decode cL_law 282 = .ok (.if_icmp .ne 7, 3) := by decide +kernel
theorem dL_law_285 : decode cL_law 285 = .ok (.iconst 1, 1) := by decide +kernel
theorem dL_law_286 : decode cL_law 286 = .ok (.goto 4, 3) := by decide +kernel
theorem dL_law_289 : decode cL_law 289 = .ok (.iconst 0, 1) := by decide +kernel
theorem dL_law_290 : decode cL_law 290 = .ok (.ireturn, 1) := by decide +kernel
theorem cc_L_law_X9_init : CallC tL_law tX9_init 0 := ⟨by decide +kernel, by decide +kernel, by decide +kernel, by decide, by decide, qw_15, qw_37⟩
theorem cc_L_law_L_isSo : CallC tL_law tL_isSo 4 := ⟨by decide +kernel, by decide +kernel, by decide +kernel, by decide, by decide, qw_14, qw_663⟩
theorem cc_L_law_L_cell : CallC tL_law tL_cell 2 := ⟨by decide +kernel, by decide +kernel, by decide +kernel, by decide, by decide, qw_14, qw_274⟩
theorem cc_L_law_L_acts : CallC tL_law tL_acts 5 := ⟨by decide +kernel, by decide +kernel, by decide +kernel, by decide, by decide, qw_14, qw_282⟩
theorem cc_L_law_L_low : CallC tL_law tL_low 2 := ⟨by decide +kernel, by decide +kernel, by decide +kernel, by decide, by decide, qw_14, qw_278⟩
theorem cc_L_law_L_requestAt : CallH tL_law tL_requestAt hhL_requestAt 2 := ⟨by decide +kernel, by decide +kernel, by decide +kernel, by decide, by decide, qw_14, qw_623⟩
theorem cc_L_law_L_loggedOf : CallH tL_law tL_loggedOf hhL_loggedOf 3 := ⟨by decide +kernel, by decide +kernel, by decide +kernel, by decide, by decide, qw_14, qw_630⟩
theorem cc_L_law_L_armOf : CallH tL_law tL_armOf hhL_armOf 2 := ⟨by decide +kernel, by decide +kernel, by decide +kernel, by decide, by decide, qw_14, qw_648⟩
theorem cc_L_law_L_wholeOf : CallH tL_law tL_wholeOf hhL_wholeOf 2 := ⟨by decide +kernel, by decide +kernel, by decide +kernel, by decide, by decide, qw_14, qw_656⟩
theorem cc_L_law_L_requestOf : CallH tL_law tL_requestOf hhL_requestOf 3 := ⟨by decide +kernel, by decide +kernel, by decide +kernel, by decide, by decide, qw_14, qw_611⟩
def kL_law : Nat → WOp := cN 131 (cN 58 (cN 31 (cN 17 (cN 8 (cN 3 (cN 0 (cL 0 (o_new 3 7 7 [.null, .null, .null, .int 0, .null, .null, .null])) (cL 3 (o_dup 4))) (cN 4 (cL 4 (o_callI 7 0 tX9_init 100 6000)) (cN 7 (cL 7 (o_astore 8 1)) (cL 8 (o_push 10 23))))) (cN 12 (cN 10 (cL 10 (o_newa 12 0 23)) (cL 12 (o_astore 13 2))) (cN 13 (cL 13 (o_push 15 60)) (cN 15 (cL 15 (o_newa 17 0 60)) (cL 17 (o_astore 18 3)))))) (cN 25 (cN 20 (cN 18 (cL 18 (o_push 20 50)) (cL 20 (o_newa 22 0 50))) (cN 22 (cL 22 (o_astore 24 4)) (cN 24 (cL 24 (o_aload 25 2)) (cL 25 (o_push 26 0))))) (cN 28 (cN 26 (cL 26 (o_push 28 12)) (cL 28 (o_iast 29))) (cN 29 (cL 29 (o_aload 30 2)) (cN 30 (cL 30 (o_push 31 1)) (cL 31 (o_push 33 6))))))) (cN 43 (cN 37 (cN 34 (cN 33 (cL 33 (o_iast 34)) (cL 34 (o_aload 35 2))) (cN 35 (cL 35 (o_push 36 3)) (cN 36 (cL 36 (o_push 37 3)) (cL 37 (o_iast 38))))) (cN 39 (cN 38 (cL 38 (o_aload 39 2)) (cL 39 (o_push 40 4))) (cN 40 (cL 40 (o_push 42 30)) (cN 42 (cL 42 (o_iast 43)) (cL 43 (o_aload 44 2)))))) (cN 49 (cN 46 (cN 44 (cL 44 (o_push 46 20)) (cL 46 (o_push 47 1))) (cN 47 (cL 47 (o_iast 48)) (cN 48 (cL 48 (o_aload 49 1)) (cL 49 (o_aload 50 2))))) (cN 51 (cN 50 (cL 50 (o_aload 51 3)) (cL 51 (o_aload 53 4))) (cN 53 (cL 53 (o_callS 56 4 tL_isSo 300 1800)) (cN 56 (cL 56 (o_istore 58 5)) (cL 58 (o_push 59 0)))))))) (cN 92 (cN 75 (cN 67 (cN 61 (cN 59 (cL 59 (o_istore 61 6)) (cL 61 (o_iload 63 6))) (cN 63 (cL 63 (o_push 64 5)) (cN 64 (cL 64 (o_icmp_ge 109 67)) (cL 67 (o_iload 69 5))))) (cN 72 (cN 69 (cL 69 (o_if_eq 109 72)) (cL 72 (o_aload 73 1))) (cN 73 (cL 73 (o_aload 74 2)) (cN 74 (cL 74 (o_aload 75 3)) (cL 75 (o_aload 77 4)))))) (cN 82 (cN 78 (cN 77 (cL 77 (o_aload 78 0)) (cL 78 (o_push 79 1))) (cN 79 (cL 79 (o_iload 81 6)) (cN 81 (cL 81 (o_iadd 82)) (cL 82 (o_callS 85 2 tL_cell 0 0))))) (cN 87 (cN 85 (cL 85 (o_push 87 2147483647)) (cL 87 (o_iand 88))) (cN 88 (cL 88 (o_push 91 768)) (cN 91 (cL 91 (o_idiv 92)) (cL 92 (o_push 95 768))))))) (cN 112 (cN 101 (cN 96 (cN 95 (cL 95 (o_imul 96)) (cL 96 (o_push 97 1))) (cN 97 (cL 97 (o_iadd 98)) (cN 98 (cL 98 (o_callS 101 5 tL_acts 1 6)) (cL 101 (o_istore 103 5))))) (cN 106 (cN 103 (cL 103 (o_iinc 106 6 1)) (cL 106 (o_goto 61))) (cN 109 (cL 109 (o_push 111 8)) (cN 111 (cL 111 (o_aload 112 0)) (cL 112 (o_push 113 0)))))) (cN 122 (cN 116 (cN 113 (cL 113 (o_callS 116 2 tL_cell 0 0)) (cL 116 (o_push 118 42))) (cN 118 (cL 118 (o_callS 121 2 tL_low 0 0)) (cN 121 (cL 121 (o_iadd 122)) (cL 122 (o_istore 124 6))))) (cN 125 (cN 124 (cL 124 (o_push 125 0)) (cL 125 (o_istore 127 7))) (cN 127 (cL 127 (o_iload 129 7)) (cN 129 (cL 129 (o_iload 131 6)) (cL 131 (o_icmp_ge 190 134))))))))) (cN 208 (cN 168 (cN 149 (cN 141 (cN 136 (cN 134 (cL 134 (o_iload 136 5)) (cL 136 (o_if_eq 190 139))) (cN 139 (cL 139 (o_aload 140 1)) (cN 140 (cL 140 (o_aload 141 2)) (cL 141 (o_aload 142 3))))) (cN 144 (cN 142 (cL 142 (o_aload 144 4)) (cL 144 (o_aload 145 0))) (cN 145 (cL 145 (o_push 147 6)) (cN 147 (cL 147 (o_iload 149 7)) (cL 149 (o_iadd 150)))))) (cN 159 (cN 153 (cN 150 (cL 150 (o_callS 153 2 tL_cell 0 0)) (cL 153 (o_push 156 7919))) (cN 156 (cL 156 (o_iload 158 7)) (cN 158 (cL 158 (o_imul 159)) (cL 159 (o_ixor 160))))) (cN 163 (cN 160 (cL 160 (o_callS 163 5 tL_acts 1 6)) (cL 163 (o_if_eq 181 166))) (cN 166 (cL 166 (o_aload 167 1)) (cN 167 (cL 167 (o_aload 168 2)) (cL 168 (o_aload 169 3))))))) (cN 190 (cN 178 (cN 171 (cN 169 (cL 169 (o_aload 171 4)) (cL 171 (o_callS 174 4 tL_isSo 300 1800))) (cN 174 (cL 174 (o_if_eq 181 177)) (cN 177 (cL 177 (o_push 178 1)) (cL 178 (o_goto 182))))) (cN 182 (cN 181 (cL 181 (o_push 182 0)) (cL 182 (o_istore 184 5))) (cN 184 (cL 184 (o_iinc 187 7 1)) (cN 187 (cL 187 (o_goto 127)) (cL 190 (o_iload 192 5)))))) (cN 200 (cN 195 (cN 192 (cL 192 (o_if_eq 289 195)) (cL 195 (o_aload 196 1))) (cN 196 (cL 196 (o_push 197 (-1))) (cN 197 (cL 197 (o_callSW 200 2 tL_requestAt hhL_requestAt 1 6)) (cL 200 (o_push 202 (-2000002)))))) (cN 205 (cN 202 (cL 202 (o_icmp_ne 289 205)) (cL 205 (o_aload 206 1))) (cN 206 (cL 206 (o_push 207 (-1))) (cN 207 (cL 207 (o_push 208 0)) (cL 208 (o_callSW 211 3 tL_loggedOf hhL_loggedOf 1 6)))))))) (cN 250 (cN 228 (cN 218 (cN 213 (cN 211 (cL 211 (o_push 213 (-2000002))) (cL 213 (o_icmp_ne 289 216))) (cN 216 (cL 216 (o_aload 217 1)) (cN 217 (cL 217 (o_push 218 0)) (cL 218 (o_push 219 5))))) (cN 222 (cN 219 (cL 219 (o_callSW 222 3 tL_loggedOf hhL_loggedOf 1 6)) (cL 222 (o_push 224 (-2000002)))) (cN 224 (cL 224 (o_icmp_ne 289 227)) (cN 227 (cL 227 (o_aload 228 1)) (cL 228 (o_push 230 6)))))) (cN 239 (cN 233 (cN 230 (cL 230 (o_callSW 233 2 tL_armOf hhL_armOf 1 6)) (cL 233 (o_push 235 (-2000002)))) (cN 235 (cL 235 (o_icmp_ne 289 238)) (cN 238 (cL 238 (o_aload 239 1)) (cL 239 (o_push 241 18))))) (cN 244 (cN 241 (cL 241 (o_callSW 244 2 tL_wholeOf hhL_wholeOf 1 6)) (cL 244 (o_push 246 (-2000002)))) (cN 246 (cL 246 (o_icmp_ne 289 249)) (cN 249 (cL 249 (o_aload 250 1)) (cL 250 (o_push 251 (-1)))))))) (cN 269 (cN 260 (cN 254 (cN 251 (cL 251 (o_callSW 254 2 tL_wholeOf hhL_wholeOf 1 6)) (cL 254 (o_push 256 (-2000002)))) (cN 256 (cL 256 (o_icmp_ne 289 259)) (cN 259 (cL 259 (o_aload 260 1)) (cL 260 (o_aload 261 2))))) (cN 263 (cN 261 (cL 261 (o_push 263 7)) (cL 263 (o_iald 264))) (cN 264 (cL 264 (o_push 266 9)) (cN 266 (cL 266 (o_callSW 269 3 tL_requestOf hhL_requestOf 1 6)) (cL 269 (o_push 271 (-2000001))))))) (cN 277 (cN 274 (cN 271 (cL 271 (o_icmp_ne 289 274)) (cL 274 (o_aload 275 1))) (cN 275 (cL 275 (o_push 276 (-1))) (cN 276 (cL 276 (o_push 277 0)) (cL 277 (o_callSW 280 3 tL_requestOf hhL_requestOf 1 6))))) (cN 285 (cN 280 (cL 280 (o_push 282 (-2000001))) (cN 282 (cL 282 (o_icmp_ne 289 285)) (cL 285 (o_push 286 1)))) (cN 286 (cL 286 (o_goto 290)) (cN 289 (cL 289 (o_push 290 0)) (cL 290 (o_zret)))))))))
theorem sL_law : ∀ pc, Snd tL_law G1 pc (kL_law pc) := s_N (s_N (s_N (s_N (s_N (s_N (s_N (s_L (s_new ok_7 (fs := [.null, .null, .null, .int 0, .null, .null, .null]) (fun j hj => by rcases (show j = 0 ∨ j = 1 ∨ j = 2 ∨ j = 3 ∨ j = 4 ∨ j = 5 ∨ j = 6 by omega) with rfl | rfl | rfl | rfl | rfl | rfl | rfl <;> rfl) (by decide) qw_33 qw_34 qw_15 dL_law_0)) (s_L (s_o_dup dL_law_3))) (s_N (s_L (s_callI (d' := tX9_init) (mc := 100) (ms := 6000) cc_L_law_X9_init rfl rfl (Or.inl qw_35) qw_36 dL_law_4)) (s_N (s_L (s_astore_n dL_law_7 rfl (by decide))) (s_L (s_bipush dL_law_8 (by decide +kernel)))))) (s_N (s_N (s_L (s_newa (t := 0) (N := 23) (ty := .int) rfl (by decide) (by decide) qw_79 dL_law_10)) (s_L (s_astore_n dL_law_12 rfl (by decide)))) (s_N (s_L (s_bipush dL_law_13 (by decide +kernel))) (s_N (s_L (s_newa (t := 0) (N := 60) (ty := .int) rfl (by decide) (by decide) qw_79 dL_law_15)) (s_L (s_astore_n dL_law_17 rfl (by decide))))))) (s_N (s_N (s_N (s_L (s_bipush dL_law_18 (by decide +kernel))) (s_L (s_newa (t := 0) (N := 50) (ty := .int) rfl (by decide) (by decide) qw_79 dL_law_20))) (s_N (s_L (s_astore dL_law_22 (by decide))) (s_N (s_L (s_aload_n dL_law_24 rfl)) (s_L (s_iconst dL_law_25 (by decide +kernel)))))) (s_N (s_N (s_L (s_bipush dL_law_26 (by decide +kernel))) (s_L (s_iast dL_law_28))) (s_N (s_L (s_aload_n dL_law_29 rfl)) (s_N (s_L (s_iconst dL_law_30 (by decide +kernel))) (s_L (s_bipush dL_law_31 (by decide +kernel)))))))) (s_N (s_N (s_N (s_N (s_L (s_iast dL_law_33)) (s_L (s_aload_n dL_law_34 rfl))) (s_N (s_L (s_iconst dL_law_35 (by decide +kernel))) (s_N (s_L (s_iconst dL_law_36 (by decide +kernel))) (s_L (s_iast dL_law_37))))) (s_N (s_N (s_L (s_aload_n dL_law_38 rfl)) (s_L (s_iconst dL_law_39 (by decide +kernel)))) (s_N (s_L (s_bipush dL_law_40 (by decide +kernel))) (s_N (s_L (s_iast dL_law_42)) (s_L (s_aload_n dL_law_43 rfl)))))) (s_N (s_N (s_N (s_L (s_bipush dL_law_44 (by decide +kernel))) (s_L (s_iconst dL_law_46 (by decide +kernel)))) (s_N (s_L (s_iast dL_law_47)) (s_N (s_L (s_aload_n dL_law_48 rfl)) (s_L (s_aload_n dL_law_49 rfl))))) (s_N (s_N (s_L (s_aload_n dL_law_50 rfl)) (s_L (s_aload dL_law_51))) (s_N (s_L (s_callS (d' := tL_isSo) (mc := 300) (ms := 1800) cc_L_law_L_isSo qw_661 qw_662 dL_law_53)) (s_N (s_L (s_istore dL_law_56 (by decide))) (s_L (s_iconst dL_law_58 (by decide +kernel))))))))) (s_N (s_N (s_N (s_N (s_N (s_L (s_istore dL_law_59 (by decide))) (s_L (s_iload dL_law_61))) (s_N (s_L (s_iconst dL_law_63 (by decide +kernel))) (s_N (s_L (s_o_icmp_ge dL_law_64 (by decide))) (s_L (s_iload dL_law_67))))) (s_N (s_N (s_L (s_o_if_eq dL_law_69 (by decide))) (s_L (s_aload_n dL_law_72 rfl))) (s_N (s_L (s_aload_n dL_law_73 rfl)) (s_N (s_L (s_aload_n dL_law_74 rfl)) (s_L (s_aload dL_law_75)))))) (s_N (s_N (s_N (s_L (s_aload_n dL_law_77 rfl)) (s_L (s_iconst dL_law_78 (by decide +kernel)))) (s_N (s_L (s_iload dL_law_79)) (s_N (s_L (s_o_iadd dL_law_81)) (s_L (s_callS (d' := tL_cell) (mc := 0) (ms := 0) cc_L_law_L_cell qw_272 qw_273 dL_law_82))))) (s_N (s_N (s_L (s_ldc dL_law_85 qw_279)) (s_L (s_o_iand dL_law_87))) (s_N (s_L (s_sipush dL_law_88 (by decide +kernel))) (s_N (s_L (s_o_idiv dL_law_91)) (s_L (s_sipush dL_law_92 (by decide +kernel)))))))) (s_N (s_N (s_N (s_N (s_L (s_o_imul dL_law_95)) (s_L (s_iconst dL_law_96 (by decide +kernel)))) (s_N (s_L (s_o_iadd dL_law_97)) (s_N (s_L (s_callS (d' := tL_acts) (mc := 1) (ms := 6) cc_L_law_L_acts qw_280 qw_281 dL_law_98)) (s_L (s_istore dL_law_101 (by decide)))))) (s_N (s_N (s_L (s_iinc (v := 1) dL_law_103 (by decide +kernel) (by decide))) (s_L (s_o_goto dL_law_106 (by decide)))) (s_N (s_L (s_bipush dL_law_109 (by decide +kernel))) (s_N (s_L (s_aload_n dL_law_111 rfl)) (s_L (s_iconst dL_law_112 (by decide +kernel))))))) (s_N (s_N (s_N (s_L (s_callS (d' := tL_cell) (mc := 0) (ms := 0) cc_L_law_L_cell qw_272 qw_273 dL_law_113)) (s_L (s_bipush dL_law_116 (by decide +kernel)))) (s_N (s_L (s_callS (d' := tL_low) (mc := 0) (ms := 0) cc_L_law_L_low qw_276 qw_277 dL_law_118)) (s_N (s_L (s_o_iadd dL_law_121)) (s_L (s_istore dL_law_122 (by decide)))))) (s_N (s_N (s_L (s_iconst dL_law_124 (by decide +kernel))) (s_L (s_istore dL_law_125 (by decide)))) (s_N (s_L (s_iload dL_law_127)) (s_N (s_L (s_iload dL_law_129)) (s_L (s_o_icmp_ge dL_law_131 (by decide)))))))))) (s_N (s_N (s_N (s_N (s_N (s_N (s_L (s_iload dL_law_134)) (s_L (s_o_if_eq dL_law_136 (by decide)))) (s_N (s_L (s_aload_n dL_law_139 rfl)) (s_N (s_L (s_aload_n dL_law_140 rfl)) (s_L (s_aload_n dL_law_141 rfl))))) (s_N (s_N (s_L (s_aload dL_law_142)) (s_L (s_aload_n dL_law_144 rfl))) (s_N (s_L (s_bipush dL_law_145 (by decide +kernel))) (s_N (s_L (s_iload dL_law_147)) (s_L (s_o_iadd dL_law_149)))))) (s_N (s_N (s_N (s_L (s_callS (d' := tL_cell) (mc := 0) (ms := 0) cc_L_law_L_cell qw_272 qw_273 dL_law_150)) (s_L (s_sipush dL_law_153 (by decide +kernel)))) (s_N (s_L (s_iload dL_law_156)) (s_N (s_L (s_o_imul dL_law_158)) (s_L (s_o_ixor dL_law_159))))) (s_N (s_N (s_L (s_callS (d' := tL_acts) (mc := 1) (ms := 6) cc_L_law_L_acts qw_280 qw_281 dL_law_160)) (s_L (s_o_if_eq dL_law_163 (by decide)))) (s_N (s_L (s_aload_n dL_law_166 rfl)) (s_N (s_L (s_aload_n dL_law_167 rfl)) (s_L (s_aload_n dL_law_168 rfl))))))) (s_N (s_N (s_N (s_N (s_L (s_aload dL_law_169)) (s_L (s_callS (d' := tL_isSo) (mc := 300) (ms := 1800) cc_L_law_L_isSo qw_661 qw_662 dL_law_171))) (s_N (s_L (s_o_if_eq dL_law_174 (by decide))) (s_N (s_L (s_iconst dL_law_177 (by decide +kernel))) (s_L (s_o_goto dL_law_178 (by decide)))))) (s_N (s_N (s_L (s_iconst dL_law_181 (by decide +kernel))) (s_L (s_istore dL_law_182 (by decide)))) (s_N (s_L (s_iinc (v := 1) dL_law_184 (by decide +kernel) (by decide))) (s_N (s_L (s_o_goto dL_law_187 (by decide))) (s_L (s_iload dL_law_190)))))) (s_N (s_N (s_N (s_L (s_o_if_eq dL_law_192 (by decide))) (s_L (s_aload_n dL_law_195 rfl))) (s_N (s_L (s_iconst dL_law_196 (by decide +kernel))) (s_N (s_L (s_callSW (mc := 1) (ms := 6) cc_L_law_L_requestAt qw_621 qw_622 dL_law_197)) (s_L (s_ldc dL_law_200 qw_411))))) (s_N (s_N (s_L (s_o_icmp_ne dL_law_202 (by decide))) (s_L (s_aload_n dL_law_205 rfl))) (s_N (s_L (s_iconst dL_law_206 (by decide +kernel))) (s_N (s_L (s_iconst dL_law_207 (by decide +kernel))) (s_L (s_callSW (mc := 1) (ms := 6) cc_L_law_L_loggedOf qw_628 qw_629 dL_law_208)))))))) (s_N (s_N (s_N (s_N (s_N (s_L (s_ldc dL_law_211 qw_411)) (s_L (s_o_icmp_ne dL_law_213 (by decide)))) (s_N (s_L (s_aload_n dL_law_216 rfl)) (s_N (s_L (s_iconst dL_law_217 (by decide +kernel))) (s_L (s_iconst dL_law_218 (by decide +kernel)))))) (s_N (s_N (s_L (s_callSW (mc := 1) (ms := 6) cc_L_law_L_loggedOf qw_628 qw_629 dL_law_219)) (s_L (s_ldc dL_law_222 qw_411))) (s_N (s_L (s_o_icmp_ne dL_law_224 (by decide))) (s_N (s_L (s_aload_n dL_law_227 rfl)) (s_L (s_bipush dL_law_228 (by decide +kernel))))))) (s_N (s_N (s_N (s_L (s_callSW (mc := 1) (ms := 6) cc_L_law_L_armOf qw_646 qw_647 dL_law_230)) (s_L (s_ldc dL_law_233 qw_411))) (s_N (s_L (s_o_icmp_ne dL_law_235 (by decide))) (s_N (s_L (s_aload_n dL_law_238 rfl)) (s_L (s_bipush dL_law_239 (by decide +kernel)))))) (s_N (s_N (s_L (s_callSW (mc := 1) (ms := 6) cc_L_law_L_wholeOf qw_654 qw_655 dL_law_241)) (s_L (s_ldc dL_law_244 qw_411))) (s_N (s_L (s_o_icmp_ne dL_law_246 (by decide))) (s_N (s_L (s_aload_n dL_law_249 rfl)) (s_L (s_iconst dL_law_250 (by decide +kernel)))))))) (s_N (s_N (s_N (s_N (s_L (s_callSW (mc := 1) (ms := 6) cc_L_law_L_wholeOf qw_654 qw_655 dL_law_251)) (s_L (s_ldc dL_law_254 qw_411))) (s_N (s_L (s_o_icmp_ne dL_law_256 (by decide))) (s_N (s_L (s_aload_n dL_law_259 rfl)) (s_L (s_aload_n dL_law_260 rfl))))) (s_N (s_N (s_L (s_bipush dL_law_261 (by decide +kernel))) (s_L (s_iald dL_law_263))) (s_N (s_L (s_bipush dL_law_264 (by decide +kernel))) (s_N (s_L (s_callSW (mc := 1) (ms := 6) cc_L_law_L_requestOf qw_609 qw_610 dL_law_266)) (s_L (s_ldc dL_law_269 qw_487)))))) (s_N (s_N (s_N (s_L (s_o_icmp_ne dL_law_271 (by decide))) (s_L (s_aload_n dL_law_274 rfl))) (s_N (s_L (s_iconst dL_law_275 (by decide +kernel))) (s_N (s_L (s_iconst dL_law_276 (by decide +kernel))) (s_L (s_callSW (mc := 1) (ms := 6) cc_L_law_L_requestOf qw_609 qw_610 dL_law_277))))) (s_N (s_N (s_L (s_ldc dL_law_280 qw_487)) (s_N (s_L (s_o_icmp_ne dL_law_282 (by decide))) (s_L (s_iconst dL_law_285 (by decide +kernel))))) (s_N (s_L (s_o_goto dL_law_286 (by decide))) (s_N (s_L (s_iconst dL_law_289 (by decide +kernel))) (s_L (s_zret rfl dL_law_290)))))))))
