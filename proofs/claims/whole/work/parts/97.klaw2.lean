theorem dL_law_0 : decode cL_law 0 = .ok (.new 8, 3) := by decide +kernel
theorem dL_law_3 : decode cL_law 3 = .ok (.dup, 1) := by decide +kernel
theorem dL_law_4 : decode cL_law 4 = .ok (.invokespecial 73, 3) := by decide +kernel
theorem dL_law_7 : decode cL_law 7 = .ok (.astore_n 1, 1) := by decide +kernel
theorem dL_law_8 : decode cL_law 8 = .ok (.new 74, 3) := by decide +kernel
theorem dL_law_11 : decode cL_law 11 = .ok (.dup, 1) := by decide +kernel
theorem dL_law_12 : decode cL_law 12 = .ok (.invokespecial 76, 3) := by decide +kernel
theorem dL_law_15 : decode cL_law 15 = .ok (.astore_n 2, 1) := by decide +kernel
theorem dL_law_16 : decode cL_law 16 = .ok (.iconst 1, 1) := by decide +kernel
theorem dL_law_17 : decode cL_law 17 = .ok (.newarray .long, 2) := by decide +kernel
theorem dL_law_19 : decode cL_law 19 = .ok (.astore_n 3, 1) := by decide +kernel
theorem dL_law_20 : decode cL_law 20 = .ok (.iconst 0, 1) := by decide +kernel
theorem dL_law_21 : decode cL_law 21 = .ok (.istore 4, 2) := by decide +kernel
theorem dL_law_23 : decode cL_law 23 = .ok (.iload 4, 2) := by decide +kernel
theorem dL_law_25 : decode cL_law 25 = .ok (.aload_n 0, 1) := by decide +kernel
theorem dL_law_26 : decode cL_law 26 = .ok (.arraylength, 1) := by decide +kernel
theorem dL_law_27 : decode cL_law 27 = .ok (.iconst 4, 1) := by decide +kernel
theorem dL_law_28 : decode cL_law 28 = .ok (.isub, 1) := by decide +kernel
theorem dL_law_29 : decode cL_law 29 = .ok (.if_icmp .gt 1255, 3) := by decide +kernel
theorem dL_law_32 : decode cL_law 32 = .ok (.aload_n 0, 1) := by decide +kernel
theorem dL_law_33 : decode cL_law 33 = .ok (.iload 4, 2) := by decide +kernel
theorem dL_law_35 : decode cL_law 35 = .ok (.iaload, 1) := by decide +kernel
theorem dL_law_36 : decode cL_law 36 = .ok (.bipush 31, 2) := by decide +kernel
theorem dL_law_38 : decode cL_law 38 = .ok (.iand, 1) := by decide +kernel
theorem dL_law_39 : decode cL_law 39 = .ok (.tableswitch 1239 0 22 #[105, 173, 253, 309, 377, 433, 477, 545, 601, 669, 725, 781, 837, 893, 961, 974, 1030, 1043, 1099, 1155, 1168, 1181, 1225], 105) := by decide +kernel
theorem dL_law_144 : decode cL_law 144 = .ok (.aload_n 1, 1) := by decide +kernel
theorem dL_law_145 : decode cL_law 145 = .ok (.aload_n 0, 1) := by decide +kernel
theorem dL_law_146 : decode cL_law 146 = .ok (.iload 4, 2) := by decide +kernel
theorem dL_law_148 : decode cL_law 148 = .ok (.iconst 1, 1) := by decide +kernel
theorem dL_law_149 : decode cL_law 149 = .ok (.iadd, 1) := by decide +kernel
theorem dL_law_150 : decode cL_law 150 = .ok (.iaload, 1) := by decide +kernel
theorem dL_law_151 : decode cL_law 151 = .ok (.aload_n 0, 1) := by decide +kernel
theorem dL_law_152 : decode cL_law 152 = .ok (.iload 4, 2) := by decide +kernel
theorem dL_law_154 : decode cL_law 154 = .ok (.iconst 2, 1) := by decide +kernel
theorem dL_law_155 : decode cL_law 155 = .ok (.iadd, 1) := by decide +kernel
theorem dL_law_156 : decode cL_law 156 = .ok (.iaload, 1) := by decide +kernel
theorem dL_law_157 : decode cL_law 157 = .ok (.aload_n 3, 1) := by decide +kernel
theorem dL_law_158 : decode cL_law 158 = .ok (.invokestatic 77, 3) := by decide +kernel
theorem dL_law_161 : decode cL_law 161 = .ok (.istore 5, 2) := by decide +kernel
theorem dL_law_163 : decode cL_law 163 = .ok (.aload_n 2, 1) := by decide +kernel
theorem dL_law_164 : decode cL_law 164 = .ok (.aload_n 0, 1) := by decide +kernel
theorem dL_law_165 : decode cL_law 165 = .ok (.iload 4, 2) := by decide +kernel
theorem dL_law_167 : decode cL_law 167 = .ok (.iconst 1, 1) := by decide +kernel
theorem dL_law_168 : decode cL_law 168 = .ok (.iadd, 1) := by decide +kernel
theorem dL_law_169 : decode cL_law 169 = .ok (.iaload, 1) := by decide +kernel
theorem dL_law_170 : decode cL_law 170 = .ok (.aload_n 0, 1) := by decide +kernel
theorem dL_law_171 : decode cL_law 171 = .ok (.iload 4, 2) := by decide +kernel
theorem dL_law_173 : decode cL_law 173 = .ok (.iconst 2, 1) := by decide +kernel
theorem dL_law_174 : decode cL_law 174 = .ok (.iadd, 1) := by decide +kernel
theorem dL_law_175 : decode cL_law 175 = .ok (.iaload, 1) := by decide +kernel
theorem dL_law_176 : decode cL_law 176 = .ok (.invokevirtual 82, 3) := by decide +kernel
theorem dL_law_179 : decode cL_law 179 = .ok (.istore 6, 2) := by decide +kernel
theorem dL_law_181 : decode cL_law 181 = .ok (.aload_n 2, 1) := by decide +kernel
theorem dL_law_182 : decode cL_law 182 = .ok (.invokevirtual 83, 3) := by decide +kernel
theorem dL_law_185 : decode cL_law 185 = .ok (.iload 5, 2) := by decide +kernel
theorem dL_law_187 : decode cL_law 187 = .ok (.if_icmp .eq 5, 3) := by decide +kernel
theorem dL_law_190 : decode cL_law 190 = .ok (.iconst 0, 1) := by decide +kernel
theorem dL_law_191 : decode cL_law 191 = .ok (.ireturn, 1) := by decide +kernel
theorem dL_law_192 : decode cL_law 192 = .ok (.iload 5, 2) := by decide +kernel
theorem dL_law_194 : decode cL_law 194 = .ok (.ifCond .ne 15, 3) := by decide +kernel
theorem dL_law_197 : decode cL_law 197 = .ok (.aload_n 3, 1) := by decide +kernel
theorem dL_law_198 : decode cL_law 198 = .ok (.iconst 0, 1) := by decide +kernel
theorem dL_law_199 : decode cL_law 199 = .ok (.laload, 1) := by decide +kernel
theorem dL_law_200 : decode cL_law 200 = .ok (.iload 6, 2) := by decide +kernel
theorem dL_law_202 : decode cL_law 202 = .ok (.i2l, 1) := by decide +kernel
theorem dL_law_203 : decode cL_law 203 = .ok (.lcmp, 1) := by decide +kernel
theorem dL_law_204 : decode cL_law 204 = .ok (.ifCond .eq 5, 3) := by decide +kernel
theorem dL_law_207 : decode cL_law 207 = .ok (.iconst 0, 1) := by decide +kernel
theorem dL_law_208 : decode cL_law 208 = .ok (.ireturn, 1) := by decide +kernel
theorem dL_law_209 : decode cL_law 209 = .ok (.goto 1069, 3) := by decide +kernel
theorem dL_law_212 : decode cL_law 212 = .ok (.aload_n 1, 1) := by decide +kernel
theorem dL_law_213 : decode cL_law 213 = .ok (.aload_n 0, 1) := by decide +kernel
theorem dL_law_214 : decode cL_law 214 = .ok (.iload 4, 2) := by decide +kernel
theorem dL_law_216 : decode cL_law 216 = .ok (.iconst 1, 1) := by decide +kernel
theorem dL_law_217 : decode cL_law 217 = .ok (.iadd, 1) := by decide +kernel
theorem dL_law_218 : decode cL_law 218 = .ok (.iaload, 1) := by decide +kernel
theorem dL_law_219 : decode cL_law 219 = .ok (.aload_n 0, 1) := by decide +kernel
theorem dL_law_220 : decode cL_law 220 = .ok (.iload 4, 2) := by decide +kernel
theorem dL_law_222 : decode cL_law 222 = .ok (.iconst 2, 1) := by decide +kernel
theorem dL_law_223 : decode cL_law 223 = .ok (.iadd, 1) := by decide +kernel
theorem dL_law_224 : decode cL_law 224 = .ok (.iaload, 1) := by decide +kernel
theorem dL_law_225 : decode cL_law 225 = .ok (.aload_n 0, 1) := by decide +kernel
theorem dL_law_226 : decode cL_law 226 = .ok (.iload 4, 2) := by decide +kernel
theorem dL_law_228 : decode cL_law 228 = .ok (.iconst 3, 1) := by decide +kernel
theorem dL_law_229 : decode cL_law 229 = .ok (.iadd, 1) := by decide +kernel
theorem dL_law_230 : decode cL_law 230 = .ok (.iaload, 1) := by decide +kernel
theorem dL_law_231 : decode cL_law 231 = .ok (.aload_n 3, 1) := by decide +kernel
theorem dL_law_232 : decode cL_law 232 = .ok (.invokestatic 86, 3) := by decide +kernel
theorem dL_law_235 : decode cL_law 235 = .ok (.istore 5, 2) := by decide +kernel
theorem dL_law_237 : decode cL_law 237 = .ok (.aload_n 2, 1) := by decide +kernel
theorem dL_law_238 : decode cL_law 238 = .ok (.aload_n 0, 1) := by decide +kernel
theorem dL_law_239 : decode cL_law 239 = .ok (.iload 4, 2) := by decide +kernel
theorem dL_law_241 : decode cL_law 241 = .ok (.iconst 1, 1) := by decide +kernel
theorem dL_law_242 : decode cL_law 242 = .ok (.iadd, 1) := by decide +kernel
theorem dL_law_243 : decode cL_law 243 = .ok (.iaload, 1) := by decide +kernel
theorem dL_law_244 : decode cL_law 244 = .ok (.aload_n 0, 1) := by decide +kernel
theorem dL_law_245 : decode cL_law 245 = .ok (.iload 4, 2) := by decide +kernel
theorem dL_law_247 : decode cL_law 247 = .ok (.iconst 2, 1) := by decide +kernel
theorem dL_law_248 : decode cL_law 248 = .ok (.iadd, 1) := by decide +kernel
theorem dL_law_249 : decode cL_law 249 = .ok (.iaload, 1) := by decide +kernel
theorem dL_law_250 : decode cL_law 250 = .ok (.aload_n 0, 1) := by decide +kernel
theorem dL_law_251 : decode cL_law 251 = .ok (.iload 4, 2) := by decide +kernel
theorem dL_law_253 : decode cL_law 253 = .ok (.iconst 3, 1) := by decide +kernel
theorem dL_law_254 : decode cL_law 254 = .ok (.iadd, 1) := by decide +kernel
theorem dL_law_255 : decode cL_law 255 = .ok (.iaload, 1) := by decide +kernel
theorem dL_law_256 : decode cL_law 256 = .ok (.invokevirtual 89, 3) := by decide +kernel
theorem dL_law_259 : decode cL_law 259 = .ok (.istore 6, 2) := by decide +kernel
theorem dL_law_261 : decode cL_law 261 = .ok (.aload_n 2, 1) := by decide +kernel
theorem dL_law_262 : decode cL_law 262 = .ok (.invokevirtual 83, 3) := by decide +kernel
theorem dL_law_265 : decode cL_law 265 = .ok (.iload 5, 2) := by decide +kernel
theorem dL_law_267 : decode cL_law 267 = .ok (.if_icmp .eq 5, 3) := by decide +kernel
theorem dL_law_270 : decode cL_law 270 = .ok (.iconst 0, 1) := by decide +kernel
theorem dL_law_271 : decode cL_law 271 = .ok (.ireturn, 1) := by decide +kernel
theorem dL_law_272 : decode cL_law 272 = .ok (.iload 5, 2) := by decide +kernel
theorem dL_law_274 : decode cL_law 274 = .ok (.ifCond .ne 15, 3) := by decide +kernel
theorem dL_law_277 : decode cL_law 277 = .ok (.aload_n 3, 1) := by decide +kernel
theorem dL_law_278 : decode cL_law 278 = .ok (.iconst 0, 1) := by decide +kernel
theorem dL_law_279 : decode cL_law 279 = .ok (.laload, 1) := by decide +kernel
theorem dL_law_280 : decode cL_law 280 = .ok (.iload 6, 2) := by decide +kernel
theorem dL_law_282 : decode cL_law 282 = .ok (.i2l, 1) := by decide +kernel
theorem dL_law_283 : decode cL_law 283 = .ok (.lcmp, 1) := by decide +kernel
theorem dL_law_284 : decode cL_law 284 = .ok (.ifCond .eq 5, 3) := by decide +kernel
theorem dL_law_287 : decode cL_law 287 = .ok (.iconst 0, 1) := by decide +kernel
theorem dL_law_288 : decode cL_law 288 = .ok (.ireturn, 1) := by decide +kernel
theorem dL_law_289 : decode cL_law 289 = .ok (.goto 989, 3) := by decide +kernel
theorem dL_law_292 : decode cL_law 292 = .ok (.aload_n 1, 1) := by decide +kernel
theorem dL_law_293 : decode cL_law 293 = .ok (.aload_n 0, 1) := by decide +kernel
theorem dL_law_294 : decode cL_law 294 = .ok (.iload 4, 2) := by decide +kernel
theorem dL_law_296 : decode cL_law 296 = .ok (.iconst 1, 1) := by decide +kernel
theorem dL_law_297 : decode cL_law 297 = .ok (.iadd, 1) := by decide +kernel
theorem dL_law_298 : decode cL_law 298 = .ok (.iaload, 1) := by decide +kernel
theorem dL_law_299 : decode cL_law 299 = .ok (.aload_n 3, 1) := by decide +kernel
theorem dL_law_300 : decode cL_law 300 = .ok (.invokestatic 90, 3) := by decide +kernel
theorem dL_law_303 : decode cL_law 303 = .ok (.istore 5, 2) := by decide +kernel
theorem dL_law_305 : decode cL_law 305 = .ok (.aload_n 2, 1) := by decide +kernel
theorem dL_law_306 : decode cL_law 306 = .ok (.aload_n 0, 1) := by decide +kernel
theorem dL_law_307 : decode cL_law 307 = .ok (.iload 4, 2) := by decide +kernel
theorem dL_law_309 : decode cL_law 309 = .ok (.iconst 1, 1) := by decide +kernel
theorem dL_law_310 : decode cL_law 310 = .ok (.iadd, 1) := by decide +kernel
theorem dL_law_311 : decode cL_law 311 = .ok (.iaload, 1) := by decide +kernel
theorem dL_law_312 : decode cL_law 312 = .ok (.invokevirtual 93, 3) := by decide +kernel
theorem dL_law_315 : decode cL_law 315 = .ok (.istore 6, 2) := by decide +kernel
theorem dL_law_317 : decode cL_law 317 = .ok (.aload_n 2, 1) := by decide +kernel
theorem dL_law_318 : decode cL_law 318 = .ok (.invokevirtual 83, 3) := by decide +kernel
theorem dL_law_321 : decode cL_law 321 = .ok (.iload 5, 2) := by decide +kernel
theorem dL_law_323 : decode cL_law 323 = .ok (.if_icmp .eq 5, 3) := by decide +kernel
theorem dL_law_326 : decode cL_law 326 = .ok (.iconst 0, 1) := by decide +kernel
theorem dL_law_327 : decode cL_law 327 = .ok (.ireturn, 1) := by decide +kernel
theorem dL_law_328 : decode cL_law 328 = .ok (.iload 5, 2) := by decide +kernel
theorem dL_law_330 : decode cL_law 330 = .ok (.ifCond .ne 15, 3) := by decide +kernel
theorem dL_law_333 : decode cL_law 333 = .ok (.aload_n 3, 1) := by decide +kernel
theorem dL_law_334 : decode cL_law 334 = .ok (.iconst 0, 1) := by decide +kernel
theorem dL_law_335 : decode cL_law 335 = .ok (.laload, 1) := by decide +kernel
theorem dL_law_336 : decode cL_law 336 = .ok (.iload 6, 2) := by decide +kernel
theorem dL_law_338 : decode cL_law 338 = .ok (.i2l, 1) := by decide +kernel
theorem dL_law_339 : decode cL_law 339 = .ok (.lcmp, 1) := by decide +kernel
theorem dL_law_340 : decode cL_law 340 = .ok (.ifCond .eq 5, 3) := by decide +kernel
theorem dL_law_343 : decode cL_law 343 = .ok (.iconst 0, 1) := by decide +kernel
theorem dL_law_344 : decode cL_law 344 = .ok (.ireturn, 1) := by decide +kernel
theorem dL_law_345 : decode cL_law 345 = .ok (.goto 933, 3) := by decide +kernel
theorem dL_law_348 : decode cL_law 348 = .ok (.aload_n 1, 1) := by decide +kernel
theorem dL_law_349 : decode cL_law 349 = .ok (.aload_n 0, 1) := by decide +kernel
theorem dL_law_350 : decode cL_law 350 = .ok (.iload 4, 2) := by decide +kernel
theorem dL_law_352 : decode cL_law 352 = .ok (.iconst 1, 1) := by decide +kernel
theorem dL_law_353 : decode cL_law 353 = .ok (.iadd, 1) := by decide +kernel
theorem dL_law_354 : decode cL_law 354 = .ok (.iaload, 1) := by decide +kernel
theorem dL_law_355 : decode cL_law 355 = .ok (.aload_n 0, 1) := by decide +kernel
theorem dL_law_356 : decode cL_law 356 = .ok (.iload 4, 2) := by decide +kernel
theorem dL_law_358 : decode cL_law 358 = .ok (.iconst 2, 1) := by decide +kernel
theorem dL_law_359 : decode cL_law 359 = .ok (.iadd, 1) := by decide +kernel
theorem dL_law_360 : decode cL_law 360 = .ok (.iaload, 1) := by decide +kernel
theorem dL_law_361 : decode cL_law 361 = .ok (.aload_n 3, 1) := by decide +kernel
theorem dL_law_362 : decode cL_law 362 = .ok (.invokestatic 94, 3) := by decide +kernel
theorem dL_law_365 : decode cL_law 365 = .ok (.istore 5, 2) := by decide +kernel
theorem dL_law_367 : decode cL_law 367 = .ok (.aload_n 2, 1) := by decide +kernel
theorem dL_law_368 : decode cL_law 368 = .ok (.aload_n 0, 1) := by decide +kernel
theorem dL_law_369 : decode cL_law 369 = .ok (.iload 4, 2) := by decide +kernel
theorem dL_law_371 : decode cL_law 371 = .ok (.iconst 1, 1) := by decide +kernel
theorem dL_law_372 : decode cL_law 372 = .ok (.iadd, 1) := by decide +kernel
theorem dL_law_373 : decode cL_law 373 = .ok (.iaload, 1) := by decide +kernel
theorem dL_law_374 : decode cL_law 374 = .ok (.aload_n 0, 1) := by decide +kernel
theorem dL_law_375 : decode cL_law 375 = .ok (.iload 4, 2) := by decide +kernel
theorem dL_law_377 : decode cL_law 377 = .ok (.iconst 2, 1) := by decide +kernel
theorem dL_law_378 : decode cL_law 378 = .ok (.iadd, 1) := by decide +kernel
theorem dL_law_379 : decode cL_law 379 = .ok (.iaload, 1) := by decide +kernel
theorem dL_law_380 : decode cL_law 380 = .ok (.invokevirtual 96, 3) := by decide +kernel
theorem dL_law_383 : decode cL_law 383 = .ok (.istore 6, 2) := by decide +kernel
theorem dL_law_385 : decode cL_law 385 = .ok (.aload_n 2, 1) := by decide +kernel
theorem dL_law_386 : decode cL_law 386 = .ok (.invokevirtual 83, 3) := by decide +kernel
theorem dL_law_389 : decode cL_law 389 = .ok (.iload 5, 2) := by decide +kernel
theorem dL_law_391 : decode cL_law 391 = .ok (.if_icmp .eq 5, 3) := by decide +kernel
theorem dL_law_394 : decode cL_law 394 = .ok (.iconst 0, 1) := by decide +kernel
theorem dL_law_395 : decode cL_law 395 = .ok (.ireturn, 1) := by decide +kernel
theorem dL_law_396 : decode cL_law 396 = .ok (.iload 5, 2) := by decide +kernel
theorem dL_law_398 : decode cL_law 398 = .ok (.ifCond .ne 15, 3) := by decide +kernel
theorem dL_law_401 : decode cL_law 401 = .ok (.aload_n 3, 1) := by decide +kernel
theorem dL_law_402 : decode cL_law 402 = .ok (.iconst 0, 1) := by decide +kernel
theorem dL_law_403 : decode cL_law 403 = .ok (.laload, 1) := by decide +kernel
theorem dL_law_404 : decode cL_law 404 = .ok (.iload 6, 2) := by decide +kernel
theorem dL_law_406 : decode cL_law 406 = .ok (.i2l, 1) := by decide +kernel
theorem dL_law_407 : decode cL_law 407 = .ok (.lcmp, 1) := by decide +kernel
theorem dL_law_408 : decode cL_law 408 = .ok (.ifCond .eq 5, 3) := by decide +kernel
theorem dL_law_411 : decode cL_law 411 = .ok (.iconst 0, 1) := by decide +kernel
theorem dL_law_412 : decode cL_law 412 = .ok (.ireturn, 1) := by decide +kernel
theorem dL_law_413 : decode cL_law 413 = .ok (.goto 865, 3) := by decide +kernel
theorem dL_law_416 : decode cL_law 416 = .ok (.aload_n 1, 1) := by decide +kernel
theorem dL_law_417 : decode cL_law 417 = .ok (.aload_n 0, 1) := by decide +kernel
theorem dL_law_418 : decode cL_law 418 = .ok (.iload 4, 2) := by decide +kernel
theorem dL_law_420 : decode cL_law 420 = .ok (.iconst 1, 1) := by decide +kernel
theorem dL_law_421 : decode cL_law 421 = .ok (.iadd, 1) := by decide +kernel
theorem dL_law_422 : decode cL_law 422 = .ok (.iaload, 1) := by decide +kernel
theorem dL_law_423 : decode cL_law 423 = .ok (.aload_n 3, 1) := by decide +kernel
theorem dL_law_424 : decode cL_law 424 = .ok (.invokestatic 97, 3) := by decide +kernel
theorem dL_law_427 : decode cL_law 427 = .ok (.istore 5, 2) := by decide +kernel
theorem dL_law_429 : decode cL_law 429 = .ok (.aload_n 2, 1) := by decide +kernel
theorem dL_law_430 : decode cL_law 430 = .ok (.aload_n 0, 1) := by decide +kernel
theorem dL_law_431 : decode cL_law 431 = .ok (.iload 4, 2) := by decide +kernel
theorem dL_law_433 : decode cL_law 433 = .ok (.iconst 1, 1) := by decide +kernel
theorem dL_law_434 : decode cL_law 434 = .ok (.iadd, 1) := by decide +kernel
theorem dL_law_435 : decode cL_law 435 = .ok (.iaload, 1) := by decide +kernel
theorem dL_law_436 : decode cL_law 436 = .ok (.invokevirtual 99, 3) := by decide +kernel
theorem dL_law_439 : decode cL_law 439 = .ok (.istore 6, 2) := by decide +kernel
theorem dL_law_441 : decode cL_law 441 = .ok (.aload_n 2, 1) := by decide +kernel
theorem dL_law_442 : decode cL_law 442 = .ok (.invokevirtual 83, 3) := by decide +kernel
theorem dL_law_445 : decode cL_law 445 = .ok (.iload 5, 2) := by decide +kernel
theorem dL_law_447 : decode cL_law 447 = .ok (.if_icmp .eq 5, 3) := by decide +kernel
theorem dL_law_450 : decode cL_law 450 = .ok (.iconst 0, 1) := by decide +kernel
theorem dL_law_451 : decode cL_law 451 = .ok (.ireturn, 1) := by decide +kernel
theorem dL_law_452 : decode cL_law 452 = .ok (.iload 5, 2) := by decide +kernel
theorem dL_law_454 : decode cL_law 454 = .ok (.ifCond .ne 15, 3) := by decide +kernel
theorem dL_law_457 : decode cL_law 457 = .ok (.aload_n 3, 1) := by decide +kernel
theorem dL_law_458 : decode cL_law 458 = .ok (.iconst 0, 1) := by decide +kernel
theorem dL_law_459 : decode cL_law 459 = .ok (.laload, 1) := by decide +kernel
theorem dL_law_460 : decode cL_law 460 = .ok (.iload 6, 2) := by decide +kernel
theorem dL_law_462 : decode cL_law 462 = .ok (.i2l, 1) := by decide +kernel
theorem dL_law_463 : decode cL_law 463 = .ok (.lcmp, 1) := by decide +kernel
theorem dL_law_464 : decode cL_law 464 = .ok (.ifCond .eq 5, 3) := by decide +kernel
theorem dL_law_467 : decode cL_law 467 = .ok (.iconst 0, 1) := by decide +kernel
theorem dL_law_468 : decode cL_law 468 = .ok (.ireturn, 1) := by decide +kernel
theorem dL_law_469 : decode cL_law 469 = .ok (.goto 809, 3) := by decide +kernel
theorem dL_law_472 : decode cL_law 472 = .ok (.aload_n 1, 1) := by decide +kernel
theorem dL_law_473 : decode cL_law 473 = .ok (.aload_n 3, 1) := by decide +kernel
theorem dL_law_474 : decode cL_law 474 = .ok (.invokestatic 100, 3) := by decide +kernel
theorem dL_law_477 : decode cL_law 477 = .ok (.istore 5, 2) := by decide +kernel
theorem dL_law_479 : decode cL_law 479 = .ok (.aload_n 2, 1) := by decide +kernel
theorem dL_law_480 : decode cL_law 480 = .ok (.invokevirtual 103, 3) := by decide +kernel
theorem dL_law_483 : decode cL_law 483 = .ok (.istore 6, 2) := by decide +kernel
theorem dL_law_485 : decode cL_law 485 = .ok (.aload_n 2, 1) := by decide +kernel
theorem dL_law_486 : decode cL_law 486 = .ok (.invokevirtual 83, 3) := by decide +kernel
theorem dL_law_489 : decode cL_law 489 = .ok (.iload 5, 2) := by decide +kernel
theorem dL_law_491 : decode cL_law 491 = .ok (.if_icmp .eq 5, 3) := by decide +kernel
theorem dL_law_494 : decode cL_law 494 = .ok (.iconst 0, 1) := by decide +kernel
theorem dL_law_495 : decode cL_law 495 = .ok (.ireturn, 1) := by decide +kernel
theorem dL_law_496 : decode cL_law 496 = .ok (.iload 5, 2) := by decide +kernel
theorem dL_law_498 : decode cL_law 498 = .ok (.ifCond .ne 15, 3) := by decide +kernel
theorem dL_law_501 : decode cL_law 501 = .ok (.aload_n 3, 1) := by decide +kernel
theorem dL_law_502 : decode cL_law 502 = .ok (.iconst 0, 1) := by decide +kernel
theorem dL_law_503 : decode cL_law 503 = .ok (.laload, 1) := by decide +kernel
theorem dL_law_504 : decode cL_law 504 = .ok (.iload 6, 2) := by decide +kernel
theorem dL_law_506 : decode cL_law 506 = .ok (.i2l, 1) := by decide +kernel
theorem dL_law_507 : decode cL_law 507 = .ok (.lcmp, 1) := by decide +kernel
theorem dL_law_508 : decode cL_law 508 = .ok (.ifCond .eq 5, 3) := by decide +kernel
theorem dL_law_511 : decode cL_law 511 = .ok (.iconst 0, 1) := by decide +kernel
theorem dL_law_512 : decode cL_law 512 = .ok (.ireturn, 1) := by decide +kernel
theorem dL_law_513 : decode cL_law 513 = .ok (.goto 765, 3) := by decide +kernel
theorem dL_law_516 : decode cL_law 516 = .ok (.aload_n 1, 1) := by decide +kernel
theorem dL_law_517 : decode cL_law 517 = .ok (.aload_n 0, 1) := by decide +kernel
theorem dL_law_518 : decode cL_law 518 = .ok (.iload 4, 2) := by decide +kernel
theorem dL_law_520 : decode cL_law 520 = .ok (.iconst 1, 1) := by decide +kernel
theorem dL_law_521 : decode cL_law 521 = .ok (.iadd, 1) := by decide +kernel
theorem dL_law_522 : decode cL_law 522 = .ok (.iaload, 1) := by decide +kernel
theorem dL_law_523 : decode cL_law 523 = .ok (.aload_n 0, 1) := by decide +kernel
theorem dL_law_524 : decode cL_law 524 = .ok (.iload 4, 2) := by decide +kernel
theorem dL_law_526 : decode cL_law 526 = .ok (.iconst 2, 1) := by decide +kernel
theorem dL_law_527 : decode cL_law 527 = .ok (.iadd, 1) := by decide +kernel
theorem dL_law_528 : decode cL_law 528 = .ok (.iaload, 1) := by decide +kernel
theorem dL_law_529 : decode cL_law 529 = .ok (.aload_n 3, 1) := by decide +kernel
theorem dL_law_530 : decode cL_law 530 = .ok (.invokestatic 104, 3) := by decide +kernel
theorem dL_law_533 : decode cL_law 533 = .ok (.istore 5, 2) := by decide +kernel
theorem dL_law_535 : decode cL_law 535 = .ok (.aload_n 2, 1) := by decide +kernel
theorem dL_law_536 : decode cL_law 536 = .ok (.aload_n 0, 1) := by decide +kernel
theorem dL_law_537 : decode cL_law 537 = .ok (.iload 4, 2) := by decide +kernel
theorem dL_law_539 : decode cL_law 539 = .ok (.iconst 1, 1) := by decide +kernel
theorem dL_law_540 : decode cL_law 540 = .ok (.iadd, 1) := by decide +kernel
theorem dL_law_541 : decode cL_law 541 = .ok (.iaload, 1) := by decide +kernel
theorem dL_law_542 : decode cL_law 542 = .ok (.aload_n 0, 1) := by decide +kernel
theorem dL_law_543 : decode cL_law 543 = .ok (.iload 4, 2) := by decide +kernel
theorem dL_law_545 : decode cL_law 545 = .ok (.iconst 2, 1) := by decide +kernel
theorem dL_law_546 : decode cL_law 546 = .ok (.iadd, 1) := by decide +kernel
theorem dL_law_547 : decode cL_law 547 = .ok (.iaload, 1) := by decide +kernel
theorem dL_law_548 : decode cL_law 548 = .ok (.invokevirtual 106, 3) := by decide +kernel
theorem dL_law_551 : decode cL_law 551 = .ok (.istore 6, 2) := by decide +kernel
theorem dL_law_553 : decode cL_law 553 = .ok (.aload_n 2, 1) := by decide +kernel
theorem dL_law_554 : decode cL_law 554 = .ok (.invokevirtual 83, 3) := by decide +kernel
theorem dL_law_557 : decode cL_law 557 = .ok (.iload 5, 2) := by decide +kernel
theorem dL_law_559 : decode cL_law 559 = .ok (.if_icmp .eq 5, 3) := by decide +kernel
theorem dL_law_562 : decode cL_law 562 = .ok (.iconst 0, 1) := by decide +kernel
theorem dL_law_563 : decode cL_law 563 = .ok (.ireturn, 1) := by decide +kernel
theorem dL_law_564 : decode cL_law 564 = .ok (.iload 5, 2) := by decide +kernel
theorem dL_law_566 : decode cL_law 566 = .ok (.ifCond .ne 15, 3) := by decide +kernel
theorem dL_law_569 : decode cL_law 569 = .ok (.aload_n 3, 1) := by decide +kernel
theorem dL_law_570 : decode cL_law 570 = .ok (.iconst 0, 1) := by decide +kernel
theorem dL_law_571 : decode cL_law 571 = .ok (.laload, 1) := by decide +kernel
theorem dL_law_572 : decode cL_law 572 = .ok (.iload 6, 2) := by decide +kernel
theorem dL_law_574 : decode cL_law 574 = .ok (.i2l, 1) := by decide +kernel
theorem dL_law_575 : decode cL_law 575 = .ok (.lcmp, 1) := by decide +kernel
theorem dL_law_576 : decode cL_law 576 = .ok (.ifCond .eq 5, 3) := by decide +kernel
theorem dL_law_579 : decode cL_law 579 = .ok (.iconst 0, 1) := by decide +kernel
theorem dL_law_580 : decode cL_law 580 = .ok (.ireturn, 1) := by decide +kernel
theorem dL_law_581 : decode cL_law 581 = .ok (.goto 697, 3) := by decide +kernel
theorem dL_law_584 : decode cL_law 584 = .ok (.aload_n 1, 1) := by decide +kernel
theorem dL_law_585 : decode cL_law 585 = .ok (.aload_n 0, 1) := by decide +kernel
theorem dL_law_586 : decode cL_law 586 = .ok (.iload 4, 2) := by decide +kernel
theorem dL_law_588 : decode cL_law 588 = .ok (.iconst 1, 1) := by decide +kernel
theorem dL_law_589 : decode cL_law 589 = .ok (.iadd, 1) := by decide +kernel
theorem dL_law_590 : decode cL_law 590 = .ok (.iaload, 1) := by decide +kernel
theorem dL_law_591 : decode cL_law 591 = .ok (.aload_n 3, 1) := by decide +kernel
theorem dL_law_592 : decode cL_law 592 = .ok (.invokestatic 107, 3) := by decide +kernel
theorem dL_law_595 : decode cL_law 595 = .ok (.istore 5, 2) := by decide +kernel
theorem dL_law_597 : decode cL_law 597 = .ok (.aload_n 2, 1) := by decide +kernel
theorem dL_law_598 : decode cL_law 598 = .ok (.aload_n 0, 1) := by decide +kernel
theorem dL_law_599 : decode cL_law 599 = .ok (.iload 4, 2) := by decide +kernel
theorem dL_law_601 : decode cL_law 601 = .ok (.iconst 1, 1) := by decide +kernel
theorem dL_law_602 : decode cL_law 602 = .ok (.iadd, 1) := by decide +kernel
theorem dL_law_603 : decode cL_law 603 = .ok (.iaload, 1) := by decide +kernel
theorem dL_law_604 : decode cL_law 604 = .ok (.invokevirtual 109, 3) := by decide +kernel
theorem dL_law_607 : decode cL_law 607 = .ok (.istore 6, 2) := by decide +kernel
theorem dL_law_609 : decode cL_law 609 = .ok (.aload_n 2, 1) := by decide +kernel
theorem dL_law_610 : decode cL_law 610 = .ok (.invokevirtual 83, 3) := by decide +kernel
theorem dL_law_613 : decode cL_law 613 = .ok (.iload 5, 2) := by decide +kernel
theorem dL_law_615 : decode cL_law 615 = .ok (.if_icmp .eq 5, 3) := by decide +kernel
theorem dL_law_618 : decode cL_law 618 = .ok (.iconst 0, 1) := by decide +kernel
theorem dL_law_619 : decode cL_law 619 = .ok (.ireturn, 1) := by decide +kernel
theorem dL_law_620 : decode cL_law 620 = .ok (.iload 5, 2) := by decide +kernel
theorem dL_law_622 : decode cL_law 622 = .ok (.ifCond .ne 15, 3) := by decide +kernel
theorem dL_law_625 : decode cL_law 625 = .ok (.aload_n 3, 1) := by decide +kernel
theorem dL_law_626 : decode cL_law 626 = .ok (.iconst 0, 1) := by decide +kernel
theorem dL_law_627 : decode cL_law 627 = .ok (.laload, 1) := by decide +kernel
theorem dL_law_628 : decode cL_law 628 = .ok (.iload 6, 2) := by decide +kernel
theorem dL_law_630 : decode cL_law 630 = .ok (.i2l, 1) := by decide +kernel
theorem dL_law_631 : decode cL_law 631 = .ok (.lcmp, 1) := by decide +kernel
theorem dL_law_632 : decode cL_law 632 = .ok (.ifCond .eq 5, 3) := by decide +kernel
theorem dL_law_635 : decode cL_law 635 = .ok (.iconst 0, 1) := by decide +kernel
theorem dL_law_636 : decode cL_law 636 = .ok (.ireturn, 1) := by decide +kernel
theorem dL_law_637 : decode cL_law 637 = .ok (.goto 641, 3) := by decide +kernel
theorem dL_law_640 : decode cL_law 640 = .ok (.aload_n 1, 1) := by decide +kernel
theorem dL_law_641 : decode cL_law 641 = .ok (.aload_n 0, 1) := by decide +kernel
theorem dL_law_642 : decode cL_law 642 = .ok (.iload 4, 2) := by decide +kernel
theorem dL_law_644 : decode cL_law 644 = .ok (.iconst 1, 1) := by decide +kernel
theorem dL_law_645 : decode cL_law 645 = .ok (.iadd, 1) := by decide +kernel
theorem dL_law_646 : decode cL_law 646 = .ok (.iaload, 1) := by decide +kernel
theorem dL_law_647 : decode cL_law 647 = .ok (.aload_n 0, 1) := by decide +kernel
theorem dL_law_648 : decode cL_law 648 = .ok (.iload 4, 2) := by decide +kernel
theorem dL_law_650 : decode cL_law 650 = .ok (.iconst 2, 1) := by decide +kernel
theorem dL_law_651 : decode cL_law 651 = .ok (.iadd, 1) := by decide +kernel
theorem dL_law_652 : decode cL_law 652 = .ok (.iaload, 1) := by decide +kernel
theorem dL_law_653 : decode cL_law 653 = .ok (.aload_n 3, 1) := by decide +kernel
theorem dL_law_654 : decode cL_law 654 = .ok (.invokestatic 110, 3) := by decide +kernel
theorem dL_law_657 : decode cL_law 657 = .ok (.istore 5, 2) := by decide +kernel
theorem dL_law_659 : decode cL_law 659 = .ok (.aload_n 2, 1) := by decide +kernel
theorem dL_law_660 : decode cL_law 660 = .ok (.aload_n 0, 1) := by decide +kernel
theorem dL_law_661 : decode cL_law 661 = .ok (.iload 4, 2) := by decide +kernel
theorem dL_law_663 : decode cL_law 663 = .ok (.iconst 1, 1) := by decide +kernel
theorem dL_law_664 : decode cL_law 664 = .ok (.iadd, 1) := by decide +kernel
theorem dL_law_665 : decode cL_law 665 = .ok (.iaload, 1) := by decide +kernel
theorem dL_law_666 : decode cL_law 666 = .ok (.aload_n 0, 1) := by decide +kernel
theorem dL_law_667 : decode cL_law 667 = .ok (.iload 4, 2) := by decide +kernel
theorem dL_law_669 : decode cL_law 669 = .ok (.iconst 2, 1) := by decide +kernel
theorem dL_law_670 : decode cL_law 670 = .ok (.iadd, 1) := by decide +kernel
theorem dL_law_671 : decode cL_law 671 = .ok (.iaload, 1) := by decide +kernel
theorem dL_law_672 : decode cL_law 672 = .ok (.invokevirtual 112, 3) := by decide +kernel
theorem dL_law_675 : decode cL_law 675 = .ok (.istore 6, 2) := by decide +kernel
theorem dL_law_677 : decode cL_law 677 = .ok (.aload_n 2, 1) := by decide +kernel
theorem dL_law_678 : decode cL_law 678 = .ok (.invokevirtual 83, 3) := by decide +kernel
theorem dL_law_681 : decode cL_law 681 = .ok (.iload 5, 2) := by decide +kernel
theorem dL_law_683 : decode cL_law 683 = .ok (.if_icmp .eq 5, 3) := by decide +kernel
theorem dL_law_686 : decode cL_law 686 = .ok (.iconst 0, 1) := by decide +kernel
theorem dL_law_687 : decode cL_law 687 = .ok (.ireturn, 1) := by decide +kernel
theorem dL_law_688 : decode cL_law 688 = .ok (.iload 5, 2) := by decide +kernel
theorem dL_law_690 : decode cL_law 690 = .ok (.ifCond .ne 15, 3) := by decide +kernel
theorem dL_law_693 : decode cL_law 693 = .ok (.aload_n 3, 1) := by decide +kernel
theorem dL_law_694 : decode cL_law 694 = .ok (.iconst 0, 1) := by decide +kernel
theorem dL_law_695 : decode cL_law 695 = .ok (.laload, 1) := by decide +kernel
theorem dL_law_696 : decode cL_law 696 = .ok (.iload 6, 2) := by decide +kernel
theorem dL_law_698 : decode cL_law 698 = .ok (.i2l, 1) := by decide +kernel
theorem dL_law_699 : decode cL_law 699 = .ok (.lcmp, 1) := by decide +kernel
theorem dL_law_700 : decode cL_law 700 = .ok (.ifCond .eq 5, 3) := by decide +kernel
theorem dL_law_703 : decode cL_law 703 = .ok (.iconst 0, 1) := by decide +kernel
theorem dL_law_704 : decode cL_law 704 = .ok (.ireturn, 1) := by decide +kernel
theorem dL_law_705 : decode cL_law 705 = .ok (.goto 573, 3) := by decide +kernel
theorem dL_law_708 : decode cL_law 708 = .ok (.aload_n 1, 1) := by decide +kernel
theorem dL_law_709 : decode cL_law 709 = .ok (.aload_n 0, 1) := by decide +kernel
theorem dL_law_710 : decode cL_law 710 = .ok (.iload 4, 2) := by decide +kernel
theorem dL_law_712 : decode cL_law 712 = .ok (.iconst 1, 1) := by decide +kernel
theorem dL_law_713 : decode cL_law 713 = .ok (.iadd, 1) := by decide +kernel
theorem dL_law_714 : decode cL_law 714 = .ok (.iaload, 1) := by decide +kernel
theorem dL_law_715 : decode cL_law 715 = .ok (.aload_n 3, 1) := by decide +kernel
theorem dL_law_716 : decode cL_law 716 = .ok (.invokestatic 113, 3) := by decide +kernel
theorem dL_law_719 : decode cL_law 719 = .ok (.istore 5, 2) := by decide +kernel
theorem dL_law_721 : decode cL_law 721 = .ok (.aload_n 2, 1) := by decide +kernel
theorem dL_law_722 : decode cL_law 722 = .ok (.aload_n 0, 1) := by decide +kernel
theorem dL_law_723 : decode cL_law 723 = .ok (.iload 4, 2) := by decide +kernel
theorem dL_law_725 : decode cL_law 725 = .ok (.iconst 1, 1) := by decide +kernel
theorem dL_law_726 : decode cL_law 726 = .ok (.iadd, 1) := by decide +kernel
theorem dL_law_727 : decode cL_law 727 = .ok (.iaload, 1) := by decide +kernel
theorem dL_law_728 : decode cL_law 728 = .ok (.invokevirtual 115, 3) := by decide +kernel
theorem dL_law_731 : decode cL_law 731 = .ok (.istore 6, 2) := by decide +kernel
theorem dL_law_733 : decode cL_law 733 = .ok (.aload_n 2, 1) := by decide +kernel
theorem dL_law_734 : decode cL_law 734 = .ok (.invokevirtual 83, 3) := by decide +kernel
theorem dL_law_737 : decode cL_law 737 = .ok (.iload 5, 2) := by decide +kernel
theorem dL_law_739 : decode cL_law 739 = .ok (.if_icmp .eq 5, 3) := by decide +kernel
theorem dL_law_742 : decode cL_law 742 = .ok (.iconst 0, 1) := by decide +kernel
theorem dL_law_743 : decode cL_law 743 = .ok (.ireturn, 1) := by decide +kernel
theorem dL_law_744 : decode cL_law 744 = .ok (.iload 5, 2) := by decide +kernel
theorem dL_law_746 : decode cL_law 746 = .ok (.ifCond .ne 15, 3) := by decide +kernel
theorem dL_law_749 : decode cL_law 749 = .ok (.aload_n 3, 1) := by decide +kernel
theorem dL_law_750 : decode cL_law 750 = .ok (.iconst 0, 1) := by decide +kernel
theorem dL_law_751 : decode cL_law 751 = .ok (.laload, 1) := by decide +kernel
theorem dL_law_752 : decode cL_law 752 = .ok (.iload 6, 2) := by decide +kernel
theorem dL_law_754 : decode cL_law 754 = .ok (.i2l, 1) := by decide +kernel
theorem dL_law_755 : decode cL_law 755 = .ok (.lcmp, 1) := by decide +kernel
theorem dL_law_756 : decode cL_law 756 = .ok (.ifCond .eq 5, 3) := by decide +kernel
theorem dL_law_759 : decode cL_law 759 = .ok (.iconst 0, 1) := by decide +kernel
theorem dL_law_760 : decode cL_law 760 = .ok (.ireturn, 1) := by decide +kernel
theorem dL_law_761 : decode cL_law 761 = .ok (.goto 517, 3) := by decide +kernel
theorem dL_law_764 : decode cL_law 764 = .ok (.aload_n 1, 1) := by decide +kernel
theorem dL_law_765 : decode cL_law 765 = .ok (.aload_n 0, 1) := by decide +kernel
theorem dL_law_766 : decode cL_law 766 = .ok (.iload 4, 2) := by decide +kernel
theorem dL_law_768 : decode cL_law 768 = .ok (.iconst 1, 1) := by decide +kernel
theorem dL_law_769 : decode cL_law 769 = .ok (.iadd, 1) := by decide +kernel
theorem dL_law_770 : decode cL_law 770 = .ok (.iaload, 1) := by decide +kernel
theorem dL_law_771 : decode cL_law 771 = .ok (.aload_n 3, 1) := by decide +kernel
theorem dL_law_772 : decode cL_law 772 = .ok (.invokestatic 116, 3) := by decide +kernel
theorem dL_law_775 : decode cL_law 775 = .ok (.istore 5, 2) := by decide +kernel
theorem dL_law_777 : decode cL_law 777 = .ok (.aload_n 2, 1) := by decide +kernel
theorem dL_law_778 : decode cL_law 778 = .ok (.aload_n 0, 1) := by decide +kernel
theorem dL_law_779 : decode cL_law 779 = .ok (.iload 4, 2) := by decide +kernel
theorem dL_law_781 : decode cL_law 781 = .ok (.iconst 1, 1) := by decide +kernel
theorem dL_law_782 : decode cL_law 782 = .ok (.iadd, 1) := by decide +kernel
theorem dL_law_783 : decode cL_law 783 = .ok (.iaload, 1) := by decide +kernel
theorem dL_law_784 : decode cL_law 784 = .ok (.invokevirtual 118, 3) := by decide +kernel
theorem dL_law_787 : decode cL_law 787 = .ok (.istore 6, 2) := by decide +kernel
theorem dL_law_789 : decode cL_law 789 = .ok (.aload_n 2, 1) := by decide +kernel
theorem dL_law_790 : decode cL_law 790 = .ok (.invokevirtual 83, 3) := by decide +kernel
theorem dL_law_793 : decode cL_law 793 = .ok (.iload 5, 2) := by decide +kernel
theorem dL_law_795 : decode cL_law 795 = .ok (.if_icmp .eq 5, 3) := by decide +kernel
theorem dL_law_798 : decode cL_law 798 = .ok (.iconst 0, 1) := by decide +kernel
theorem dL_law_799 : decode cL_law 799 = .ok (.ireturn, 1) := by decide +kernel
theorem dL_law_800 : decode cL_law 800 = .ok (.iload 5, 2) := by decide +kernel
theorem dL_law_802 : decode cL_law 802 = .ok (.ifCond .ne 15, 3) := by decide +kernel
theorem dL_law_805 : decode cL_law 805 = .ok (.aload_n 3, 1) := by decide +kernel
theorem dL_law_806 : decode cL_law 806 = .ok (.iconst 0, 1) := by decide +kernel
theorem dL_law_807 : decode cL_law 807 = .ok (.laload, 1) := by decide +kernel
theorem dL_law_808 : decode cL_law 808 = .ok (.iload 6, 2) := by decide +kernel
theorem dL_law_810 : decode cL_law 810 = .ok (.i2l, 1) := by decide +kernel
theorem dL_law_811 : decode cL_law 811 = .ok (.lcmp, 1) := by decide +kernel
theorem dL_law_812 : decode cL_law 812 = .ok (.ifCond .eq 5, 3) := by decide +kernel
theorem dL_law_815 : decode cL_law 815 = .ok (.iconst 0, 1) := by decide +kernel
theorem dL_law_816 : decode cL_law 816 = .ok (.ireturn, 1) := by decide +kernel
theorem dL_law_817 : decode cL_law 817 = .ok (.goto 461, 3) := by decide +kernel
theorem dL_law_820 : decode cL_law 820 = .ok (.aload_n 1, 1) := by decide +kernel
theorem dL_law_821 : decode cL_law 821 = .ok (.aload_n 0, 1) := by decide +kernel
theorem dL_law_822 : decode cL_law 822 = .ok (.iload 4, 2) := by decide +kernel
theorem dL_law_824 : decode cL_law 824 = .ok (.iconst 1, 1) := by decide +kernel
theorem dL_law_825 : decode cL_law 825 = .ok (.iadd, 1) := by decide +kernel
theorem dL_law_826 : decode cL_law 826 = .ok (.iaload, 1) := by decide +kernel
theorem dL_law_827 : decode cL_law 827 = .ok (.aload_n 3, 1) := by decide +kernel
theorem dL_law_828 : decode cL_law 828 = .ok (.invokestatic 119, 3) := by decide +kernel
theorem dL_law_831 : decode cL_law 831 = .ok (.istore 5, 2) := by decide +kernel
theorem dL_law_833 : decode cL_law 833 = .ok (.aload_n 2, 1) := by decide +kernel
theorem dL_law_834 : decode cL_law 834 = .ok (.aload_n 0, 1) := by decide +kernel
theorem dL_law_835 : decode cL_law 835 = .ok (.iload 4, 2) := by decide +kernel
theorem dL_law_837 : decode cL_law 837 = .ok (.iconst 1, 1) := by decide +kernel
theorem dL_law_838 : decode cL_law 838 = .ok (.iadd, 1) := by decide +kernel
theorem dL_law_839 : decode cL_law 839 = .ok (.iaload, 1) := by decide +kernel
theorem dL_law_840 : decode cL_law 840 = .ok (.invokevirtual 121, 3) := by decide +kernel
theorem dL_law_843 : decode cL_law 843 = .ok (.istore 6, 2) := by decide +kernel
theorem dL_law_845 : decode cL_law 845 = .ok (.aload_n 2, 1) := by decide +kernel
theorem dL_law_846 : decode cL_law 846 = .ok (.invokevirtual 83, 3) := by decide +kernel
theorem dL_law_849 : decode cL_law 849 = .ok (.iload 5, 2) := by decide +kernel
theorem dL_law_851 : decode cL_law 851 = .ok (.if_icmp .eq 5, 3) := by decide +kernel
theorem dL_law_854 : decode cL_law 854 = .ok (.iconst 0, 1) := by decide +kernel
theorem dL_law_855 : decode cL_law 855 = .ok (.ireturn, 1) := by decide +kernel
theorem dL_law_856 : decode cL_law 856 = .ok (.iload 5, 2) := by decide +kernel
theorem dL_law_858 : decode cL_law 858 = .ok (.ifCond .ne 15, 3) := by decide +kernel
theorem dL_law_861 : decode cL_law 861 = .ok (.aload_n 3, 1) := by decide +kernel
theorem dL_law_862 : decode cL_law 862 = .ok (.iconst 0, 1) := by decide +kernel
theorem dL_law_863 : decode cL_law 863 = .ok (.laload, 1) := by decide +kernel
theorem dL_law_864 : decode cL_law 864 = .ok (.iload 6, 2) := by decide +kernel
theorem dL_law_866 : decode cL_law 866 = .ok (.i2l, 1) := by decide +kernel
theorem dL_law_867 : decode cL_law 867 = .ok (.lcmp, 1) := by decide +kernel
theorem dL_law_868 : decode cL_law 868 = .ok (.ifCond .eq 5, 3) := by decide +kernel
theorem dL_law_871 : decode cL_law 871 = .ok (.iconst 0, 1) := by decide +kernel
theorem dL_law_872 : decode cL_law 872 = .ok (.ireturn, 1) := by decide +kernel
theorem dL_law_873 : decode cL_law 873 = .ok (.goto 405, 3) := by decide +kernel
theorem dL_law_876 : decode cL_law 876 = .ok (.aload_n 1, 1) := by decide +kernel
theorem dL_law_877 : decode cL_law 877 = .ok (.aload_n 0, 1) := by decide +kernel
theorem dL_law_878 : decode cL_law 878 = .ok (.iload 4, 2) := by decide +kernel
theorem dL_law_880 : decode cL_law 880 = .ok (.iconst 1, 1) := by decide +kernel
theorem dL_law_881 : decode cL_law 881 = .ok (.iadd, 1) := by decide +kernel
theorem dL_law_882 : decode cL_law 882 = .ok (.iaload, 1) := by decide +kernel
theorem dL_law_883 : decode cL_law 883 = .ok (.aload_n 3, 1) := by decide +kernel
theorem dL_law_884 : decode cL_law 884 = .ok (.invokestatic 122, 3) := by decide +kernel
theorem dL_law_887 : decode cL_law 887 = .ok (.istore 5, 2) := by decide +kernel
theorem dL_law_889 : decode cL_law 889 = .ok (.aload_n 2, 1) := by decide +kernel
theorem dL_law_890 : decode cL_law 890 = .ok (.aload_n 0, 1) := by decide +kernel
theorem dL_law_891 : decode cL_law 891 = .ok (.iload 4, 2) := by decide +kernel
theorem dL_law_893 : decode cL_law 893 = .ok (.iconst 1, 1) := by decide +kernel
theorem dL_law_894 : decode cL_law 894 = .ok (.iadd, 1) := by decide +kernel
theorem dL_law_895 : decode cL_law 895 = .ok (.iaload, 1) := by decide +kernel
theorem dL_law_896 : decode cL_law 896 = .ok (.invokevirtual 124, 3) := by decide +kernel
theorem dL_law_899 : decode cL_law 899 = .ok (.istore 6, 2) := by decide +kernel
theorem dL_law_901 : decode cL_law 901 = .ok (.aload_n 2, 1) := by decide +kernel
theorem dL_law_902 : decode cL_law 902 = .ok (.invokevirtual 83, 3) := by decide +kernel
theorem dL_law_905 : decode cL_law 905 = .ok (.iload 5, 2) := by decide +kernel
theorem dL_law_907 : decode cL_law 907 = .ok (.if_icmp .eq 5, 3) := by decide +kernel
theorem dL_law_910 : decode cL_law 910 = .ok (.iconst 0, 1) := by decide +kernel
theorem dL_law_911 : decode cL_law 911 = .ok (.ireturn, 1) := by decide +kernel
theorem dL_law_912 : decode cL_law 912 = .ok (.iload 5, 2) := by decide +kernel
theorem dL_law_914 : decode cL_law 914 = .ok (.ifCond .ne 15, 3) := by decide +kernel
theorem dL_law_917 : decode cL_law 917 = .ok (.aload_n 3, 1) := by decide +kernel
theorem dL_law_918 : decode cL_law 918 = .ok (.iconst 0, 1) := by decide +kernel
theorem dL_law_919 : decode cL_law 919 = .ok (.laload, 1) := by decide +kernel
theorem dL_law_920 : decode cL_law 920 = .ok (.iload 6, 2) := by decide +kernel
theorem dL_law_922 : decode cL_law 922 = .ok (.i2l, 1) := by decide +kernel
theorem dL_law_923 : decode cL_law 923 = .ok (.lcmp, 1) := by decide +kernel
theorem dL_law_924 : decode cL_law 924 = .ok (.ifCond .eq 5, 3) := by decide +kernel
theorem dL_law_927 : decode cL_law 927 = .ok (.iconst 0, 1) := by decide +kernel
theorem dL_law_928 : decode cL_law 928 = .ok (.ireturn, 1) := by decide +kernel
theorem dL_law_929 : decode cL_law 929 = .ok (.goto 349, 3) := by decide +kernel
theorem dL_law_932 : decode cL_law 932 = .ok (.aload_n 1, 1) := by decide +kernel
theorem dL_law_933 : decode cL_law 933 = .ok (.aload_n 0, 1) := by decide +kernel
theorem dL_law_934 : decode cL_law 934 = .ok (.iload 4, 2) := by decide +kernel
theorem dL_law_936 : decode cL_law 936 = .ok (.iconst 1, 1) := by decide +kernel
theorem dL_law_937 : decode cL_law 937 = .ok (.iadd, 1) := by decide +kernel
theorem dL_law_938 : decode cL_law 938 = .ok (.iaload, 1) := by decide +kernel
theorem dL_law_939 : decode cL_law 939 = .ok (.aload_n 0, 1) := by decide +kernel
theorem dL_law_940 : decode cL_law 940 = .ok (.iload 4, 2) := by decide +kernel
theorem dL_law_942 : decode cL_law 942 = .ok (.iconst 2, 1) := by decide +kernel
theorem dL_law_943 : decode cL_law 943 = .ok (.iadd, 1) := by decide +kernel
theorem dL_law_944 : decode cL_law 944 = .ok (.iaload, 1) := by decide +kernel
theorem dL_law_945 : decode cL_law 945 = .ok (.aload_n 3, 1) := by decide +kernel
theorem dL_law_946 : decode cL_law 946 = .ok (.invokestatic 125, 3) := by decide +kernel
theorem dL_law_949 : decode cL_law 949 = .ok (.istore 5, 2) := by decide +kernel
theorem dL_law_951 : decode cL_law 951 = .ok (.aload_n 2, 1) := by decide +kernel
theorem dL_law_952 : decode cL_law 952 = .ok (.aload_n 0, 1) := by decide +kernel
theorem dL_law_953 : decode cL_law 953 = .ok (.iload 4, 2) := by decide +kernel
theorem dL_law_955 : decode cL_law 955 = .ok (.iconst 1, 1) := by decide +kernel
theorem dL_law_956 : decode cL_law 956 = .ok (.iadd, 1) := by decide +kernel
theorem dL_law_957 : decode cL_law 957 = .ok (.iaload, 1) := by decide +kernel
theorem dL_law_958 : decode cL_law 958 = .ok (.aload_n 0, 1) := by decide +kernel
theorem dL_law_959 : decode cL_law 959 = .ok (.iload 4, 2) := by decide +kernel
theorem dL_law_961 : decode cL_law 961 = .ok (.iconst 2, 1) := by decide +kernel
theorem dL_law_962 : decode cL_law 962 = .ok (.iadd, 1) := by decide +kernel
theorem dL_law_963 : decode cL_law 963 = .ok (.iaload, 1) := by decide +kernel
theorem dL_law_964 : decode cL_law 964 = .ok (.invokevirtual 127, 3) := by decide +kernel
theorem dL_law_967 : decode cL_law 967 = .ok (.istore 6, 2) := by decide +kernel
theorem dL_law_969 : decode cL_law 969 = .ok (.aload_n 2, 1) := by decide +kernel
theorem dL_law_970 : decode cL_law 970 = .ok (.invokevirtual 83, 3) := by decide +kernel
theorem dL_law_973 : decode cL_law 973 = .ok (.iload 5, 2) := by decide +kernel
theorem dL_law_975 : decode cL_law 975 = .ok (.if_icmp .eq 5, 3) := by decide +kernel
theorem dL_law_978 : decode cL_law 978 = .ok (.iconst 0, 1) := by decide +kernel
theorem dL_law_979 : decode cL_law 979 = .ok (.ireturn, 1) := by decide +kernel
theorem dL_law_980 : decode cL_law 980 = .ok (.iload 5, 2) := by decide +kernel
theorem dL_law_982 : decode cL_law 982 = .ok (.ifCond .ne 15, 3) := by decide +kernel
theorem dL_law_985 : decode cL_law 985 = .ok (.aload_n 3, 1) := by decide +kernel
theorem dL_law_986 : decode cL_law 986 = .ok (.iconst 0, 1) := by decide +kernel
theorem dL_law_987 : decode cL_law 987 = .ok (.laload, 1) := by decide +kernel
theorem dL_law_988 : decode cL_law 988 = .ok (.iload 6, 2) := by decide +kernel
theorem dL_law_990 : decode cL_law 990 = .ok (.i2l, 1) := by decide +kernel
theorem dL_law_991 : decode cL_law 991 = .ok (.lcmp, 1) := by decide +kernel
theorem dL_law_992 : decode cL_law 992 = .ok (.ifCond .eq 5, 3) := by decide +kernel
theorem dL_law_995 : decode cL_law 995 = .ok (.iconst 0, 1) := by decide +kernel
theorem dL_law_996 : decode cL_law 996 = .ok (.ireturn, 1) := by decide +kernel
theorem dL_law_997 : decode cL_law 997 = .ok (.goto 281, 3) := by decide +kernel
theorem dL_law_1000 : decode cL_law 1000 = .ok (.aload_n 1, 1) := by decide +kernel
theorem dL_law_1001 : decode cL_law 1001 = .ok (.invokevirtual 128, 3) := by decide +kernel
theorem dL_law_1004 : decode cL_law 1004 = .ok (.aload_n 2, 1) := by decide +kernel
theorem dL_law_1005 : decode cL_law 1005 = .ok (.invokevirtual 131, 3) := by decide +kernel
theorem dL_law_1008 : decode cL_law 1008 = .ok (.if_icmp .eq 270, 3) := by decide +kernel
theorem dL_law_1011 : decode cL_law 1011 = .ok (.iconst 0, 1) := by decide +kernel
theorem dL_law_1012 : decode cL_law 1012 = .ok (.ireturn, 1) := by decide +kernel
theorem dL_law_1013 : decode cL_law 1013 = .ok (.aload_n 1, 1) := by decide +kernel
theorem dL_law_1014 : decode cL_law 1014 = .ok (.aload_n 0, 1) := by decide +kernel
theorem dL_law_1015 : decode cL_law 1015 = .ok (.iload 4, 2) := by decide +kernel
theorem dL_law_1017 : decode cL_law 1017 = .ok (.iconst 1, 1) := by decide +kernel
theorem dL_law_1018 : decode cL_law 1018 = .ok (.iadd, 1) := by decide +kernel
theorem dL_law_1019 : decode cL_law 1019 = .ok (.iaload, 1) := by decide +kernel
theorem dL_law_1020 : decode cL_law 1020 = .ok (.aload_n 3, 1) := by decide +kernel
theorem dL_law_1021 : decode cL_law 1021 = .ok (.invokestatic 132, 3) := by decide +kernel
theorem dL_law_1024 : decode cL_law 1024 = .ok (.istore 5, 2) := by decide +kernel
theorem dL_law_1026 : decode cL_law 1026 = .ok (.aload_n 2, 1) := by decide +kernel
theorem dL_law_1027 : decode cL_law 1027 = .ok (.aload_n 0, 1) := by decide +kernel
theorem dL_law_1028 : decode cL_law 1028 = .ok (.iload 4, 2) := by decide +kernel
theorem dL_law_1030 : decode cL_law 1030 = .ok (.iconst 1, 1) := by decide +kernel
theorem dL_law_1031 : decode cL_law 1031 = .ok (.iadd, 1) := by decide +kernel
theorem dL_law_1032 : decode cL_law 1032 = .ok (.iaload, 1) := by decide +kernel
theorem dL_law_1033 : decode cL_law 1033 = .ok (.invokevirtual 134, 3) := by decide +kernel
theorem dL_law_1036 : decode cL_law 1036 = .ok (.istore 6, 2) := by decide +kernel
theorem dL_law_1038 : decode cL_law 1038 = .ok (.aload_n 2, 1) := by decide +kernel
theorem dL_law_1039 : decode cL_law 1039 = .ok (.invokevirtual 83, 3) := by decide +kernel
theorem dL_law_1042 : decode cL_law 1042 = .ok (.iload 5, 2) := by decide +kernel
theorem dL_law_1044 : decode cL_law 1044 = .ok (.if_icmp .eq 5, 3) := by decide +kernel
theorem dL_law_1047 : decode cL_law 1047 = .ok (.iconst 0, 1) := by decide +kernel
theorem dL_law_1048 : decode cL_law 1048 = .ok (.ireturn, 1) := by decide +kernel
theorem dL_law_1049 : decode cL_law 1049 = .ok (.iload 5, 2) := by decide +kernel
theorem dL_law_1051 : decode cL_law 1051 = .ok (.ifCond .ne 15, 3) := by decide +kernel
theorem dL_law_1054 : decode cL_law 1054 = .ok (.aload_n 3, 1) := by decide +kernel
theorem dL_law_1055 : decode cL_law 1055 = .ok (.iconst 0, 1) := by decide +kernel
theorem dL_law_1056 : decode cL_law 1056 = .ok (.laload, 1) := by decide +kernel
theorem dL_law_1057 : decode cL_law 1057 = .ok (.iload 6, 2) := by decide +kernel
theorem dL_law_1059 : decode cL_law 1059 = .ok (.i2l, 1) := by decide +kernel
theorem dL_law_1060 : decode cL_law 1060 = .ok (.lcmp, 1) := by decide +kernel
theorem dL_law_1061 : decode cL_law 1061 = .ok (.ifCond .eq 5, 3) := by decide +kernel
theorem dL_law_1064 : decode cL_law 1064 = .ok (.iconst 0, 1) := by decide +kernel
theorem dL_law_1065 : decode cL_law 1065 = .ok (.ireturn, 1) := by decide +kernel
theorem dL_law_1066 : decode cL_law 1066 = .ok (.goto 212, 3) := by decide +kernel
theorem dL_law_1069 : decode cL_law 1069 = .ok (.aload_n 1, 1) := by decide +kernel
theorem dL_law_1070 : decode cL_law 1070 = .ok (.invokevirtual 135, 3) := by decide +kernel
theorem dL_law_1073 : decode cL_law 1073 = .ok (.aload_n 2, 1) := by decide +kernel
theorem dL_law_1074 : decode cL_law 1074 = .ok (.invokevirtual 138, 3) := by decide +kernel
theorem dL_law_1077 : decode cL_law 1077 = .ok (.if_icmp .eq 201, 3) := by decide +kernel
theorem dL_law_1080 : decode cL_law 1080 = .ok (.iconst 0, 1) := by decide +kernel
theorem dL_law_1081 : decode cL_law 1081 = .ok (.ireturn, 1) := by decide +kernel
theorem dL_law_1082 : decode cL_law 1082 = .ok (.aload_n 1, 1) := by decide +kernel
theorem dL_law_1083 : decode cL_law 1083 = .ok (.aload_n 0, 1) := by decide +kernel
theorem dL_law_1084 : decode cL_law 1084 = .ok (.iload 4, 2) := by decide +kernel
theorem dL_law_1086 : decode cL_law 1086 = .ok (.iconst 1, 1) := by decide +kernel
theorem dL_law_1087 : decode cL_law 1087 = .ok (.iadd, 1) := by decide +kernel
theorem dL_law_1088 : decode cL_law 1088 = .ok (.iaload, 1) := by decide +kernel
theorem dL_law_1089 : decode cL_law 1089 = .ok (.aload_n 3, 1) := by decide +kernel
theorem dL_law_1090 : decode cL_law 1090 = .ok (.invokestatic 139, 3) := by decide +kernel
theorem dL_law_1093 : decode cL_law 1093 = .ok (.istore 5, 2) := by decide +kernel
theorem dL_law_1095 : decode cL_law 1095 = .ok (.aload_n 2, 1) := by decide +kernel
theorem dL_law_1096 : decode cL_law 1096 = .ok (.aload_n 0, 1) := by decide +kernel
theorem dL_law_1097 : decode cL_law 1097 = .ok (.iload 4, 2) := by decide +kernel
theorem dL_law_1099 : decode cL_law 1099 = .ok (.iconst 1, 1) := by decide +kernel
theorem dL_law_1100 : decode cL_law 1100 = .ok (.iadd, 1) := by decide +kernel
theorem dL_law_1101 : decode cL_law 1101 = .ok (.iaload, 1) := by decide +kernel
theorem dL_law_1102 : decode cL_law 1102 = .ok (.invokevirtual 141, 3) := by decide +kernel
theorem dL_law_1105 : decode cL_law 1105 = .ok (.istore 6, 2) := by decide +kernel
theorem dL_law_1107 : decode cL_law 1107 = .ok (.aload_n 2, 1) := by decide +kernel
theorem dL_law_1108 : decode cL_law 1108 = .ok (.invokevirtual 83, 3) := by decide +kernel
theorem dL_law_1111 : decode cL_law 1111 = .ok (.iload 5, 2) := by decide +kernel
theorem dL_law_1113 : decode cL_law 1113 = .ok (.if_icmp .eq 5, 3) := by decide +kernel
theorem dL_law_1116 : decode cL_law 1116 = .ok (.iconst 0, 1) := by decide +kernel
theorem dL_law_1117 : decode cL_law 1117 = .ok (.ireturn, 1) := by decide +kernel
theorem dL_law_1118 : decode cL_law 1118 = .ok (.iload 5, 2) := by decide +kernel
theorem dL_law_1120 : decode cL_law 1120 = .ok (.ifCond .ne 15, 3) := by decide +kernel
theorem dL_law_1123 : decode cL_law 1123 = .ok (.aload_n 3, 1) := by decide +kernel
theorem dL_law_1124 : decode cL_law 1124 = .ok (.iconst 0, 1) := by decide +kernel
theorem dL_law_1125 : decode cL_law 1125 = .ok (.laload, 1) := by decide +kernel
theorem dL_law_1126 : decode cL_law 1126 = .ok (.iload 6, 2) := by decide +kernel
theorem dL_law_1128 : decode cL_law 1128 = .ok (.i2l, 1) := by decide +kernel
theorem dL_law_1129 : decode cL_law 1129 = .ok (.lcmp, 1) := by decide +kernel
theorem dL_law_1130 : decode cL_law 1130 = .ok (.ifCond .eq 5, 3) := by decide +kernel
theorem dL_law_1133 : decode cL_law 1133 = .ok (.iconst 0, 1) := by decide +kernel
theorem dL_law_1134 : decode cL_law 1134 = .ok (.ireturn, 1) := by decide +kernel
theorem dL_law_1135 : decode cL_law 1135 = .ok (.goto 143, 3) := by decide +kernel
theorem dL_law_1138 : decode cL_law 1138 = .ok (.aload_n 1, 1) := by decide +kernel
theorem dL_law_1139 : decode cL_law 1139 = .ok (.aload_n 0, 1) := by decide +kernel
theorem dL_law_1140 : decode cL_law 1140 = .ok (.iload 4, 2) := by decide +kernel
theorem dL_law_1142 : decode cL_law 1142 = .ok (.iconst 1, 1) := by decide +kernel
theorem dL_law_1143 : decode cL_law 1143 = .ok (.iadd, 1) := by decide +kernel
theorem dL_law_1144 : decode cL_law 1144 = .ok (.iaload, 1) := by decide +kernel
theorem dL_law_1145 : decode cL_law 1145 = .ok (.aload_n 3, 1) := by decide +kernel
theorem dL_law_1146 : decode cL_law 1146 = .ok (.invokestatic 142, 3) := by decide +kernel
theorem dL_law_1149 : decode cL_law 1149 = .ok (.istore 5, 2) := by decide +kernel
theorem dL_law_1151 : decode cL_law 1151 = .ok (.aload_n 2, 1) := by decide +kernel
theorem dL_law_1152 : decode cL_law 1152 = .ok (.aload_n 0, 1) := by decide +kernel
theorem dL_law_1153 : decode cL_law 1153 = .ok (.iload 4, 2) := by decide +kernel
theorem dL_law_1155 : decode cL_law 1155 = .ok (.iconst 1, 1) := by decide +kernel
theorem dL_law_1156 : decode cL_law 1156 = .ok (.iadd, 1) := by decide +kernel
theorem dL_law_1157 : decode cL_law 1157 = .ok (.iaload, 1) := by decide +kernel
theorem dL_law_1158 : decode cL_law 1158 = .ok (.invokevirtual 144, 3) := by decide +kernel
theorem dL_law_1161 : decode cL_law 1161 = .ok (.istore 6, 2) := by decide +kernel
theorem dL_law_1163 : decode cL_law 1163 = .ok (.aload_n 2, 1) := by decide +kernel
theorem dL_law_1164 : decode cL_law 1164 = .ok (.invokevirtual 83, 3) := by decide +kernel
theorem dL_law_1167 : decode cL_law 1167 = .ok (.iload 5, 2) := by decide +kernel
theorem dL_law_1169 : decode cL_law 1169 = .ok (.if_icmp .eq 5, 3) := by decide +kernel
theorem dL_law_1172 : decode cL_law 1172 = .ok (.iconst 0, 1) := by decide +kernel
theorem dL_law_1173 : decode cL_law 1173 = .ok (.ireturn, 1) := by decide +kernel
theorem dL_law_1174 : decode cL_law 1174 = .ok (.iload 5, 2) := by decide +kernel
theorem dL_law_1176 : decode cL_law 1176 = .ok (.ifCond .ne 15, 3) := by decide +kernel
theorem dL_law_1179 : decode cL_law 1179 = .ok (.aload_n 3, 1) := by decide +kernel
theorem dL_law_1180 : decode cL_law 1180 = .ok (.iconst 0, 1) := by decide +kernel
theorem dL_law_1181 : decode cL_law 1181 = .ok (.laload, 1) := by decide +kernel
theorem dL_law_1182 : decode cL_law 1182 = .ok (.iload 6, 2) := by decide +kernel
theorem dL_law_1184 : decode cL_law 1184 = .ok (.i2l, 1) := by decide +kernel
theorem dL_law_1185 : decode cL_law 1185 = .ok (.lcmp, 1) := by decide +kernel
theorem dL_law_1186 : decode cL_law 1186 = .ok (.ifCond .eq 5, 3) := by decide +kernel
theorem dL_law_1189 : decode cL_law 1189 = .ok (.iconst 0, 1) := by decide +kernel
theorem dL_law_1190 : decode cL_law 1190 = .ok (.ireturn, 1) := by decide +kernel
theorem dL_law_1191 : decode cL_law 1191 = .ok (.goto 87, 3) := by decide +kernel
theorem dL_law_1194 : decode cL_law 1194 = .ok (.aload_n 1, 1) := by decide +kernel
theorem dL_law_1195 : decode cL_law 1195 = .ok (.invokevirtual 145, 3) := by decide +kernel
theorem dL_law_1198 : decode cL_law 1198 = .ok (.aload_n 2, 1) := by decide +kernel
theorem dL_law_1199 : decode cL_law 1199 = .ok (.invokevirtual 148, 3) := by decide +kernel
theorem dL_law_1202 : decode cL_law 1202 = .ok (.if_icmp .eq 76, 3) := by decide +kernel
theorem dL_law_1205 : decode cL_law 1205 = .ok (.iconst 0, 1) := by decide +kernel
theorem dL_law_1206 : decode cL_law 1206 = .ok (.ireturn, 1) := by decide +kernel
theorem dL_law_1207 : decode cL_law 1207 = .ok (.aload_n 1, 1) := by decide +kernel
theorem dL_law_1208 : decode cL_law 1208 = .ok (.invokevirtual 149, 3) := by decide +kernel
theorem dL_law_1211 : decode cL_law 1211 = .ok (.aload_n 2, 1) := by decide +kernel
theorem dL_law_1212 : decode cL_law 1212 = .ok (.invokevirtual 152, 3) := by decide +kernel
theorem dL_law_1215 : decode cL_law 1215 = .ok (.if_icmp .eq 63, 3) := by decide +kernel
theorem dL_law_1218 : decode cL_law 1218 = .ok (.iconst 0, 1) := by decide +kernel
theorem dL_law_1219 : decode cL_law 1219 = .ok (.ireturn, 1) := by decide +kernel
theorem dL_law_1220 : decode cL_law 1220 = .ok (.aload_n 1, 1) := by decide +kernel
theorem dL_law_1221 : decode cL_law 1221 = .ok (.aload_n 3, 1) := by decide +kernel
theorem dL_law_1222 : decode cL_law 1222 = .ok (.invokestatic 153, 3) := by decide +kernel
theorem dL_law_1225 : decode cL_law 1225 = .ok (.istore 5, 2) := by decide +kernel
theorem dL_law_1227 : decode cL_law 1227 = .ok (.aload_n 2, 1) := by decide +kernel
theorem dL_law_1228 : decode cL_law 1228 = .ok (.invokevirtual 155, 3) := by decide +kernel
theorem dL_law_1231 : decode cL_law 1231 = .ok (.istore 6, 2) := by decide +kernel
theorem dL_law_1233 : decode cL_law 1233 = .ok (.aload_n 2, 1) := by decide +kernel
theorem dL_law_1234 : decode cL_law 1234 = .ok (.invokevirtual 83, 3) := by decide +kernel
theorem dL_law_1237 : decode cL_law 1237 = .ok (.iload 5, 2) := by decide +kernel
theorem dL_law_1239 : decode cL_law 1239 = .ok (.if_icmp .eq 5, 3) := by decide +kernel
theorem dL_law_1242 : decode cL_law 1242 = .ok (.iconst 0, 1) := by decide +kernel
theorem dL_law_1243 : decode cL_law 1243 = .ok (.ireturn, 1) := by decide +kernel
theorem dL_law_1244 : decode cL_law 1244 = .ok (.iload 5, 2) := by decide +kernel
theorem dL_law_1246 : decode cL_law 1246 = .ok (.ifCond .ne 15, 3) := by decide +kernel
theorem dL_law_1249 : decode cL_law 1249 = .ok (.aload_n 3, 1) := by decide +kernel
theorem dL_law_1250 : decode cL_law 1250 = .ok (.iconst 0, 1) := by decide +kernel
theorem dL_law_1251 : decode cL_law 1251 = .ok (.laload, 1) := by decide +kernel
theorem dL_law_1252 : decode cL_law 1252 = .ok (.iload 6, 2) := by decide +kernel
theorem dL_law_1254 : decode cL_law 1254 = .ok (.i2l, 1) := by decide +kernel
theorem dL_law_1255 : decode cL_law 1255 = .ok (.lcmp, 1) := by decide +kernel
theorem dL_law_1256 : decode cL_law 1256 = .ok (.ifCond .eq 5, 3) := by decide +kernel
theorem dL_law_1259 : decode cL_law 1259 = .ok (.iconst 0, 1) := by decide +kernel
theorem dL_law_1260 : decode cL_law 1260 = .ok (.ireturn, 1) := by decide +kernel
theorem dL_law_1261 : decode cL_law 1261 = .ok (.goto 17, 3) := by decide +kernel
theorem dL_law_1264 : decode cL_law 1264 = .ok (.aload_n 1, 1) := by decide +kernel
theorem dL_law_1265 : decode cL_law 1265 = .ok (.invokevirtual 156, 3) := by decide +kernel
theorem dL_law_1268 : decode cL_law 1268 = .ok (.aload_n 2, 1) := by decide +kernel
theorem dL_law_1269 : decode cL_law 1269 = .ok (.invokevirtual 160, 3) := by decide +kernel
theorem dL_law_1272 : decode cL_law 1272 = .ok (.lcmp, 1) := by decide +kernel
theorem dL_law_1273 : decode cL_law 1273 = .ok (.ifCond .eq 5, 3) := by decide +kernel
theorem dL_law_1276 : decode cL_law 1276 = .ok (.iconst 0, 1) := by decide +kernel
theorem dL_law_1277 : decode cL_law 1277 = .ok (.ireturn, 1) := by decide +kernel
theorem dL_law_1278 : decode cL_law 1278 = .ok (.iinc 4 4, 3) := by decide +kernel
theorem dL_law_1281 : decode cL_law 1281 = .ok (.goto (-1258), 3) := by decide +kernel
theorem dL_law_1284 : decode cL_law 1284 = .ok (.iconst 1, 1) := by decide +kernel
theorem dL_law_1285 : decode cL_law 1285 = .ok (.ireturn, 1) := by decide +kernel
def tL_law : TrD := (yL_law, cL_law, 7, some .boolean, 13, 490)
theorem cc_L_law_L_plate : CallH tL_law tL_plate hhL_plate 4 := ⟨by decide +kernel, by decide +kernel, by decide +kernel, by decide, by decide, qw_69, qw_802⟩
theorem cc_L_law_L_request : CallH tL_law tL_request hhL_request 5 := ⟨by decide +kernel, by decide +kernel, by decide +kernel, by decide, by decide, qw_69, qw_810⟩
theorem cc_L_law_L_cancel : CallH tL_law tL_cancel hhL_cancel 3 := ⟨by decide +kernel, by decide +kernel, by decide +kernel, by decide, by decide, qw_69, qw_833⟩
theorem cc_L_law_L_set : CallH tL_law tL_set hhL_set 4 := ⟨by decide +kernel, by decide +kernel, by decide +kernel, by decide, by decide, qw_69, qw_856⟩
theorem cc_L_law_L_pass : CallH tL_law tL_pass hhL_pass 3 := ⟨by decide +kernel, by decide +kernel, by decide +kernel, by decide, by decide, qw_69, qw_863⟩
theorem cc_L_law_L_finish : CallH tL_law tL_finish hhL_finish 2 := ⟨by decide +kernel, by decide +kernel, by decide +kernel, by decide, by decide, qw_69, qw_870⟩
theorem cc_L_law_L_requestOf : CallH tL_law tL_requestOf hhL_requestOf 4 := ⟨by decide +kernel, by decide +kernel, by decide +kernel, by decide, by decide, qw_69, qw_877⟩
theorem cc_L_law_L_requestAt : CallH tL_law tL_requestAt hhL_requestAt 3 := ⟨by decide +kernel, by decide +kernel, by decide +kernel, by decide, by decide, qw_69, qw_884⟩
theorem cc_L_law_L_logged : CallH tL_law tL_logged hhL_logged 4 := ⟨by decide +kernel, by decide +kernel, by decide +kernel, by decide, by decide, qw_69, qw_891⟩
theorem cc_L_law_L_arm : CallH tL_law tL_arm hhL_arm 3 := ⟨by decide +kernel, by decide +kernel, by decide +kernel, by decide, by decide, qw_69, qw_898⟩
theorem cc_L_law_L_whole : CallH tL_law tL_whole hhL_whole 3 := ⟨by decide +kernel, by decide +kernel, by decide +kernel, by decide, by decide, qw_69, qw_902⟩
theorem cc_L_law_L_target : CallH tL_law tL_target hhL_target 3 := ⟨by decide +kernel, by decide +kernel, by decide +kernel, by decide, by decide, qw_69, qw_906⟩
theorem cc_L_law_L_readIn : CallH tL_law tL_readIn hhL_readIn 3 := ⟨by decide +kernel, by decide +kernel, by decide +kernel, by decide, by decide, qw_69, qw_910⟩
theorem cc_L_law_L_finishBy : CallH tL_law tL_finishBy hhL_finishBy 4 := ⟨by decide +kernel, by decide +kernel, by decide +kernel, by decide, by decide, qw_69, qw_922⟩
theorem cc_L_law_L_heatIn : CallH tL_law tL_heatIn hhL_heatIn 3 := ⟨by decide +kernel, by decide +kernel, by decide +kernel, by decide, by decide, qw_69, qw_929⟩
theorem cc_L_law_L_reason : CallH tL_law tL_reason hhL_reason 3 := ⟨by decide +kernel, by decide +kernel, by decide +kernel, by decide, by decide, qw_69, qw_933⟩
theorem cc_L_law_L_type : CallH tL_law tL_type hhL_type 3 := ⟨by decide +kernel, by decide +kernel, by decide +kernel, by decide, by decide, qw_69, qw_945⟩
theorem cc_L_law_L_undo : CallH tL_law tL_undo hhL_undo 2 := ⟨by decide +kernel, by decide +kernel, by decide +kernel, by decide, by decide, qw_69, qw_961⟩
theorem cc_L_law_X9_init : CallC tL_law tX9_init 0 := ⟨by decide +kernel, by decide +kernel, by decide +kernel, by decide, by decide, qw_70, qw_99⟩
theorem cc_L_law_X10_init : CallC tL_law tX10_init 0 := ⟨by decide +kernel, by decide +kernel, by decide +kernel, by decide, by decide, qw_80, qw_970⟩
theorem cc_L_law_X10_plate : CallC tL_law tX10_plate 2 := ⟨by decide +kernel, by decide +kernel, by decide +kernel, by decide, by decide, qw_80, qw_1022⟩
theorem cc_L_law_X10_thrown : CallC tL_law tX10_thrown 0 := ⟨by decide +kernel, by decide +kernel, by decide +kernel, by decide, by decide, qw_80, qw_1018⟩
theorem cc_L_law_X10_request : CallC tL_law tX10_request 3 := ⟨by decide +kernel, by decide +kernel, by decide +kernel, by decide, by decide, qw_80, qw_1037⟩
theorem cc_L_law_X10_cancel : CallC tL_law tX10_cancel 1 := ⟨by decide +kernel, by decide +kernel, by decide +kernel, by decide, by decide, qw_80, qw_1041⟩
theorem cc_L_law_X10_set : CallC tL_law tX10_set 2 := ⟨by decide +kernel, by decide +kernel, by decide +kernel, by decide, by decide, qw_80, qw_1057⟩
theorem cc_L_law_X10_pass : CallC tL_law tX10_pass 1 := ⟨by decide +kernel, by decide +kernel, by decide +kernel, by decide, by decide, qw_80, qw_1061⟩
theorem cc_L_law_X10_finish : CallC tL_law tX10_finish 0 := ⟨by decide +kernel, by decide +kernel, by decide +kernel, by decide, by decide, qw_80, qw_1116⟩
theorem cc_L_law_X10_requestOf : CallC tL_law tX10_requestOf 2 := ⟨by decide +kernel, by decide +kernel, by decide +kernel, by decide, by decide, qw_80, qw_1132⟩
theorem cc_L_law_X10_requestAt : CallC tL_law tX10_requestAt 1 := ⟨by decide +kernel, by decide +kernel, by decide +kernel, by decide, by decide, qw_80, qw_1140⟩
theorem cc_L_law_X10_logged : CallC tL_law tX10_logged 2 := ⟨by decide +kernel, by decide +kernel, by decide +kernel, by decide, by decide, qw_80, qw_1144⟩
theorem cc_L_law_X10_arm : CallC tL_law tX10_arm 1 := ⟨by decide +kernel, by decide +kernel, by decide +kernel, by decide, by decide, qw_80, qw_1152⟩
theorem cc_L_law_X10_whole : CallC tL_law tX10_whole 1 := ⟨by decide +kernel, by decide +kernel, by decide +kernel, by decide, by decide, qw_80, qw_1160⟩
theorem cc_L_law_X10_target : CallC tL_law tX10_target 1 := ⟨by decide +kernel, by decide +kernel, by decide +kernel, by decide, by decide, qw_80, qw_1168⟩
theorem cc_L_law_X10_readIn : CallC tL_law tX10_readIn 1 := ⟨by decide +kernel, by decide +kernel, by decide +kernel, by decide, by decide, qw_80, qw_1176⟩
theorem cc_L_law_X10_finishBy : CallC tL_law tX10_finishBy 2 := ⟨by decide +kernel, by decide +kernel, by decide +kernel, by decide, by decide, qw_80, qw_1180⟩
theorem cc_L_law_X9_bestWay : CallC tL_law tX9_bestWay 0 := ⟨by decide +kernel, by decide +kernel, by decide +kernel, by decide, by decide, qw_70, qw_344⟩
theorem cc_L_law_X10_bestWay : CallC tL_law tX10_bestWay 0 := ⟨by decide +kernel, by decide +kernel, by decide +kernel, by decide, by decide, qw_80, qw_1188⟩
theorem cc_L_law_X10_heatIn : CallC tL_law tX10_heatIn 1 := ⟨by decide +kernel, by decide +kernel, by decide +kernel, by decide, by decide, qw_80, qw_1196⟩
theorem cc_L_law_X9_widest : CallC tL_law tX9_widest 0 := ⟨by decide +kernel, by decide +kernel, by decide +kernel, by decide, by decide, qw_70, qw_457⟩
theorem cc_L_law_X10_widest : CallC tL_law tX10_widest 0 := ⟨by decide +kernel, by decide +kernel, by decide +kernel, by decide, by decide, qw_80, qw_1204⟩
theorem cc_L_law_X10_reason : CallC tL_law tX10_reason 1 := ⟨by decide +kernel, by decide +kernel, by decide +kernel, by decide, by decide, qw_80, qw_1212⟩
theorem cc_L_law_X10_type : CallC tL_law tX10_type 1 := ⟨by decide +kernel, by decide +kernel, by decide +kernel, by decide, by decide, qw_80, qw_1216⟩
theorem cc_L_law_X9_clearCommands : CallC tL_law tX9_clearCommands 0 := ⟨by decide +kernel, by decide +kernel, by decide +kernel, by decide, by decide, qw_70, qw_469⟩
theorem cc_L_law_X10_clearCommands : CallC tL_law tX10_clearCommands 0 := ⟨by decide +kernel, by decide +kernel, by decide +kernel, by decide, by decide, qw_80, qw_1220⟩
theorem cc_L_law_X9_runCommands : CallC tL_law tX9_runCommands 0 := ⟨by decide +kernel, by decide +kernel, by decide +kernel, by decide, by decide, qw_70, qw_473⟩
theorem cc_L_law_X10_runCommands : CallC tL_law tX10_runCommands 0 := ⟨by decide +kernel, by decide +kernel, by decide +kernel, by decide, by decide, qw_80, qw_1224⟩
theorem cc_L_law_X10_undo : CallC tL_law tX10_undo 0 := ⟨by decide +kernel, by decide +kernel, by decide +kernel, by decide, by decide, qw_80, qw_1265⟩
theorem cc_L_law_X9_digest : CallC tL_law tX9_digest 0 := ⟨by decide +kernel, by decide +kernel, by decide +kernel, by decide, by decide, qw_70, qw_683⟩
theorem cc_L_law_X10_digest : CallC tL_law tX10_digest 0 := ⟨by decide +kernel, by decide +kernel, by decide +kernel, by decide, by decide, qw_80, qw_1269⟩
def kL_law (Ls : Nat) (xs : Nat → Int32) : Nat → WOp := cN 675 (cN 380 (cN 241 (cN 170 (cN 36 (cN 19 (cN 8 (cN 3 (cN 0 (cL 0 (o_new 3 7 7 [.null, .null, .null, .int 0, .null, .null, .null])) (cL 3 (o_dup 4))) (cN 4 (cL 4 (o_callI 7 0 tX9_init 100 6000)) (cN 7 (cL 7 (o_astore 8 1)) (cL 8 (o_new 11 8 14 [.null, .null, .null, .int 0, .int 0, .null, .int 0, .int 0, .int 0, .int 0, .int 0, .int 0, .null, .long 0]))))) (cN 15 (cN 11 (cL 11 (o_dup 12)) (cN 12 (cL 12 (o_callI 15 0 tX10_init 10 2000)) (cL 15 (o_astore 16 2)))) (cN 16 (cL 16 (o_push 17 1)) (cN 17 (cL 17 (o_newa 19 2 1)) (cL 19 (o_astore 20 3)))))) (cN 27 (cN 23 (cN 20 (cL 20 (o_push 21 0)) (cN 21 (cL 21 (o_istore 23 4)) (cL 23 (o_iload 25 4)))) (cN 25 (cL 25 (o_aload 26 0)) (cN 26 (cL 26 (o_slen 27 Ls)) (cL 27 (o_push 28 4))))) (cN 32 (cN 28 (cL 28 (o_isub 29)) (cN 29 (cL 29 (o_icmp_gt 1284 32)) (cL 32 (o_aload 33 0)))) (cN 33 (cL 33 (o_iload 35 4)) (cN 35 (cL 35 (o_sald 36 Ls xs)) (cL 36 (o_push 38 31))))))) (cN 154 (cN 146 (cN 39 (cN 38 (cL 38 (o_iand 39)) (cL 39 (o_tsw 0 [144, 212, 292, 348, 416, 472, 516, 584, 640, 708, 764, 820, 876, 932, 1000, 1013, 1069, 1082, 1138, 1194, 1207, 1220, 1264] 1278))) (cN 144 (cL 144 (o_aload 145 1)) (cN 145 (cL 145 (o_aload 146 0)) (cL 146 (o_iload 148 4))))) (cN 150 (cN 148 (cL 148 (o_push 149 1)) (cN 149 (cL 149 (o_iadd 150)) (cL 150 (o_sald 151 Ls xs)))) (cN 151 (cL 151 (o_aload 152 0)) (cN 152 (cL 152 (o_iload 154 4)) (cL 154 (o_push 155 2)))))) (cN 163 (cN 157 (cN 155 (cL 155 (o_iadd 156)) (cN 156 (cL 156 (o_sald 157 Ls xs)) (cL 157 (o_aload 158 3)))) (cN 158 (cL 158 (o_callSW 161 4 tL_plate hhL_plate 1 6)) (cN 161 (cL 161 (o_istore 163 5)) (cL 163 (o_aload 164 2))))) (cN 167 (cN 164 (cL 164 (o_aload 165 0)) (cN 165 (cL 165 (o_iload 167 4)) (cL 167 (o_push 168 1)))) (cN 168 (cL 168 (o_iadd 169)) (cN 169 (cL 169 (o_sald 170 Ls xs)) (cL 170 (o_aload 171 0)))))))) (cN 208 (cN 190 (cN 176 (cN 173 (cN 171 (cL 171 (o_iload 173 4)) (cL 173 (o_push 174 2))) (cN 174 (cL 174 (o_iadd 175)) (cN 175 (cL 175 (o_sald 176 Ls xs)) (cL 176 (o_callV 179 8 2 tX10_plate 0 0))))) (cN 182 (cN 179 (cL 179 (o_istore 181 6)) (cN 181 (cL 181 (o_aload 182 2)) (cL 182 (o_callV 185 8 0 tX10_thrown 0 0)))) (cN 185 (cL 185 (o_iload 187 5)) (cN 187 (cL 187 (o_icmp_eq 192 190)) (cL 190 (o_push 191 0)))))) (cN 199 (cN 194 (cN 191 (cL 191 (o_zret)) (cN 192 (cL 192 (o_iload 194 5)) (cL 194 (o_if_ne 209 197)))) (cN 197 (cL 197 (o_aload 198 3)) (cN 198 (cL 198 (o_push 199 0)) (cL 199 (o_lald 200))))) (cN 203 (cN 200 (cL 200 (o_iload 202 6)) (cN 202 (cL 202 (o_i2l 203)) (cL 203 (o_lcmp 204)))) (cN 204 (cL 204 (o_if_eq 209 207)) (cN 207 (cL 207 (o_push 208 0)) (cL 208 (o_zret))))))) (cN 224 (cN 217 (cN 213 (cN 209 (cL 209 (o_goto 1278)) (cN 212 (cL 212 (o_aload 213 1)) (cL 213 (o_aload 214 0)))) (cN 214 (cL 214 (o_iload 216 4)) (cN 216 (cL 216 (o_push 217 1)) (cL 217 (o_iadd 218))))) (cN 220 (cN 218 (cL 218 (o_sald 219 Ls xs)) (cN 219 (cL 219 (o_aload 220 0)) (cL 220 (o_iload 222 4)))) (cN 222 (cL 222 (o_push 223 2)) (cN 223 (cL 223 (o_iadd 224)) (cL 224 (o_sald 225 Ls xs)))))) (cN 231 (cN 228 (cN 225 (cL 225 (o_aload 226 0)) (cN 226 (cL 226 (o_iload 228 4)) (cL 228 (o_push 229 3)))) (cN 229 (cL 229 (o_iadd 230)) (cN 230 (cL 230 (o_sald 231 Ls xs)) (cL 231 (o_aload 232 3))))) (cN 237 (cN 232 (cL 232 (o_callSW 235 5 tL_request hhL_request 1 6)) (cN 235 (cL 235 (o_istore 237 5)) (cL 237 (o_aload 238 2)))) (cN 238 (cL 238 (o_aload 239 0)) (cN 239 (cL 239 (o_iload 241 4)) (cL 241 (o_push 242 1))))))))) (cN 310 (cN 277 (cN 254 (cN 247 (cN 243 (cN 242 (cL 242 (o_iadd 243)) (cL 243 (o_sald 244 Ls xs))) (cN 244 (cL 244 (o_aload 245 0)) (cN 245 (cL 245 (o_iload 247 4)) (cL 247 (o_push 248 2))))) (cN 250 (cN 248 (cL 248 (o_iadd 249)) (cN 249 (cL 249 (o_sald 250 Ls xs)) (cL 250 (o_aload 251 0)))) (cN 251 (cL 251 (o_iload 253 4)) (cN 253 (cL 253 (o_push 254 3)) (cL 254 (o_iadd 255)))))) (cN 265 (cN 259 (cN 255 (cL 255 (o_sald 256 Ls xs)) (cN 256 (cL 256 (o_callV 259 8 3 tX10_request 0 0)) (cL 259 (o_istore 261 6)))) (cN 261 (cL 261 (o_aload 262 2)) (cN 262 (cL 262 (o_callV 265 8 0 tX10_thrown 0 0)) (cL 265 (o_iload 267 5))))) (cN 271 (cN 267 (cL 267 (o_icmp_eq 272 270)) (cN 270 (cL 270 (o_push 271 0)) (cL 271 (o_zret)))) (cN 272 (cL 272 (o_iload 274 5)) (cN 274 (cL 274 (o_if_ne 289 277)) (cL 277 (o_aload 278 3))))))) (cN 293 (cN 283 (cN 279 (cN 278 (cL 278 (o_push 279 0)) (cL 279 (o_lald 280))) (cN 280 (cL 280 (o_iload 282 6)) (cN 282 (cL 282 (o_i2l 283)) (cL 283 (o_lcmp 284))))) (cN 288 (cN 284 (cL 284 (o_if_eq 289 287)) (cN 287 (cL 287 (o_push 288 0)) (cL 288 (o_zret)))) (cN 289 (cL 289 (o_goto 1278)) (cN 292 (cL 292 (o_aload 293 1)) (cL 293 (o_aload 294 0)))))) (cN 300 (cN 297 (cN 294 (cL 294 (o_iload 296 4)) (cN 296 (cL 296 (o_push 297 1)) (cL 297 (o_iadd 298)))) (cN 298 (cL 298 (o_sald 299 Ls xs)) (cN 299 (cL 299 (o_aload 300 3)) (cL 300 (o_callSW 303 3 tL_cancel hhL_cancel 1 6))))) (cN 306 (cN 303 (cL 303 (o_istore 305 5)) (cN 305 (cL 305 (o_aload 306 2)) (cL 306 (o_aload 307 0)))) (cN 307 (cL 307 (o_iload 309 4)) (cN 309 (cL 309 (o_push 310 1)) (cL 310 (o_iadd 311)))))))) (cN 349 (cN 330 (cN 318 (cN 312 (cN 311 (cL 311 (o_sald 312 Ls xs)) (cL 312 (o_callV 315 8 1 tX10_cancel 0 0))) (cN 315 (cL 315 (o_istore 317 6)) (cN 317 (cL 317 (o_aload 318 2)) (cL 318 (o_callV 321 8 0 tX10_thrown 0 0))))) (cN 326 (cN 321 (cL 321 (o_iload 323 5)) (cN 323 (cL 323 (o_icmp_eq 328 326)) (cL 326 (o_push 327 0)))) (cN 327 (cL 327 (o_zret)) (cN 328 (cL 328 (o_iload 330 5)) (cL 330 (o_if_ne 345 333)))))) (cN 339 (cN 335 (cN 333 (cL 333 (o_aload 334 3)) (cN 334 (cL 334 (o_push 335 0)) (cL 335 (o_lald 336)))) (cN 336 (cL 336 (o_iload 338 6)) (cN 338 (cL 338 (o_i2l 339)) (cL 339 (o_lcmp 340))))) (cN 344 (cN 340 (cL 340 (o_if_eq 345 343)) (cN 343 (cL 343 (o_push 344 0)) (cL 344 (o_zret)))) (cN 345 (cL 345 (o_goto 1278)) (cN 348 (cL 348 (o_aload 349 1)) (cL 349 (o_aload 350 0))))))) (cN 365 (cN 356 (cN 353 (cN 350 (cL 350 (o_iload 352 4)) (cN 352 (cL 352 (o_push 353 1)) (cL 353 (o_iadd 354)))) (cN 354 (cL 354 (o_sald 355 Ls xs)) (cN 355 (cL 355 (o_aload 356 0)) (cL 356 (o_iload 358 4))))) (cN 360 (cN 358 (cL 358 (o_push 359 2)) (cN 359 (cL 359 (o_iadd 360)) (cL 360 (o_sald 361 Ls xs)))) (cN 361 (cL 361 (o_aload 362 3)) (cN 362 (cL 362 (o_callSW 365 4 tL_set hhL_set 1 6)) (cL 365 (o_istore 367 5)))))) (cN 373 (cN 369 (cN 367 (cL 367 (o_aload 368 2)) (cN 368 (cL 368 (o_aload 369 0)) (cL 369 (o_iload 371 4)))) (cN 371 (cL 371 (o_push 372 1)) (cN 372 (cL 372 (o_iadd 373)) (cL 373 (o_sald 374 Ls xs))))) (cN 377 (cN 374 (cL 374 (o_aload 375 0)) (cN 375 (cL 375 (o_iload 377 4)) (cL 377 (o_push 378 2)))) (cN 378 (cL 378 (o_iadd 379)) (cN 379 (cL 379 (o_sald 380 Ls xs)) (cL 380 (o_callV 383 8 2 tX10_set 0 0)))))))))) (cN 533 (cN 458 (cN 420 (cN 402 (cN 391 (cN 385 (cN 383 (cL 383 (o_istore 385 6)) (cL 385 (o_aload 386 2))) (cN 386 (cL 386 (o_callV 389 8 0 tX10_thrown 0 0)) (cN 389 (cL 389 (o_iload 391 5)) (cL 391 (o_icmp_eq 396 394))))) (cN 396 (cN 394 (cL 394 (o_push 395 0)) (cN 395 (cL 395 (o_zret)) (cL 396 (o_iload 398 5)))) (cN 398 (cL 398 (o_if_ne 413 401)) (cN 401 (cL 401 (o_aload 402 3)) (cL 402 (o_push 403 0)))))) (cN 411 (cN 406 (cN 403 (cL 403 (o_lald 404)) (cN 404 (cL 404 (o_iload 406 6)) (cL 406 (o_i2l 407)))) (cN 407 (cL 407 (o_lcmp 408)) (cN 408 (cL 408 (o_if_eq 413 411)) (cL 411 (o_push 412 0))))) (cN 416 (cN 412 (cL 412 (o_zret)) (cN 413 (cL 413 (o_goto 1278)) (cL 416 (o_aload 417 1)))) (cN 417 (cL 417 (o_aload 418 0)) (cN 418 (cL 418 (o_iload 420 4)) (cL 420 (o_push 421 1))))))) (cN 435 (cN 427 (cN 422 (cN 421 (cL 421 (o_iadd 422)) (cL 422 (o_sald 423 Ls xs))) (cN 423 (cL 423 (o_aload 424 3)) (cN 424 (cL 424 (o_callSW 427 3 tL_pass hhL_pass 1 6)) (cL 427 (o_istore 429 5))))) (cN 431 (cN 429 (cL 429 (o_aload 430 2)) (cN 430 (cL 430 (o_aload 431 0)) (cL 431 (o_iload 433 4)))) (cN 433 (cL 433 (o_push 434 1)) (cN 434 (cL 434 (o_iadd 435)) (cL 435 (o_sald 436 Ls xs)))))) (cN 447 (cN 441 (cN 436 (cL 436 (o_callV 439 8 1 tX10_pass 0 0)) (cN 439 (cL 439 (o_istore 441 6)) (cL 441 (o_aload 442 2)))) (cN 442 (cL 442 (o_callV 445 8 0 tX10_thrown 0 0)) (cN 445 (cL 445 (o_iload 447 5)) (cL 447 (o_icmp_eq 452 450))))) (cN 452 (cN 450 (cL 450 (o_push 451 0)) (cN 451 (cL 451 (o_zret)) (cL 452 (o_iload 454 5)))) (cN 454 (cL 454 (o_if_ne 469 457)) (cN 457 (cL 457 (o_aload 458 3)) (cL 458 (o_push 459 0)))))))) (cN 498 (cN 474 (cN 464 (cN 460 (cN 459 (cL 459 (o_lald 460)) (cL 460 (o_iload 462 6))) (cN 462 (cL 462 (o_i2l 463)) (cN 463 (cL 463 (o_lcmp 464)) (cL 464 (o_if_eq 469 467))))) (cN 469 (cN 467 (cL 467 (o_push 468 0)) (cN 468 (cL 468 (o_zret)) (cL 469 (o_goto 1278)))) (cN 472 (cL 472 (o_aload 473 1)) (cN 473 (cL 473 (o_aload 474 3)) (cL 474 (o_callSW 477 2 tL_finish hhL_finish 1 6)))))) (cN 486 (cN 480 (cN 477 (cL 477 (o_istore 479 5)) (cN 479 (cL 479 (o_aload 480 2)) (cL 480 (o_callV 483 8 0 tX10_finish 0 0)))) (cN 483 (cL 483 (o_istore 485 6)) (cN 485 (cL 485 (o_aload 486 2)) (cL 486 (o_callV 489 8 0 tX10_thrown 0 0))))) (cN 494 (cN 489 (cL 489 (o_iload 491 5)) (cN 491 (cL 491 (o_icmp_eq 496 494)) (cL 494 (o_push 495 0)))) (cN 495 (cL 495 (o_zret)) (cN 496 (cL 496 (o_iload 498 5)) (cL 498 (o_if_ne 513 501))))))) (cN 517 (cN 507 (cN 503 (cN 501 (cL 501 (o_aload 502 3)) (cN 502 (cL 502 (o_push 503 0)) (cL 503 (o_lald 504)))) (cN 504 (cL 504 (o_iload 506 6)) (cN 506 (cL 506 (o_i2l 507)) (cL 507 (o_lcmp 508))))) (cN 512 (cN 508 (cL 508 (o_if_eq 513 511)) (cN 511 (cL 511 (o_push 512 0)) (cL 512 (o_zret)))) (cN 513 (cL 513 (o_goto 1278)) (cN 516 (cL 516 (o_aload 517 1)) (cL 517 (o_aload 518 0)))))) (cN 524 (cN 521 (cN 518 (cL 518 (o_iload 520 4)) (cN 520 (cL 520 (o_push 521 1)) (cL 521 (o_iadd 522)))) (cN 522 (cL 522 (o_sald 523 Ls xs)) (cN 523 (cL 523 (o_aload 524 0)) (cL 524 (o_iload 526 4))))) (cN 528 (cN 526 (cL 526 (o_push 527 2)) (cN 527 (cL 527 (o_iadd 528)) (cL 528 (o_sald 529 Ls xs)))) (cN 529 (cL 529 (o_aload 530 3)) (cN 530 (cL 530 (o_callSW 533 4 tL_requestOf hhL_requestOf 1 6)) (cL 533 (o_istore 535 5))))))))) (cN 603 (cN 570 (cN 547 (cN 540 (cN 536 (cN 535 (cL 535 (o_aload 536 2)) (cL 536 (o_aload 537 0))) (cN 537 (cL 537 (o_iload 539 4)) (cN 539 (cL 539 (o_push 540 1)) (cL 540 (o_iadd 541))))) (cN 543 (cN 541 (cL 541 (o_sald 542 Ls xs)) (cN 542 (cL 542 (o_aload 543 0)) (cL 543 (o_iload 545 4)))) (cN 545 (cL 545 (o_push 546 2)) (cN 546 (cL 546 (o_iadd 547)) (cL 547 (o_sald 548 Ls xs)))))) (cN 559 (cN 553 (cN 548 (cL 548 (o_callV 551 8 2 tX10_requestOf 0 0)) (cN 551 (cL 551 (o_istore 553 6)) (cL 553 (o_aload 554 2)))) (cN 554 (cL 554 (o_callV 557 8 0 tX10_thrown 0 0)) (cN 557 (cL 557 (o_iload 559 5)) (cL 559 (o_icmp_eq 564 562))))) (cN 564 (cN 562 (cL 562 (o_push 563 0)) (cN 563 (cL 563 (o_zret)) (cL 564 (o_iload 566 5)))) (cN 566 (cL 566 (o_if_ne 581 569)) (cN 569 (cL 569 (o_aload 570 3)) (cL 570 (o_push 571 0))))))) (cN 586 (cN 576 (cN 572 (cN 571 (cL 571 (o_lald 572)) (cL 572 (o_iload 574 6))) (cN 574 (cL 574 (o_i2l 575)) (cN 575 (cL 575 (o_lcmp 576)) (cL 576 (o_if_eq 581 579))))) (cN 581 (cN 579 (cL 579 (o_push 580 0)) (cN 580 (cL 580 (o_zret)) (cL 581 (o_goto 1278)))) (cN 584 (cL 584 (o_aload 585 1)) (cN 585 (cL 585 (o_aload 586 0)) (cL 586 (o_iload 588 4)))))) (cN 595 (cN 590 (cN 588 (cL 588 (o_push 589 1)) (cN 589 (cL 589 (o_iadd 590)) (cL 590 (o_sald 591 Ls xs)))) (cN 591 (cL 591 (o_aload 592 3)) (cN 592 (cL 592 (o_callSW 595 3 tL_requestAt hhL_requestAt 1 6)) (cL 595 (o_istore 597 5))))) (cN 599 (cN 597 (cL 597 (o_aload 598 2)) (cN 598 (cL 598 (o_aload 599 0)) (cL 599 (o_iload 601 4)))) (cN 601 (cL 601 (o_push 602 1)) (cN 602 (cL 602 (o_iadd 603)) (cL 603 (o_sald 604 Ls xs)))))))) (cN 642 (cN 625 (cN 613 (cN 607 (cN 604 (cL 604 (o_callV 607 8 1 tX10_requestAt 0 0)) (cL 607 (o_istore 609 6))) (cN 609 (cL 609 (o_aload 610 2)) (cN 610 (cL 610 (o_callV 613 8 0 tX10_thrown 0 0)) (cL 613 (o_iload 615 5))))) (cN 619 (cN 615 (cL 615 (o_icmp_eq 620 618)) (cN 618 (cL 618 (o_push 619 0)) (cL 619 (o_zret)))) (cN 620 (cL 620 (o_iload 622 5)) (cN 622 (cL 622 (o_if_ne 637 625)) (cL 625 (o_aload 626 3)))))) (cN 632 (cN 628 (cN 626 (cL 626 (o_push 627 0)) (cN 627 (cL 627 (o_lald 628)) (cL 628 (o_iload 630 6)))) (cN 630 (cL 630 (o_i2l 631)) (cN 631 (cL 631 (o_lcmp 632)) (cL 632 (o_if_eq 637 635))))) (cN 637 (cN 635 (cL 635 (o_push 636 0)) (cN 636 (cL 636 (o_zret)) (cL 637 (o_goto 1278)))) (cN 640 (cL 640 (o_aload 641 1)) (cN 641 (cL 641 (o_aload 642 0)) (cL 642 (o_iload 644 4))))))) (cN 659 (cN 650 (cN 646 (cN 644 (cL 644 (o_push 645 1)) (cN 645 (cL 645 (o_iadd 646)) (cL 646 (o_sald 647 Ls xs)))) (cN 647 (cL 647 (o_aload 648 0)) (cN 648 (cL 648 (o_iload 650 4)) (cL 650 (o_push 651 2))))) (cN 653 (cN 651 (cL 651 (o_iadd 652)) (cN 652 (cL 652 (o_sald 653 Ls xs)) (cL 653 (o_aload 654 3)))) (cN 654 (cL 654 (o_callSW 657 4 tL_logged hhL_logged 1 6)) (cN 657 (cL 657 (o_istore 659 5)) (cL 659 (o_aload 660 2)))))) (cN 666 (cN 663 (cN 660 (cL 660 (o_aload 661 0)) (cN 661 (cL 661 (o_iload 663 4)) (cL 663 (o_push 664 1)))) (cN 664 (cL 664 (o_iadd 665)) (cN 665 (cL 665 (o_sald 666 Ls xs)) (cL 666 (o_aload 667 0))))) (cN 670 (cN 667 (cL 667 (o_iload 669 4)) (cN 669 (cL 669 (o_push 670 2)) (cL 670 (o_iadd 671)))) (cN 671 (cL 671 (o_sald 672 Ls xs)) (cN 672 (cL 672 (o_callV 675 8 2 tX10_logged 0 0)) (cL 675 (o_istore 677 6))))))))))) (cN 969 (cN 825 (cN 751 (cN 713 (cN 695 (cN 686 (cN 678 (cN 677 (cL 677 (o_aload 678 2)) (cL 678 (o_callV 681 8 0 tX10_thrown 0 0))) (cN 681 (cL 681 (o_iload 683 5)) (cN 683 (cL 683 (o_icmp_eq 688 686)) (cL 686 (o_push 687 0))))) (cN 690 (cN 687 (cL 687 (o_zret)) (cN 688 (cL 688 (o_iload 690 5)) (cL 690 (o_if_ne 705 693)))) (cN 693 (cL 693 (o_aload 694 3)) (cN 694 (cL 694 (o_push 695 0)) (cL 695 (o_lald 696)))))) (cN 704 (cN 699 (cN 696 (cL 696 (o_iload 698 6)) (cN 698 (cL 698 (o_i2l 699)) (cL 699 (o_lcmp 700)))) (cN 700 (cL 700 (o_if_eq 705 703)) (cN 703 (cL 703 (o_push 704 0)) (cL 704 (o_zret))))) (cN 709 (cN 705 (cL 705 (o_goto 1278)) (cN 708 (cL 708 (o_aload 709 1)) (cL 709 (o_aload 710 0)))) (cN 710 (cL 710 (o_iload 712 4)) (cN 712 (cL 712 (o_push 713 1)) (cL 713 (o_iadd 714))))))) (cN 728 (cN 721 (cN 715 (cN 714 (cL 714 (o_sald 715 Ls xs)) (cL 715 (o_aload 716 3))) (cN 716 (cL 716 (o_callSW 719 3 tL_arm hhL_arm 1 6)) (cN 719 (cL 719 (o_istore 721 5)) (cL 721 (o_aload 722 2))))) (cN 725 (cN 722 (cL 722 (o_aload 723 0)) (cN 723 (cL 723 (o_iload 725 4)) (cL 725 (o_push 726 1)))) (cN 726 (cL 726 (o_iadd 727)) (cN 727 (cL 727 (o_sald 728 Ls xs)) (cL 728 (o_callV 731 8 1 tX10_arm 0 0)))))) (cN 742 (cN 734 (cN 731 (cL 731 (o_istore 733 6)) (cN 733 (cL 733 (o_aload 734 2)) (cL 734 (o_callV 737 8 0 tX10_thrown 0 0)))) (cN 737 (cL 737 (o_iload 739 5)) (cN 739 (cL 739 (o_icmp_eq 744 742)) (cL 742 (o_push 743 0))))) (cN 746 (cN 743 (cL 743 (o_zret)) (cN 744 (cL 744 (o_iload 746 5)) (cL 746 (o_if_ne 761 749)))) (cN 749 (cL 749 (o_aload 750 3)) (cN 750 (cL 750 (o_push 751 0)) (cL 751 (o_lald 752)))))))) (cN 784 (cN 768 (cN 759 (cN 754 (cN 752 (cL 752 (o_iload 754 6)) (cL 754 (o_i2l 755))) (cN 755 (cL 755 (o_lcmp 756)) (cN 756 (cL 756 (o_if_eq 761 759)) (cL 759 (o_push 760 0))))) (cN 764 (cN 760 (cL 760 (o_zret)) (cN 761 (cL 761 (o_goto 1278)) (cL 764 (o_aload 765 1)))) (cN 765 (cL 765 (o_aload 766 0)) (cN 766 (cL 766 (o_iload 768 4)) (cL 768 (o_push 769 1)))))) (cN 777 (cN 771 (cN 769 (cL 769 (o_iadd 770)) (cN 770 (cL 770 (o_sald 771 Ls xs)) (cL 771 (o_aload 772 3)))) (cN 772 (cL 772 (o_callSW 775 3 tL_whole hhL_whole 1 6)) (cN 775 (cL 775 (o_istore 777 5)) (cL 777 (o_aload 778 2))))) (cN 781 (cN 778 (cL 778 (o_aload 779 0)) (cN 779 (cL 779 (o_iload 781 4)) (cL 781 (o_push 782 1)))) (cN 782 (cL 782 (o_iadd 783)) (cN 783 (cL 783 (o_sald 784 Ls xs)) (cL 784 (o_callV 787 8 1 tX10_whole 0 0))))))) (cN 807 (cN 798 (cN 790 (cN 787 (cL 787 (o_istore 789 6)) (cN 789 (cL 789 (o_aload 790 2)) (cL 790 (o_callV 793 8 0 tX10_thrown 0 0)))) (cN 793 (cL 793 (o_iload 795 5)) (cN 795 (cL 795 (o_icmp_eq 800 798)) (cL 798 (o_push 799 0))))) (cN 802 (cN 799 (cL 799 (o_zret)) (cN 800 (cL 800 (o_iload 802 5)) (cL 802 (o_if_ne 817 805)))) (cN 805 (cL 805 (o_aload 806 3)) (cN 806 (cL 806 (o_push 807 0)) (cL 807 (o_lald 808)))))) (cN 816 (cN 811 (cN 808 (cL 808 (o_iload 810 6)) (cN 810 (cL 810 (o_i2l 811)) (cL 811 (o_lcmp 812)))) (cN 812 (cL 812 (o_if_eq 817 815)) (cN 815 (cL 815 (o_push 816 0)) (cL 816 (o_zret))))) (cN 821 (cN 817 (cL 817 (o_goto 1278)) (cN 820 (cL 820 (o_aload 821 1)) (cL 821 (o_aload 822 0)))) (cN 822 (cL 822 (o_iload 824 4)) (cN 824 (cL 824 (o_push 825 1)) (cL 825 (o_iadd 826))))))))) (cN 896 (cN 863 (cN 840 (cN 833 (cN 827 (cN 826 (cL 826 (o_sald 827 Ls xs)) (cL 827 (o_aload 828 3))) (cN 828 (cL 828 (o_callSW 831 3 tL_target hhL_target 1 6)) (cN 831 (cL 831 (o_istore 833 5)) (cL 833 (o_aload 834 2))))) (cN 837 (cN 834 (cL 834 (o_aload 835 0)) (cN 835 (cL 835 (o_iload 837 4)) (cL 837 (o_push 838 1)))) (cN 838 (cL 838 (o_iadd 839)) (cN 839 (cL 839 (o_sald 840 Ls xs)) (cL 840 (o_callV 843 8 1 tX10_target 0 0)))))) (cN 854 (cN 846 (cN 843 (cL 843 (o_istore 845 6)) (cN 845 (cL 845 (o_aload 846 2)) (cL 846 (o_callV 849 8 0 tX10_thrown 0 0)))) (cN 849 (cL 849 (o_iload 851 5)) (cN 851 (cL 851 (o_icmp_eq 856 854)) (cL 854 (o_push 855 0))))) (cN 858 (cN 855 (cL 855 (o_zret)) (cN 856 (cL 856 (o_iload 858 5)) (cL 858 (o_if_ne 873 861)))) (cN 861 (cL 861 (o_aload 862 3)) (cN 862 (cL 862 (o_push 863 0)) (cL 863 (o_lald 864))))))) (cN 880 (cN 871 (cN 866 (cN 864 (cL 864 (o_iload 866 6)) (cL 866 (o_i2l 867))) (cN 867 (cL 867 (o_lcmp 868)) (cN 868 (cL 868 (o_if_eq 873 871)) (cL 871 (o_push 872 0))))) (cN 876 (cN 872 (cL 872 (o_zret)) (cN 873 (cL 873 (o_goto 1278)) (cL 876 (o_aload 877 1)))) (cN 877 (cL 877 (o_aload 878 0)) (cN 878 (cL 878 (o_iload 880 4)) (cL 880 (o_push 881 1)))))) (cN 889 (cN 883 (cN 881 (cL 881 (o_iadd 882)) (cN 882 (cL 882 (o_sald 883 Ls xs)) (cL 883 (o_aload 884 3)))) (cN 884 (cL 884 (o_callSW 887 3 tL_readIn hhL_readIn 1 6)) (cN 887 (cL 887 (o_istore 889 5)) (cL 889 (o_aload 890 2))))) (cN 893 (cN 890 (cL 890 (o_aload 891 0)) (cN 891 (cL 891 (o_iload 893 4)) (cL 893 (o_push 894 1)))) (cN 894 (cL 894 (o_iadd 895)) (cN 895 (cL 895 (o_sald 896 Ls xs)) (cL 896 (o_callV 899 8 1 tX10_readIn 0 0)))))))) (cN 936 (cN 918 (cN 907 (cN 901 (cN 899 (cL 899 (o_istore 901 6)) (cL 901 (o_aload 902 2))) (cN 902 (cL 902 (o_callV 905 8 0 tX10_thrown 0 0)) (cN 905 (cL 905 (o_iload 907 5)) (cL 907 (o_icmp_eq 912 910))))) (cN 912 (cN 910 (cL 910 (o_push 911 0)) (cN 911 (cL 911 (o_zret)) (cL 912 (o_iload 914 5)))) (cN 914 (cL 914 (o_if_ne 929 917)) (cN 917 (cL 917 (o_aload 918 3)) (cL 918 (o_push 919 0)))))) (cN 927 (cN 922 (cN 919 (cL 919 (o_lald 920)) (cN 920 (cL 920 (o_iload 922 6)) (cL 922 (o_i2l 923)))) (cN 923 (cL 923 (o_lcmp 924)) (cN 924 (cL 924 (o_if_eq 929 927)) (cL 927 (o_push 928 0))))) (cN 932 (cN 928 (cL 928 (o_zret)) (cN 929 (cL 929 (o_goto 1278)) (cL 932 (o_aload 933 1)))) (cN 933 (cL 933 (o_aload 934 0)) (cN 934 (cL 934 (o_iload 936 4)) (cL 936 (o_push 937 1))))))) (cN 952 (cN 943 (cN 939 (cN 937 (cL 937 (o_iadd 938)) (cN 938 (cL 938 (o_sald 939 Ls xs)) (cL 939 (o_aload 940 0)))) (cN 940 (cL 940 (o_iload 942 4)) (cN 942 (cL 942 (o_push 943 2)) (cL 943 (o_iadd 944))))) (cN 946 (cN 944 (cL 944 (o_sald 945 Ls xs)) (cN 945 (cL 945 (o_aload 946 3)) (cL 946 (o_callSW 949 4 tL_finishBy hhL_finishBy 1 6)))) (cN 949 (cL 949 (o_istore 951 5)) (cN 951 (cL 951 (o_aload 952 2)) (cL 952 (o_aload 953 0)))))) (cN 959 (cN 956 (cN 953 (cL 953 (o_iload 955 4)) (cN 955 (cL 955 (o_push 956 1)) (cL 956 (o_iadd 957)))) (cN 957 (cL 957 (o_sald 958 Ls xs)) (cN 958 (cL 958 (o_aload 959 0)) (cL 959 (o_iload 961 4))))) (cN 963 (cN 961 (cL 961 (o_push 962 2)) (cN 962 (cL 962 (o_iadd 963)) (cL 963 (o_sald 964 Ls xs)))) (cN 964 (cL 964 (o_callV 967 8 2 tX10_finishBy 0 0)) (cN 967 (cL 967 (o_istore 969 6)) (cL 969 (o_aload 970 2)))))))))) (cN 1124 (cN 1047 (cN 1011 (cN 988 (cN 979 (cN 973 (cN 970 (cL 970 (o_callV 973 8 0 tX10_thrown 0 0)) (cL 973 (o_iload 975 5))) (cN 975 (cL 975 (o_icmp_eq 980 978)) (cN 978 (cL 978 (o_push 979 0)) (cL 979 (o_zret))))) (cN 985 (cN 980 (cL 980 (o_iload 982 5)) (cN 982 (cL 982 (o_if_ne 997 985)) (cL 985 (o_aload 986 3)))) (cN 986 (cL 986 (o_push 987 0)) (cN 987 (cL 987 (o_lald 988)) (cL 988 (o_iload 990 6)))))) (cN 997 (cN 992 (cN 990 (cL 990 (o_i2l 991)) (cN 991 (cL 991 (o_lcmp 992)) (cL 992 (o_if_eq 997 995)))) (cN 995 (cL 995 (o_push 996 0)) (cN 996 (cL 996 (o_zret)) (cL 997 (o_goto 1278))))) (cN 1004 (cN 1000 (cL 1000 (o_aload 1001 1)) (cN 1001 (cL 1001 (o_callV 1004 7 0 tX9_bestWay 0 0)) (cL 1004 (o_aload 1005 2)))) (cN 1005 (cL 1005 (o_callV 1008 8 0 tX10_bestWay 0 0)) (cN 1008 (cL 1008 (o_icmp_eq 1278 1011)) (cL 1011 (o_push 1012 0))))))) (cN 1026 (cN 1017 (cN 1013 (cN 1012 (cL 1012 (o_zret)) (cL 1013 (o_aload 1014 1))) (cN 1014 (cL 1014 (o_aload 1015 0)) (cN 1015 (cL 1015 (o_iload 1017 4)) (cL 1017 (o_push 1018 1))))) (cN 1020 (cN 1018 (cL 1018 (o_iadd 1019)) (cN 1019 (cL 1019 (o_sald 1020 Ls xs)) (cL 1020 (o_aload 1021 3)))) (cN 1021 (cL 1021 (o_callSW 1024 3 tL_heatIn hhL_heatIn 1 6)) (cN 1024 (cL 1024 (o_istore 1026 5)) (cL 1026 (o_aload 1027 2)))))) (cN 1033 (cN 1030 (cN 1027 (cL 1027 (o_aload 1028 0)) (cN 1028 (cL 1028 (o_iload 1030 4)) (cL 1030 (o_push 1031 1)))) (cN 1031 (cL 1031 (o_iadd 1032)) (cN 1032 (cL 1032 (o_sald 1033 Ls xs)) (cL 1033 (o_callV 1036 8 1 tX10_heatIn 0 0))))) (cN 1039 (cN 1036 (cL 1036 (o_istore 1038 6)) (cN 1038 (cL 1038 (o_aload 1039 2)) (cL 1039 (o_callV 1042 8 0 tX10_thrown 0 0)))) (cN 1042 (cL 1042 (o_iload 1044 5)) (cN 1044 (cL 1044 (o_icmp_eq 1049 1047)) (cL 1047 (o_push 1048 0)))))))) (cN 1084 (cN 1064 (cN 1055 (cN 1049 (cN 1048 (cL 1048 (o_zret)) (cL 1049 (o_iload 1051 5))) (cN 1051 (cL 1051 (o_if_ne 1066 1054)) (cN 1054 (cL 1054 (o_aload 1055 3)) (cL 1055 (o_push 1056 0))))) (cN 1059 (cN 1056 (cL 1056 (o_lald 1057)) (cN 1057 (cL 1057 (o_iload 1059 6)) (cL 1059 (o_i2l 1060)))) (cN 1060 (cL 1060 (o_lcmp 1061)) (cN 1061 (cL 1061 (o_if_eq 1066 1064)) (cL 1064 (o_push 1065 0)))))) (cN 1074 (cN 1069 (cN 1065 (cL 1065 (o_zret)) (cN 1066 (cL 1066 (o_goto 1278)) (cL 1069 (o_aload 1070 1)))) (cN 1070 (cL 1070 (o_callV 1073 7 0 tX9_widest 0 0)) (cN 1073 (cL 1073 (o_aload 1074 2)) (cL 1074 (o_callV 1077 8 0 tX10_widest 0 0))))) (cN 1081 (cN 1077 (cL 1077 (o_icmp_eq 1278 1080)) (cN 1080 (cL 1080 (o_push 1081 0)) (cL 1081 (o_zret)))) (cN 1082 (cL 1082 (o_aload 1083 1)) (cN 1083 (cL 1083 (o_aload 1084 0)) (cL 1084 (o_iload 1086 4))))))) (cN 1101 (cN 1093 (cN 1088 (cN 1086 (cL 1086 (o_push 1087 1)) (cN 1087 (cL 1087 (o_iadd 1088)) (cL 1088 (o_sald 1089 Ls xs)))) (cN 1089 (cL 1089 (o_aload 1090 3)) (cN 1090 (cL 1090 (o_callSW 1093 3 tL_reason hhL_reason 1 6)) (cL 1093 (o_istore 1095 5))))) (cN 1097 (cN 1095 (cL 1095 (o_aload 1096 2)) (cN 1096 (cL 1096 (o_aload 1097 0)) (cL 1097 (o_iload 1099 4)))) (cN 1099 (cL 1099 (o_push 1100 1)) (cN 1100 (cL 1100 (o_iadd 1101)) (cL 1101 (o_sald 1102 Ls xs)))))) (cN 1113 (cN 1107 (cN 1102 (cL 1102 (o_callV 1105 8 1 tX10_reason 0 0)) (cN 1105 (cL 1105 (o_istore 1107 6)) (cL 1107 (o_aload 1108 2)))) (cN 1108 (cL 1108 (o_callV 1111 8 0 tX10_thrown 0 0)) (cN 1111 (cL 1111 (o_iload 1113 5)) (cL 1113 (o_icmp_eq 1118 1116))))) (cN 1118 (cN 1116 (cL 1116 (o_push 1117 0)) (cN 1117 (cL 1117 (o_zret)) (cL 1118 (o_iload 1120 5)))) (cN 1120 (cL 1120 (o_if_ne 1135 1123)) (cN 1123 (cL 1123 (o_aload 1124 3)) (cL 1124 (o_push 1125 0))))))))) (cN 1199 (cN 1157 (cN 1140 (cN 1130 (cN 1126 (cN 1125 (cL 1125 (o_lald 1126)) (cL 1126 (o_iload 1128 6))) (cN 1128 (cL 1128 (o_i2l 1129)) (cN 1129 (cL 1129 (o_lcmp 1130)) (cL 1130 (o_if_eq 1135 1133))))) (cN 1135 (cN 1133 (cL 1133 (o_push 1134 0)) (cN 1134 (cL 1134 (o_zret)) (cL 1135 (o_goto 1278)))) (cN 1138 (cL 1138 (o_aload 1139 1)) (cN 1139 (cL 1139 (o_aload 1140 0)) (cL 1140 (o_iload 1142 4)))))) (cN 1149 (cN 1144 (cN 1142 (cL 1142 (o_push 1143 1)) (cN 1143 (cL 1143 (o_iadd 1144)) (cL 1144 (o_sald 1145 Ls xs)))) (cN 1145 (cL 1145 (o_aload 1146 3)) (cN 1146 (cL 1146 (o_callSW 1149 3 tL_type hhL_type 1 6)) (cL 1149 (o_istore 1151 5))))) (cN 1153 (cN 1151 (cL 1151 (o_aload 1152 2)) (cN 1152 (cL 1152 (o_aload 1153 0)) (cL 1153 (o_iload 1155 4)))) (cN 1155 (cL 1155 (o_push 1156 1)) (cN 1156 (cL 1156 (o_iadd 1157)) (cL 1157 (o_sald 1158 Ls xs))))))) (cN 1180 (cN 1169 (cN 1163 (cN 1158 (cL 1158 (o_callV 1161 8 1 tX10_type 0 0)) (cN 1161 (cL 1161 (o_istore 1163 6)) (cL 1163 (o_aload 1164 2)))) (cN 1164 (cL 1164 (o_callV 1167 8 0 tX10_thrown 0 0)) (cN 1167 (cL 1167 (o_iload 1169 5)) (cL 1169 (o_icmp_eq 1174 1172))))) (cN 1174 (cN 1172 (cL 1172 (o_push 1173 0)) (cN 1173 (cL 1173 (o_zret)) (cL 1174 (o_iload 1176 5)))) (cN 1176 (cL 1176 (o_if_ne 1191 1179)) (cN 1179 (cL 1179 (o_aload 1180 3)) (cL 1180 (o_push 1181 0)))))) (cN 1189 (cN 1184 (cN 1181 (cL 1181 (o_lald 1182)) (cN 1182 (cL 1182 (o_iload 1184 6)) (cL 1184 (o_i2l 1185)))) (cN 1185 (cL 1185 (o_lcmp 1186)) (cN 1186 (cL 1186 (o_if_eq 1191 1189)) (cL 1189 (o_push 1190 0))))) (cN 1194 (cN 1190 (cL 1190 (o_zret)) (cN 1191 (cL 1191 (o_goto 1278)) (cL 1194 (o_aload 1195 1)))) (cN 1195 (cL 1195 (o_callV 1198 7 0 tX9_clearCommands 0 0)) (cN 1198 (cL 1198 (o_aload 1199 2)) (cL 1199 (o_callV 1202 8 0 tX10_clearCommands 0 0)))))))) (cN 1243 (cN 1220 (cN 1208 (cN 1205 (cN 1202 (cL 1202 (o_icmp_eq 1278 1205)) (cL 1205 (o_push 1206 0))) (cN 1206 (cL 1206 (o_zret)) (cN 1207 (cL 1207 (o_aload 1208 1)) (cL 1208 (o_callV 1211 7 0 tX9_runCommands 0 0))))) (cN 1215 (cN 1211 (cL 1211 (o_aload 1212 2)) (cN 1212 (cL 1212 (o_callV 1215 8 0 tX10_runCommands 0 0)) (cL 1215 (o_icmp_eq 1278 1218)))) (cN 1218 (cL 1218 (o_push 1219 0)) (cN 1219 (cL 1219 (o_zret)) (cL 1220 (o_aload 1221 1)))))) (cN 1231 (cN 1225 (cN 1221 (cL 1221 (o_aload 1222 3)) (cN 1222 (cL 1222 (o_callSW 1225 2 tL_undo hhL_undo 1 6)) (cL 1225 (o_istore 1227 5)))) (cN 1227 (cL 1227 (o_aload 1228 2)) (cN 1228 (cL 1228 (o_callV 1231 8 0 tX10_undo 0 0)) (cL 1231 (o_istore 1233 6))))) (cN 1237 (cN 1233 (cL 1233 (o_aload 1234 2)) (cN 1234 (cL 1234 (o_callV 1237 8 0 tX10_thrown 0 0)) (cL 1237 (o_iload 1239 5)))) (cN 1239 (cL 1239 (o_icmp_eq 1244 1242)) (cN 1242 (cL 1242 (o_push 1243 0)) (cL 1243 (o_zret))))))) (cN 1261 (cN 1252 (cN 1249 (cN 1244 (cL 1244 (o_iload 1246 5)) (cN 1246 (cL 1246 (o_if_ne 1261 1249)) (cL 1249 (o_aload 1250 3)))) (cN 1250 (cL 1250 (o_push 1251 0)) (cN 1251 (cL 1251 (o_lald 1252)) (cL 1252 (o_iload 1254 6))))) (cN 1256 (cN 1254 (cL 1254 (o_i2l 1255)) (cN 1255 (cL 1255 (o_lcmp 1256)) (cL 1256 (o_if_eq 1261 1259)))) (cN 1259 (cL 1259 (o_push 1260 0)) (cN 1260 (cL 1260 (o_zret)) (cL 1261 (o_goto 1278)))))) (cN 1273 (cN 1268 (cN 1264 (cL 1264 (o_aload 1265 1)) (cN 1265 (cL 1265 (o_callV 1268 7 0 tX9_digest 0 0)) (cL 1268 (o_aload 1269 2)))) (cN 1269 (cL 1269 (o_callV 1272 8 0 tX10_digest 0 0)) (cN 1272 (cL 1272 (o_lcmp 1273)) (cL 1273 (o_if_eq 1278 1276))))) (cN 1278 (cN 1276 (cL 1276 (o_push 1277 0)) (cN 1277 (cL 1277 (o_zret)) (cL 1278 (o_iinc 1281 4 4)))) (cN 1281 (cL 1281 (o_goto 23)) (cN 1284 (cL 1284 (o_push 1285 1)) (cL 1285 (o_zret)))))))))))
theorem sL_law (bb Ls : Nat) (xs : Nat → Int32) : ∀ pc, Snd tL_law (GL bb Ls xs) pc (kL_law Ls xs pc) := s_N (s_N (s_N (s_N (s_N (s_N (s_N (s_N (s_N (s_L (s_new ok_7 (fs := [.null, .null, .null, .int 0, .null, .null, .null]) (fun j hj => by rcases (show j = 0 ∨ j = 1 ∨ j = 2 ∨ j = 3 ∨ j = 4 ∨ j = 5 ∨ j = 6 by omega) with rfl | rfl | rfl | rfl | rfl | rfl | rfl <;> rfl) (by decide) qw_95 qw_96 qw_70 dL_law_0)) (s_L (s_o_dup dL_law_3))) (s_N (s_L (s_callI (d' := tX9_init) (mc := 100) (ms := 6000) cc_L_law_X9_init rfl rfl (Or.inl qw_97) qw_98 dL_law_4)) (s_N (s_L (s_astore_n dL_law_7 rfl (by decide))) (s_L (s_new ok_8 (fs := [.null, .null, .null, .int 0, .int 0, .null, .int 0, .int 0, .int 0, .int 0, .int 0, .int 0, .null, .long 0]) (fun j hj => by rcases (show j = 0 ∨ j = 1 ∨ j = 2 ∨ j = 3 ∨ j = 4 ∨ j = 5 ∨ j = 6 ∨ j = 7 ∨ j = 8 ∨ j = 9 ∨ j = 10 ∨ j = 11 ∨ j = 12 ∨ j = 13 by omega) with rfl | rfl | rfl | rfl | rfl | rfl | rfl | rfl | rfl | rfl | rfl | rfl | rfl | rfl <;> rfl) (by decide) qw_966 qw_967 qw_80 dL_law_8))))) (s_N (s_N (s_L (s_o_dup dL_law_11)) (s_N (s_L (s_callI (d' := tX10_init) (mc := 10) (ms := 2000) cc_L_law_X10_init rfl rfl (Or.inl qw_968) qw_969 dL_law_12)) (s_L (s_astore_n dL_law_15 rfl (by decide))))) (s_N (s_L (s_iconst dL_law_16 (by decide +kernel))) (s_N (s_L (s_newa (t := 2) (N := 1) (ty := .long) rfl (by decide) (by decide) qw_1276 dL_law_17)) (s_L (s_astore_n dL_law_19 rfl (by decide))))))) (s_N (s_N (s_N (s_L (s_iconst dL_law_20 (by decide +kernel))) (s_N (s_L (s_istore dL_law_21 (by decide))) (s_L (s_iload dL_law_23)))) (s_N (s_L (s_aload_n dL_law_25 rfl)) (s_N (s_L (s_slen dL_law_26)) (s_L (s_iconst dL_law_27 (by decide +kernel)))))) (s_N (s_N (s_L (s_o_isub dL_law_28)) (s_N (s_L (s_o_icmp_gt dL_law_29 (by decide))) (s_L (s_aload_n dL_law_32 rfl)))) (s_N (s_L (s_iload dL_law_33)) (s_N (s_L (s_sald dL_law_35)) (s_L (s_bipush dL_law_36 (by decide +kernel)))))))) (s_N (s_N (s_N (s_N (s_L (s_o_iand dL_law_38)) (s_L (s_tsw dL_law_39 (by decide +kernel) (by decide) (by decide) (by decide) (by intro k t h; match k, h with | 0, h => exact ⟨105, rfl, by cases h; decide⟩ | 1, h => exact ⟨173, rfl, by cases h; decide⟩ | 2, h => exact ⟨253, rfl, by cases h; decide⟩ | 3, h => exact ⟨309, rfl, by cases h; decide⟩ | 4, h => exact ⟨377, rfl, by cases h; decide⟩ | 5, h => exact ⟨433, rfl, by cases h; decide⟩ | 6, h => exact ⟨477, rfl, by cases h; decide⟩ | 7, h => exact ⟨545, rfl, by cases h; decide⟩ | 8, h => exact ⟨601, rfl, by cases h; decide⟩ | 9, h => exact ⟨669, rfl, by cases h; decide⟩ | 10, h => exact ⟨725, rfl, by cases h; decide⟩ | 11, h => exact ⟨781, rfl, by cases h; decide⟩ | 12, h => exact ⟨837, rfl, by cases h; decide⟩ | 13, h => exact ⟨893, rfl, by cases h; decide⟩ | 14, h => exact ⟨961, rfl, by cases h; decide⟩ | 15, h => exact ⟨974, rfl, by cases h; decide⟩ | 16, h => exact ⟨1030, rfl, by cases h; decide⟩ | 17, h => exact ⟨1043, rfl, by cases h; decide⟩ | 18, h => exact ⟨1099, rfl, by cases h; decide⟩ | 19, h => exact ⟨1155, rfl, by cases h; decide⟩ | 20, h => exact ⟨1168, rfl, by cases h; decide⟩ | 21, h => exact ⟨1181, rfl, by cases h; decide⟩ | 22, h => exact ⟨1225, rfl, by cases h; decide⟩ | k + 23, h => simp at h) (by decide)))) (s_N (s_L (s_aload_n dL_law_144 rfl)) (s_N (s_L (s_aload_n dL_law_145 rfl)) (s_L (s_iload dL_law_146))))) (s_N (s_N (s_L (s_iconst dL_law_148 (by decide +kernel))) (s_N (s_L (s_o_iadd dL_law_149)) (s_L (s_sald dL_law_150)))) (s_N (s_L (s_aload_n dL_law_151 rfl)) (s_N (s_L (s_iload dL_law_152)) (s_L (s_iconst dL_law_154 (by decide +kernel))))))) (s_N (s_N (s_N (s_L (s_o_iadd dL_law_155)) (s_N (s_L (s_sald dL_law_156)) (s_L (s_aload_n dL_law_157 rfl)))) (s_N (s_L (s_callSW (mc := 1) (ms := 6) cc_L_law_L_plate qw_800 qw_801 dL_law_158)) (s_N (s_L (s_istore dL_law_161 (by decide))) (s_L (s_aload_n dL_law_163 rfl))))) (s_N (s_N (s_L (s_aload_n dL_law_164 rfl)) (s_N (s_L (s_iload dL_law_165)) (s_L (s_iconst dL_law_167 (by decide +kernel))))) (s_N (s_L (s_o_iadd dL_law_168)) (s_N (s_L (s_sald dL_law_169)) (s_L (s_aload_n dL_law_170 rfl)))))))) (s_N (s_N (s_N (s_N (s_N (s_L (s_iload dL_law_171)) (s_L (s_iconst dL_law_173 (by decide +kernel)))) (s_N (s_L (s_o_iadd dL_law_174)) (s_N (s_L (s_sald dL_law_175)) (s_L (s_callV (d' := tX10_plate) (mc := 0) (ms := 0) ok_8 cc_L_law_X10_plate qw_1019 qw_1020 qw_1021 dL_law_176))))) (s_N (s_N (s_L (s_istore dL_law_179 (by decide))) (s_N (s_L (s_aload_n dL_law_181 rfl)) (s_L (s_callV (d' := tX10_thrown) (mc := 0) (ms := 0) ok_8 cc_L_law_X10_thrown qw_1015 qw_1016 qw_1017 dL_law_182)))) (s_N (s_L (s_iload dL_law_185)) (s_N (s_L (s_o_icmp_eq dL_law_187 (by decide))) (s_L (s_iconst dL_law_190 (by decide +kernel))))))) (s_N (s_N (s_N (s_L (s_zret rfl dL_law_191)) (s_N (s_L (s_iload dL_law_192)) (s_L (s_o_if_ne dL_law_194 (by decide))))) (s_N (s_L (s_aload_n dL_law_197 rfl)) (s_N (s_L (s_iconst dL_law_198 (by decide +kernel))) (s_L (s_lald dL_law_199))))) (s_N (s_N (s_L (s_iload dL_law_200)) (s_N (s_L (s_o_i2l dL_law_202)) (s_L (s_o_lcmp dL_law_203)))) (s_N (s_L (s_o_if_eq dL_law_204 (by decide))) (s_N (s_L (s_iconst dL_law_207 (by decide +kernel))) (s_L (s_zret rfl dL_law_208))))))) (s_N (s_N (s_N (s_N (s_L (s_o_goto dL_law_209 (by decide))) (s_N (s_L (s_aload_n dL_law_212 rfl)) (s_L (s_aload_n dL_law_213 rfl)))) (s_N (s_L (s_iload dL_law_214)) (s_N (s_L (s_iconst dL_law_216 (by decide +kernel))) (s_L (s_o_iadd dL_law_217))))) (s_N (s_N (s_L (s_sald dL_law_218)) (s_N (s_L (s_aload_n dL_law_219 rfl)) (s_L (s_iload dL_law_220)))) (s_N (s_L (s_iconst dL_law_222 (by decide +kernel))) (s_N (s_L (s_o_iadd dL_law_223)) (s_L (s_sald dL_law_224)))))) (s_N (s_N (s_N (s_L (s_aload_n dL_law_225 rfl)) (s_N (s_L (s_iload dL_law_226)) (s_L (s_iconst dL_law_228 (by decide +kernel))))) (s_N (s_L (s_o_iadd dL_law_229)) (s_N (s_L (s_sald dL_law_230)) (s_L (s_aload_n dL_law_231 rfl))))) (s_N (s_N (s_L (s_callSW (mc := 1) (ms := 6) cc_L_law_L_request qw_808 qw_809 dL_law_232)) (s_N (s_L (s_istore dL_law_235 (by decide))) (s_L (s_aload_n dL_law_237 rfl)))) (s_N (s_L (s_aload_n dL_law_238 rfl)) (s_N (s_L (s_iload dL_law_239)) (s_L (s_iconst dL_law_241 (by decide +kernel)))))))))) (s_N (s_N (s_N (s_N (s_N (s_N (s_L (s_o_iadd dL_law_242)) (s_L (s_sald dL_law_243))) (s_N (s_L (s_aload_n dL_law_244 rfl)) (s_N (s_L (s_iload dL_law_245)) (s_L (s_iconst dL_law_247 (by decide +kernel)))))) (s_N (s_N (s_L (s_o_iadd dL_law_248)) (s_N (s_L (s_sald dL_law_249)) (s_L (s_aload_n dL_law_250 rfl)))) (s_N (s_L (s_iload dL_law_251)) (s_N (s_L (s_iconst dL_law_253 (by decide +kernel))) (s_L (s_o_iadd dL_law_254)))))) (s_N (s_N (s_N (s_L (s_sald dL_law_255)) (s_N (s_L (s_callV (d' := tX10_request) (mc := 0) (ms := 0) ok_8 cc_L_law_X10_request qw_1034 qw_1035 qw_1036 dL_law_256)) (s_L (s_istore dL_law_259 (by decide))))) (s_N (s_L (s_aload_n dL_law_261 rfl)) (s_N (s_L (s_callV (d' := tX10_thrown) (mc := 0) (ms := 0) ok_8 cc_L_law_X10_thrown qw_1015 qw_1016 qw_1017 dL_law_262)) (s_L (s_iload dL_law_265))))) (s_N (s_N (s_L (s_o_icmp_eq dL_law_267 (by decide))) (s_N (s_L (s_iconst dL_law_270 (by decide +kernel))) (s_L (s_zret rfl dL_law_271)))) (s_N (s_L (s_iload dL_law_272)) (s_N (s_L (s_o_if_ne dL_law_274 (by decide))) (s_L (s_aload_n dL_law_277 rfl))))))) (s_N (s_N (s_N (s_N (s_L (s_iconst dL_law_278 (by decide +kernel))) (s_L (s_lald dL_law_279))) (s_N (s_L (s_iload dL_law_280)) (s_N (s_L (s_o_i2l dL_law_282)) (s_L (s_o_lcmp dL_law_283))))) (s_N (s_N (s_L (s_o_if_eq dL_law_284 (by decide))) (s_N (s_L (s_iconst dL_law_287 (by decide +kernel))) (s_L (s_zret rfl dL_law_288)))) (s_N (s_L (s_o_goto dL_law_289 (by decide))) (s_N (s_L (s_aload_n dL_law_292 rfl)) (s_L (s_aload_n dL_law_293 rfl)))))) (s_N (s_N (s_N (s_L (s_iload dL_law_294)) (s_N (s_L (s_iconst dL_law_296 (by decide +kernel))) (s_L (s_o_iadd dL_law_297)))) (s_N (s_L (s_sald dL_law_298)) (s_N (s_L (s_aload_n dL_law_299 rfl)) (s_L (s_callSW (mc := 1) (ms := 6) cc_L_law_L_cancel qw_831 qw_832 dL_law_300))))) (s_N (s_N (s_L (s_istore dL_law_303 (by decide))) (s_N (s_L (s_aload_n dL_law_305 rfl)) (s_L (s_aload_n dL_law_306 rfl)))) (s_N (s_L (s_iload dL_law_307)) (s_N (s_L (s_iconst dL_law_309 (by decide +kernel))) (s_L (s_o_iadd dL_law_310)))))))) (s_N (s_N (s_N (s_N (s_N (s_L (s_sald dL_law_311)) (s_L (s_callV (d' := tX10_cancel) (mc := 0) (ms := 0) ok_8 cc_L_law_X10_cancel qw_1038 qw_1039 qw_1040 dL_law_312))) (s_N (s_L (s_istore dL_law_315 (by decide))) (s_N (s_L (s_aload_n dL_law_317 rfl)) (s_L (s_callV (d' := tX10_thrown) (mc := 0) (ms := 0) ok_8 cc_L_law_X10_thrown qw_1015 qw_1016 qw_1017 dL_law_318))))) (s_N (s_N (s_L (s_iload dL_law_321)) (s_N (s_L (s_o_icmp_eq dL_law_323 (by decide))) (s_L (s_iconst dL_law_326 (by decide +kernel))))) (s_N (s_L (s_zret rfl dL_law_327)) (s_N (s_L (s_iload dL_law_328)) (s_L (s_o_if_ne dL_law_330 (by decide))))))) (s_N (s_N (s_N (s_L (s_aload_n dL_law_333 rfl)) (s_N (s_L (s_iconst dL_law_334 (by decide +kernel))) (s_L (s_lald dL_law_335)))) (s_N (s_L (s_iload dL_law_336)) (s_N (s_L (s_o_i2l dL_law_338)) (s_L (s_o_lcmp dL_law_339))))) (s_N (s_N (s_L (s_o_if_eq dL_law_340 (by decide))) (s_N (s_L (s_iconst dL_law_343 (by decide +kernel))) (s_L (s_zret rfl dL_law_344)))) (s_N (s_L (s_o_goto dL_law_345 (by decide))) (s_N (s_L (s_aload_n dL_law_348 rfl)) (s_L (s_aload_n dL_law_349 rfl))))))) (s_N (s_N (s_N (s_N (s_L (s_iload dL_law_350)) (s_N (s_L (s_iconst dL_law_352 (by decide +kernel))) (s_L (s_o_iadd dL_law_353)))) (s_N (s_L (s_sald dL_law_354)) (s_N (s_L (s_aload_n dL_law_355 rfl)) (s_L (s_iload dL_law_356))))) (s_N (s_N (s_L (s_iconst dL_law_358 (by decide +kernel))) (s_N (s_L (s_o_iadd dL_law_359)) (s_L (s_sald dL_law_360)))) (s_N (s_L (s_aload_n dL_law_361 rfl)) (s_N (s_L (s_callSW (mc := 1) (ms := 6) cc_L_law_L_set qw_854 qw_855 dL_law_362)) (s_L (s_istore dL_law_365 (by decide))))))) (s_N (s_N (s_N (s_L (s_aload_n dL_law_367 rfl)) (s_N (s_L (s_aload_n dL_law_368 rfl)) (s_L (s_iload dL_law_369)))) (s_N (s_L (s_iconst dL_law_371 (by decide +kernel))) (s_N (s_L (s_o_iadd dL_law_372)) (s_L (s_sald dL_law_373))))) (s_N (s_N (s_L (s_aload_n dL_law_374 rfl)) (s_N (s_L (s_iload dL_law_375)) (s_L (s_iconst dL_law_377 (by decide +kernel))))) (s_N (s_L (s_o_iadd dL_law_378)) (s_N (s_L (s_sald dL_law_379)) (s_L (s_callV (d' := tX10_set) (mc := 0) (ms := 0) ok_8 cc_L_law_X10_set qw_1054 qw_1055 qw_1056 dL_law_380)))))))))) (s_N (s_N (s_N (s_N (s_N (s_N (s_N (s_L (s_istore dL_law_383 (by decide))) (s_L (s_aload_n dL_law_385 rfl))) (s_N (s_L (s_callV (d' := tX10_thrown) (mc := 0) (ms := 0) ok_8 cc_L_law_X10_thrown qw_1015 qw_1016 qw_1017 dL_law_386)) (s_N (s_L (s_iload dL_law_389)) (s_L (s_o_icmp_eq dL_law_391 (by decide)))))) (s_N (s_N (s_L (s_iconst dL_law_394 (by decide +kernel))) (s_N (s_L (s_zret rfl dL_law_395)) (s_L (s_iload dL_law_396)))) (s_N (s_L (s_o_if_ne dL_law_398 (by decide))) (s_N (s_L (s_aload_n dL_law_401 rfl)) (s_L (s_iconst dL_law_402 (by decide +kernel))))))) (s_N (s_N (s_N (s_L (s_lald dL_law_403)) (s_N (s_L (s_iload dL_law_404)) (s_L (s_o_i2l dL_law_406)))) (s_N (s_L (s_o_lcmp dL_law_407)) (s_N (s_L (s_o_if_eq dL_law_408 (by decide))) (s_L (s_iconst dL_law_411 (by decide +kernel)))))) (s_N (s_N (s_L (s_zret rfl dL_law_412)) (s_N (s_L (s_o_goto dL_law_413 (by decide))) (s_L (s_aload_n dL_law_416 rfl)))) (s_N (s_L (s_aload_n dL_law_417 rfl)) (s_N (s_L (s_iload dL_law_418)) (s_L (s_iconst dL_law_420 (by decide +kernel)))))))) (s_N (s_N (s_N (s_N (s_L (s_o_iadd dL_law_421)) (s_L (s_sald dL_law_422))) (s_N (s_L (s_aload_n dL_law_423 rfl)) (s_N (s_L (s_callSW (mc := 1) (ms := 6) cc_L_law_L_pass qw_861 qw_862 dL_law_424)) (s_L (s_istore dL_law_427 (by decide)))))) (s_N (s_N (s_L (s_aload_n dL_law_429 rfl)) (s_N (s_L (s_aload_n dL_law_430 rfl)) (s_L (s_iload dL_law_431)))) (s_N (s_L (s_iconst dL_law_433 (by decide +kernel))) (s_N (s_L (s_o_iadd dL_law_434)) (s_L (s_sald dL_law_435)))))) (s_N (s_N (s_N (s_L (s_callV (d' := tX10_pass) (mc := 0) (ms := 0) ok_8 cc_L_law_X10_pass qw_1058 qw_1059 qw_1060 dL_law_436)) (s_N (s_L (s_istore dL_law_439 (by decide))) (s_L (s_aload_n dL_law_441 rfl)))) (s_N (s_L (s_callV (d' := tX10_thrown) (mc := 0) (ms := 0) ok_8 cc_L_law_X10_thrown qw_1015 qw_1016 qw_1017 dL_law_442)) (s_N (s_L (s_iload dL_law_445)) (s_L (s_o_icmp_eq dL_law_447 (by decide)))))) (s_N (s_N (s_L (s_iconst dL_law_450 (by decide +kernel))) (s_N (s_L (s_zret rfl dL_law_451)) (s_L (s_iload dL_law_452)))) (s_N (s_L (s_o_if_ne dL_law_454 (by decide))) (s_N (s_L (s_aload_n dL_law_457 rfl)) (s_L (s_iconst dL_law_458 (by decide +kernel))))))))) (s_N (s_N (s_N (s_N (s_N (s_L (s_lald dL_law_459)) (s_L (s_iload dL_law_460))) (s_N (s_L (s_o_i2l dL_law_462)) (s_N (s_L (s_o_lcmp dL_law_463)) (s_L (s_o_if_eq dL_law_464 (by decide)))))) (s_N (s_N (s_L (s_iconst dL_law_467 (by decide +kernel))) (s_N (s_L (s_zret rfl dL_law_468)) (s_L (s_o_goto dL_law_469 (by decide))))) (s_N (s_L (s_aload_n dL_law_472 rfl)) (s_N (s_L (s_aload_n dL_law_473 rfl)) (s_L (s_callSW (mc := 1) (ms := 6) cc_L_law_L_finish qw_868 qw_869 dL_law_474)))))) (s_N (s_N (s_N (s_L (s_istore dL_law_477 (by decide))) (s_N (s_L (s_aload_n dL_law_479 rfl)) (s_L (s_callV (d' := tX10_finish) (mc := 0) (ms := 0) ok_8 cc_L_law_X10_finish qw_1113 qw_1114 qw_1115 dL_law_480)))) (s_N (s_L (s_istore dL_law_483 (by decide))) (s_N (s_L (s_aload_n dL_law_485 rfl)) (s_L (s_callV (d' := tX10_thrown) (mc := 0) (ms := 0) ok_8 cc_L_law_X10_thrown qw_1015 qw_1016 qw_1017 dL_law_486))))) (s_N (s_N (s_L (s_iload dL_law_489)) (s_N (s_L (s_o_icmp_eq dL_law_491 (by decide))) (s_L (s_iconst dL_law_494 (by decide +kernel))))) (s_N (s_L (s_zret rfl dL_law_495)) (s_N (s_L (s_iload dL_law_496)) (s_L (s_o_if_ne dL_law_498 (by decide)))))))) (s_N (s_N (s_N (s_N (s_L (s_aload_n dL_law_501 rfl)) (s_N (s_L (s_iconst dL_law_502 (by decide +kernel))) (s_L (s_lald dL_law_503)))) (s_N (s_L (s_iload dL_law_504)) (s_N (s_L (s_o_i2l dL_law_506)) (s_L (s_o_lcmp dL_law_507))))) (s_N (s_N (s_L (s_o_if_eq dL_law_508 (by decide))) (s_N (s_L (s_iconst dL_law_511 (by decide +kernel))) (s_L (s_zret rfl dL_law_512)))) (s_N (s_L (s_o_goto dL_law_513 (by decide))) (s_N (s_L (s_aload_n dL_law_516 rfl)) (s_L (s_aload_n dL_law_517 rfl)))))) (s_N (s_N (s_N (s_L (s_iload dL_law_518)) (s_N (s_L (s_iconst dL_law_520 (by decide +kernel))) (s_L (s_o_iadd dL_law_521)))) (s_N (s_L (s_sald dL_law_522)) (s_N (s_L (s_aload_n dL_law_523 rfl)) (s_L (s_iload dL_law_524))))) (s_N (s_N (s_L (s_iconst dL_law_526 (by decide +kernel))) (s_N (s_L (s_o_iadd dL_law_527)) (s_L (s_sald dL_law_528)))) (s_N (s_L (s_aload_n dL_law_529 rfl)) (s_N (s_L (s_callSW (mc := 1) (ms := 6) cc_L_law_L_requestOf qw_875 qw_876 dL_law_530)) (s_L (s_istore dL_law_533 (by decide)))))))))) (s_N (s_N (s_N (s_N (s_N (s_N (s_L (s_aload_n dL_law_535 rfl)) (s_L (s_aload_n dL_law_536 rfl))) (s_N (s_L (s_iload dL_law_537)) (s_N (s_L (s_iconst dL_law_539 (by decide +kernel))) (s_L (s_o_iadd dL_law_540))))) (s_N (s_N (s_L (s_sald dL_law_541)) (s_N (s_L (s_aload_n dL_law_542 rfl)) (s_L (s_iload dL_law_543)))) (s_N (s_L (s_iconst dL_law_545 (by decide +kernel))) (s_N (s_L (s_o_iadd dL_law_546)) (s_L (s_sald dL_law_547)))))) (s_N (s_N (s_N (s_L (s_callV (d' := tX10_requestOf) (mc := 0) (ms := 0) ok_8 cc_L_law_X10_requestOf qw_1129 qw_1130 qw_1131 dL_law_548)) (s_N (s_L (s_istore dL_law_551 (by decide))) (s_L (s_aload_n dL_law_553 rfl)))) (s_N (s_L (s_callV (d' := tX10_thrown) (mc := 0) (ms := 0) ok_8 cc_L_law_X10_thrown qw_1015 qw_1016 qw_1017 dL_law_554)) (s_N (s_L (s_iload dL_law_557)) (s_L (s_o_icmp_eq dL_law_559 (by decide)))))) (s_N (s_N (s_L (s_iconst dL_law_562 (by decide +kernel))) (s_N (s_L (s_zret rfl dL_law_563)) (s_L (s_iload dL_law_564)))) (s_N (s_L (s_o_if_ne dL_law_566 (by decide))) (s_N (s_L (s_aload_n dL_law_569 rfl)) (s_L (s_iconst dL_law_570 (by decide +kernel)))))))) (s_N (s_N (s_N (s_N (s_L (s_lald dL_law_571)) (s_L (s_iload dL_law_572))) (s_N (s_L (s_o_i2l dL_law_574)) (s_N (s_L (s_o_lcmp dL_law_575)) (s_L (s_o_if_eq dL_law_576 (by decide)))))) (s_N (s_N (s_L (s_iconst dL_law_579 (by decide +kernel))) (s_N (s_L (s_zret rfl dL_law_580)) (s_L (s_o_goto dL_law_581 (by decide))))) (s_N (s_L (s_aload_n dL_law_584 rfl)) (s_N (s_L (s_aload_n dL_law_585 rfl)) (s_L (s_iload dL_law_586)))))) (s_N (s_N (s_N (s_L (s_iconst dL_law_588 (by decide +kernel))) (s_N (s_L (s_o_iadd dL_law_589)) (s_L (s_sald dL_law_590)))) (s_N (s_L (s_aload_n dL_law_591 rfl)) (s_N (s_L (s_callSW (mc := 1) (ms := 6) cc_L_law_L_requestAt qw_882 qw_883 dL_law_592)) (s_L (s_istore dL_law_595 (by decide)))))) (s_N (s_N (s_L (s_aload_n dL_law_597 rfl)) (s_N (s_L (s_aload_n dL_law_598 rfl)) (s_L (s_iload dL_law_599)))) (s_N (s_L (s_iconst dL_law_601 (by decide +kernel))) (s_N (s_L (s_o_iadd dL_law_602)) (s_L (s_sald dL_law_603)))))))) (s_N (s_N (s_N (s_N (s_N (s_L (s_callV (d' := tX10_requestAt) (mc := 0) (ms := 0) ok_8 cc_L_law_X10_requestAt qw_1137 qw_1138 qw_1139 dL_law_604)) (s_L (s_istore dL_law_607 (by decide)))) (s_N (s_L (s_aload_n dL_law_609 rfl)) (s_N (s_L (s_callV (d' := tX10_thrown) (mc := 0) (ms := 0) ok_8 cc_L_law_X10_thrown qw_1015 qw_1016 qw_1017 dL_law_610)) (s_L (s_iload dL_law_613))))) (s_N (s_N (s_L (s_o_icmp_eq dL_law_615 (by decide))) (s_N (s_L (s_iconst dL_law_618 (by decide +kernel))) (s_L (s_zret rfl dL_law_619)))) (s_N (s_L (s_iload dL_law_620)) (s_N (s_L (s_o_if_ne dL_law_622 (by decide))) (s_L (s_aload_n dL_law_625 rfl)))))) (s_N (s_N (s_N (s_L (s_iconst dL_law_626 (by decide +kernel))) (s_N (s_L (s_lald dL_law_627)) (s_L (s_iload dL_law_628)))) (s_N (s_L (s_o_i2l dL_law_630)) (s_N (s_L (s_o_lcmp dL_law_631)) (s_L (s_o_if_eq dL_law_632 (by decide)))))) (s_N (s_N (s_L (s_iconst dL_law_635 (by decide +kernel))) (s_N (s_L (s_zret rfl dL_law_636)) (s_L (s_o_goto dL_law_637 (by decide))))) (s_N (s_L (s_aload_n dL_law_640 rfl)) (s_N (s_L (s_aload_n dL_law_641 rfl)) (s_L (s_iload dL_law_642))))))) (s_N (s_N (s_N (s_N (s_L (s_iconst dL_law_644 (by decide +kernel))) (s_N (s_L (s_o_iadd dL_law_645)) (s_L (s_sald dL_law_646)))) (s_N (s_L (s_aload_n dL_law_647 rfl)) (s_N (s_L (s_iload dL_law_648)) (s_L (s_iconst dL_law_650 (by decide +kernel)))))) (s_N (s_N (s_L (s_o_iadd dL_law_651)) (s_N (s_L (s_sald dL_law_652)) (s_L (s_aload_n dL_law_653 rfl)))) (s_N (s_L (s_callSW (mc := 1) (ms := 6) cc_L_law_L_logged qw_889 qw_890 dL_law_654)) (s_N (s_L (s_istore dL_law_657 (by decide))) (s_L (s_aload_n dL_law_659 rfl)))))) (s_N (s_N (s_N (s_L (s_aload_n dL_law_660 rfl)) (s_N (s_L (s_iload dL_law_661)) (s_L (s_iconst dL_law_663 (by decide +kernel))))) (s_N (s_L (s_o_iadd dL_law_664)) (s_N (s_L (s_sald dL_law_665)) (s_L (s_aload_n dL_law_666 rfl))))) (s_N (s_N (s_L (s_iload dL_law_667)) (s_N (s_L (s_iconst dL_law_669 (by decide +kernel))) (s_L (s_o_iadd dL_law_670)))) (s_N (s_L (s_sald dL_law_671)) (s_N (s_L (s_callV (d' := tX10_logged) (mc := 0) (ms := 0) ok_8 cc_L_law_X10_logged qw_1141 qw_1142 qw_1143 dL_law_672)) (s_L (s_istore dL_law_675 (by decide)))))))))))) (s_N (s_N (s_N (s_N (s_N (s_N (s_N (s_N (s_L (s_aload_n dL_law_677 rfl)) (s_L (s_callV (d' := tX10_thrown) (mc := 0) (ms := 0) ok_8 cc_L_law_X10_thrown qw_1015 qw_1016 qw_1017 dL_law_678))) (s_N (s_L (s_iload dL_law_681)) (s_N (s_L (s_o_icmp_eq dL_law_683 (by decide))) (s_L (s_iconst dL_law_686 (by decide +kernel)))))) (s_N (s_N (s_L (s_zret rfl dL_law_687)) (s_N (s_L (s_iload dL_law_688)) (s_L (s_o_if_ne dL_law_690 (by decide))))) (s_N (s_L (s_aload_n dL_law_693 rfl)) (s_N (s_L (s_iconst dL_law_694 (by decide +kernel))) (s_L (s_lald dL_law_695)))))) (s_N (s_N (s_N (s_L (s_iload dL_law_696)) (s_N (s_L (s_o_i2l dL_law_698)) (s_L (s_o_lcmp dL_law_699)))) (s_N (s_L (s_o_if_eq dL_law_700 (by decide))) (s_N (s_L (s_iconst dL_law_703 (by decide +kernel))) (s_L (s_zret rfl dL_law_704))))) (s_N (s_N (s_L (s_o_goto dL_law_705 (by decide))) (s_N (s_L (s_aload_n dL_law_708 rfl)) (s_L (s_aload_n dL_law_709 rfl)))) (s_N (s_L (s_iload dL_law_710)) (s_N (s_L (s_iconst dL_law_712 (by decide +kernel))) (s_L (s_o_iadd dL_law_713))))))) (s_N (s_N (s_N (s_N (s_L (s_sald dL_law_714)) (s_L (s_aload_n dL_law_715 rfl))) (s_N (s_L (s_callSW (mc := 1) (ms := 6) cc_L_law_L_arm qw_896 qw_897 dL_law_716)) (s_N (s_L (s_istore dL_law_719 (by decide))) (s_L (s_aload_n dL_law_721 rfl))))) (s_N (s_N (s_L (s_aload_n dL_law_722 rfl)) (s_N (s_L (s_iload dL_law_723)) (s_L (s_iconst dL_law_725 (by decide +kernel))))) (s_N (s_L (s_o_iadd dL_law_726)) (s_N (s_L (s_sald dL_law_727)) (s_L (s_callV (d' := tX10_arm) (mc := 0) (ms := 0) ok_8 cc_L_law_X10_arm qw_1149 qw_1150 qw_1151 dL_law_728)))))) (s_N (s_N (s_N (s_L (s_istore dL_law_731 (by decide))) (s_N (s_L (s_aload_n dL_law_733 rfl)) (s_L (s_callV (d' := tX10_thrown) (mc := 0) (ms := 0) ok_8 cc_L_law_X10_thrown qw_1015 qw_1016 qw_1017 dL_law_734)))) (s_N (s_L (s_iload dL_law_737)) (s_N (s_L (s_o_icmp_eq dL_law_739 (by decide))) (s_L (s_iconst dL_law_742 (by decide +kernel)))))) (s_N (s_N (s_L (s_zret rfl dL_law_743)) (s_N (s_L (s_iload dL_law_744)) (s_L (s_o_if_ne dL_law_746 (by decide))))) (s_N (s_L (s_aload_n dL_law_749 rfl)) (s_N (s_L (s_iconst dL_law_750 (by decide +kernel))) (s_L (s_lald dL_law_751)))))))) (s_N (s_N (s_N (s_N (s_N (s_L (s_iload dL_law_752)) (s_L (s_o_i2l dL_law_754))) (s_N (s_L (s_o_lcmp dL_law_755)) (s_N (s_L (s_o_if_eq dL_law_756 (by decide))) (s_L (s_iconst dL_law_759 (by decide +kernel)))))) (s_N (s_N (s_L (s_zret rfl dL_law_760)) (s_N (s_L (s_o_goto dL_law_761 (by decide))) (s_L (s_aload_n dL_law_764 rfl)))) (s_N (s_L (s_aload_n dL_law_765 rfl)) (s_N (s_L (s_iload dL_law_766)) (s_L (s_iconst dL_law_768 (by decide +kernel))))))) (s_N (s_N (s_N (s_L (s_o_iadd dL_law_769)) (s_N (s_L (s_sald dL_law_770)) (s_L (s_aload_n dL_law_771 rfl)))) (s_N (s_L (s_callSW (mc := 1) (ms := 6) cc_L_law_L_whole qw_900 qw_901 dL_law_772)) (s_N (s_L (s_istore dL_law_775 (by decide))) (s_L (s_aload_n dL_law_777 rfl))))) (s_N (s_N (s_L (s_aload_n dL_law_778 rfl)) (s_N (s_L (s_iload dL_law_779)) (s_L (s_iconst dL_law_781 (by decide +kernel))))) (s_N (s_L (s_o_iadd dL_law_782)) (s_N (s_L (s_sald dL_law_783)) (s_L (s_callV (d' := tX10_whole) (mc := 0) (ms := 0) ok_8 cc_L_law_X10_whole qw_1157 qw_1158 qw_1159 dL_law_784))))))) (s_N (s_N (s_N (s_N (s_L (s_istore dL_law_787 (by decide))) (s_N (s_L (s_aload_n dL_law_789 rfl)) (s_L (s_callV (d' := tX10_thrown) (mc := 0) (ms := 0) ok_8 cc_L_law_X10_thrown qw_1015 qw_1016 qw_1017 dL_law_790)))) (s_N (s_L (s_iload dL_law_793)) (s_N (s_L (s_o_icmp_eq dL_law_795 (by decide))) (s_L (s_iconst dL_law_798 (by decide +kernel)))))) (s_N (s_N (s_L (s_zret rfl dL_law_799)) (s_N (s_L (s_iload dL_law_800)) (s_L (s_o_if_ne dL_law_802 (by decide))))) (s_N (s_L (s_aload_n dL_law_805 rfl)) (s_N (s_L (s_iconst dL_law_806 (by decide +kernel))) (s_L (s_lald dL_law_807)))))) (s_N (s_N (s_N (s_L (s_iload dL_law_808)) (s_N (s_L (s_o_i2l dL_law_810)) (s_L (s_o_lcmp dL_law_811)))) (s_N (s_L (s_o_if_eq dL_law_812 (by decide))) (s_N (s_L (s_iconst dL_law_815 (by decide +kernel))) (s_L (s_zret rfl dL_law_816))))) (s_N (s_N (s_L (s_o_goto dL_law_817 (by decide))) (s_N (s_L (s_aload_n dL_law_820 rfl)) (s_L (s_aload_n dL_law_821 rfl)))) (s_N (s_L (s_iload dL_law_822)) (s_N (s_L (s_iconst dL_law_824 (by decide +kernel))) (s_L (s_o_iadd dL_law_825))))))))) (s_N (s_N (s_N (s_N (s_N (s_N (s_L (s_sald dL_law_826)) (s_L (s_aload_n dL_law_827 rfl))) (s_N (s_L (s_callSW (mc := 1) (ms := 6) cc_L_law_L_target qw_904 qw_905 dL_law_828)) (s_N (s_L (s_istore dL_law_831 (by decide))) (s_L (s_aload_n dL_law_833 rfl))))) (s_N (s_N (s_L (s_aload_n dL_law_834 rfl)) (s_N (s_L (s_iload dL_law_835)) (s_L (s_iconst dL_law_837 (by decide +kernel))))) (s_N (s_L (s_o_iadd dL_law_838)) (s_N (s_L (s_sald dL_law_839)) (s_L (s_callV (d' := tX10_target) (mc := 0) (ms := 0) ok_8 cc_L_law_X10_target qw_1165 qw_1166 qw_1167 dL_law_840)))))) (s_N (s_N (s_N (s_L (s_istore dL_law_843 (by decide))) (s_N (s_L (s_aload_n dL_law_845 rfl)) (s_L (s_callV (d' := tX10_thrown) (mc := 0) (ms := 0) ok_8 cc_L_law_X10_thrown qw_1015 qw_1016 qw_1017 dL_law_846)))) (s_N (s_L (s_iload dL_law_849)) (s_N (s_L (s_o_icmp_eq dL_law_851 (by decide))) (s_L (s_iconst dL_law_854 (by decide +kernel)))))) (s_N (s_N (s_L (s_zret rfl dL_law_855)) (s_N (s_L (s_iload dL_law_856)) (s_L (s_o_if_ne dL_law_858 (by decide))))) (s_N (s_L (s_aload_n dL_law_861 rfl)) (s_N (s_L (s_iconst dL_law_862 (by decide +kernel))) (s_L (s_lald dL_law_863))))))) (s_N (s_N (s_N (s_N (s_L (s_iload dL_law_864)) (s_L (s_o_i2l dL_law_866))) (s_N (s_L (s_o_lcmp dL_law_867)) (s_N (s_L (s_o_if_eq dL_law_868 (by decide))) (s_L (s_iconst dL_law_871 (by decide +kernel)))))) (s_N (s_N (s_L (s_zret rfl dL_law_872)) (s_N (s_L (s_o_goto dL_law_873 (by decide))) (s_L (s_aload_n dL_law_876 rfl)))) (s_N (s_L (s_aload_n dL_law_877 rfl)) (s_N (s_L (s_iload dL_law_878)) (s_L (s_iconst dL_law_880 (by decide +kernel))))))) (s_N (s_N (s_N (s_L (s_o_iadd dL_law_881)) (s_N (s_L (s_sald dL_law_882)) (s_L (s_aload_n dL_law_883 rfl)))) (s_N (s_L (s_callSW (mc := 1) (ms := 6) cc_L_law_L_readIn qw_908 qw_909 dL_law_884)) (s_N (s_L (s_istore dL_law_887 (by decide))) (s_L (s_aload_n dL_law_889 rfl))))) (s_N (s_N (s_L (s_aload_n dL_law_890 rfl)) (s_N (s_L (s_iload dL_law_891)) (s_L (s_iconst dL_law_893 (by decide +kernel))))) (s_N (s_L (s_o_iadd dL_law_894)) (s_N (s_L (s_sald dL_law_895)) (s_L (s_callV (d' := tX10_readIn) (mc := 0) (ms := 0) ok_8 cc_L_law_X10_readIn qw_1173 qw_1174 qw_1175 dL_law_896)))))))) (s_N (s_N (s_N (s_N (s_N (s_L (s_istore dL_law_899 (by decide))) (s_L (s_aload_n dL_law_901 rfl))) (s_N (s_L (s_callV (d' := tX10_thrown) (mc := 0) (ms := 0) ok_8 cc_L_law_X10_thrown qw_1015 qw_1016 qw_1017 dL_law_902)) (s_N (s_L (s_iload dL_law_905)) (s_L (s_o_icmp_eq dL_law_907 (by decide)))))) (s_N (s_N (s_L (s_iconst dL_law_910 (by decide +kernel))) (s_N (s_L (s_zret rfl dL_law_911)) (s_L (s_iload dL_law_912)))) (s_N (s_L (s_o_if_ne dL_law_914 (by decide))) (s_N (s_L (s_aload_n dL_law_917 rfl)) (s_L (s_iconst dL_law_918 (by decide +kernel))))))) (s_N (s_N (s_N (s_L (s_lald dL_law_919)) (s_N (s_L (s_iload dL_law_920)) (s_L (s_o_i2l dL_law_922)))) (s_N (s_L (s_o_lcmp dL_law_923)) (s_N (s_L (s_o_if_eq dL_law_924 (by decide))) (s_L (s_iconst dL_law_927 (by decide +kernel)))))) (s_N (s_N (s_L (s_zret rfl dL_law_928)) (s_N (s_L (s_o_goto dL_law_929 (by decide))) (s_L (s_aload_n dL_law_932 rfl)))) (s_N (s_L (s_aload_n dL_law_933 rfl)) (s_N (s_L (s_iload dL_law_934)) (s_L (s_iconst dL_law_936 (by decide +kernel)))))))) (s_N (s_N (s_N (s_N (s_L (s_o_iadd dL_law_937)) (s_N (s_L (s_sald dL_law_938)) (s_L (s_aload_n dL_law_939 rfl)))) (s_N (s_L (s_iload dL_law_940)) (s_N (s_L (s_iconst dL_law_942 (by decide +kernel))) (s_L (s_o_iadd dL_law_943))))) (s_N (s_N (s_L (s_sald dL_law_944)) (s_N (s_L (s_aload_n dL_law_945 rfl)) (s_L (s_callSW (mc := 1) (ms := 6) cc_L_law_L_finishBy qw_920 qw_921 dL_law_946)))) (s_N (s_L (s_istore dL_law_949 (by decide))) (s_N (s_L (s_aload_n dL_law_951 rfl)) (s_L (s_aload_n dL_law_952 rfl)))))) (s_N (s_N (s_N (s_L (s_iload dL_law_953)) (s_N (s_L (s_iconst dL_law_955 (by decide +kernel))) (s_L (s_o_iadd dL_law_956)))) (s_N (s_L (s_sald dL_law_957)) (s_N (s_L (s_aload_n dL_law_958 rfl)) (s_L (s_iload dL_law_959))))) (s_N (s_N (s_L (s_iconst dL_law_961 (by decide +kernel))) (s_N (s_L (s_o_iadd dL_law_962)) (s_L (s_sald dL_law_963)))) (s_N (s_L (s_callV (d' := tX10_finishBy) (mc := 0) (ms := 0) ok_8 cc_L_law_X10_finishBy qw_1177 qw_1178 qw_1179 dL_law_964)) (s_N (s_L (s_istore dL_law_967 (by decide))) (s_L (s_aload_n dL_law_969 rfl)))))))))) (s_N (s_N (s_N (s_N (s_N (s_N (s_N (s_L (s_callV (d' := tX10_thrown) (mc := 0) (ms := 0) ok_8 cc_L_law_X10_thrown qw_1015 qw_1016 qw_1017 dL_law_970)) (s_L (s_iload dL_law_973))) (s_N (s_L (s_o_icmp_eq dL_law_975 (by decide))) (s_N (s_L (s_iconst dL_law_978 (by decide +kernel))) (s_L (s_zret rfl dL_law_979))))) (s_N (s_N (s_L (s_iload dL_law_980)) (s_N (s_L (s_o_if_ne dL_law_982 (by decide))) (s_L (s_aload_n dL_law_985 rfl)))) (s_N (s_L (s_iconst dL_law_986 (by decide +kernel))) (s_N (s_L (s_lald dL_law_987)) (s_L (s_iload dL_law_988)))))) (s_N (s_N (s_N (s_L (s_o_i2l dL_law_990)) (s_N (s_L (s_o_lcmp dL_law_991)) (s_L (s_o_if_eq dL_law_992 (by decide))))) (s_N (s_L (s_iconst dL_law_995 (by decide +kernel))) (s_N (s_L (s_zret rfl dL_law_996)) (s_L (s_o_goto dL_law_997 (by decide)))))) (s_N (s_N (s_L (s_aload_n dL_law_1000 rfl)) (s_N (s_L (s_callV (d' := tX9_bestWay) (mc := 0) (ms := 0) ok_7 cc_L_law_X9_bestWay qw_341 qw_342 qw_343 dL_law_1001)) (s_L (s_aload_n dL_law_1004 rfl)))) (s_N (s_L (s_callV (d' := tX10_bestWay) (mc := 0) (ms := 0) ok_8 cc_L_law_X10_bestWay qw_1185 qw_1186 qw_1187 dL_law_1005)) (s_N (s_L (s_o_icmp_eq dL_law_1008 (by decide))) (s_L (s_iconst dL_law_1011 (by decide +kernel)))))))) (s_N (s_N (s_N (s_N (s_L (s_zret rfl dL_law_1012)) (s_L (s_aload_n dL_law_1013 rfl))) (s_N (s_L (s_aload_n dL_law_1014 rfl)) (s_N (s_L (s_iload dL_law_1015)) (s_L (s_iconst dL_law_1017 (by decide +kernel)))))) (s_N (s_N (s_L (s_o_iadd dL_law_1018)) (s_N (s_L (s_sald dL_law_1019)) (s_L (s_aload_n dL_law_1020 rfl)))) (s_N (s_L (s_callSW (mc := 1) (ms := 6) cc_L_law_L_heatIn qw_927 qw_928 dL_law_1021)) (s_N (s_L (s_istore dL_law_1024 (by decide))) (s_L (s_aload_n dL_law_1026 rfl)))))) (s_N (s_N (s_N (s_L (s_aload_n dL_law_1027 rfl)) (s_N (s_L (s_iload dL_law_1028)) (s_L (s_iconst dL_law_1030 (by decide +kernel))))) (s_N (s_L (s_o_iadd dL_law_1031)) (s_N (s_L (s_sald dL_law_1032)) (s_L (s_callV (d' := tX10_heatIn) (mc := 0) (ms := 0) ok_8 cc_L_law_X10_heatIn qw_1193 qw_1194 qw_1195 dL_law_1033))))) (s_N (s_N (s_L (s_istore dL_law_1036 (by decide))) (s_N (s_L (s_aload_n dL_law_1038 rfl)) (s_L (s_callV (d' := tX10_thrown) (mc := 0) (ms := 0) ok_8 cc_L_law_X10_thrown qw_1015 qw_1016 qw_1017 dL_law_1039)))) (s_N (s_L (s_iload dL_law_1042)) (s_N (s_L (s_o_icmp_eq dL_law_1044 (by decide))) (s_L (s_iconst dL_law_1047 (by decide +kernel))))))))) (s_N (s_N (s_N (s_N (s_N (s_L (s_zret rfl dL_law_1048)) (s_L (s_iload dL_law_1049))) (s_N (s_L (s_o_if_ne dL_law_1051 (by decide))) (s_N (s_L (s_aload_n dL_law_1054 rfl)) (s_L (s_iconst dL_law_1055 (by decide +kernel)))))) (s_N (s_N (s_L (s_lald dL_law_1056)) (s_N (s_L (s_iload dL_law_1057)) (s_L (s_o_i2l dL_law_1059)))) (s_N (s_L (s_o_lcmp dL_law_1060)) (s_N (s_L (s_o_if_eq dL_law_1061 (by decide))) (s_L (s_iconst dL_law_1064 (by decide +kernel))))))) (s_N (s_N (s_N (s_L (s_zret rfl dL_law_1065)) (s_N (s_L (s_o_goto dL_law_1066 (by decide))) (s_L (s_aload_n dL_law_1069 rfl)))) (s_N (s_L (s_callV (d' := tX9_widest) (mc := 0) (ms := 0) ok_7 cc_L_law_X9_widest qw_454 qw_455 qw_456 dL_law_1070)) (s_N (s_L (s_aload_n dL_law_1073 rfl)) (s_L (s_callV (d' := tX10_widest) (mc := 0) (ms := 0) ok_8 cc_L_law_X10_widest qw_1201 qw_1202 qw_1203 dL_law_1074))))) (s_N (s_N (s_L (s_o_icmp_eq dL_law_1077 (by decide))) (s_N (s_L (s_iconst dL_law_1080 (by decide +kernel))) (s_L (s_zret rfl dL_law_1081)))) (s_N (s_L (s_aload_n dL_law_1082 rfl)) (s_N (s_L (s_aload_n dL_law_1083 rfl)) (s_L (s_iload dL_law_1084))))))) (s_N (s_N (s_N (s_N (s_L (s_iconst dL_law_1086 (by decide +kernel))) (s_N (s_L (s_o_iadd dL_law_1087)) (s_L (s_sald dL_law_1088)))) (s_N (s_L (s_aload_n dL_law_1089 rfl)) (s_N (s_L (s_callSW (mc := 1) (ms := 6) cc_L_law_L_reason qw_931 qw_932 dL_law_1090)) (s_L (s_istore dL_law_1093 (by decide)))))) (s_N (s_N (s_L (s_aload_n dL_law_1095 rfl)) (s_N (s_L (s_aload_n dL_law_1096 rfl)) (s_L (s_iload dL_law_1097)))) (s_N (s_L (s_iconst dL_law_1099 (by decide +kernel))) (s_N (s_L (s_o_iadd dL_law_1100)) (s_L (s_sald dL_law_1101)))))) (s_N (s_N (s_N (s_L (s_callV (d' := tX10_reason) (mc := 0) (ms := 0) ok_8 cc_L_law_X10_reason qw_1209 qw_1210 qw_1211 dL_law_1102)) (s_N (s_L (s_istore dL_law_1105 (by decide))) (s_L (s_aload_n dL_law_1107 rfl)))) (s_N (s_L (s_callV (d' := tX10_thrown) (mc := 0) (ms := 0) ok_8 cc_L_law_X10_thrown qw_1015 qw_1016 qw_1017 dL_law_1108)) (s_N (s_L (s_iload dL_law_1111)) (s_L (s_o_icmp_eq dL_law_1113 (by decide)))))) (s_N (s_N (s_L (s_iconst dL_law_1116 (by decide +kernel))) (s_N (s_L (s_zret rfl dL_law_1117)) (s_L (s_iload dL_law_1118)))) (s_N (s_L (s_o_if_ne dL_law_1120 (by decide))) (s_N (s_L (s_aload_n dL_law_1123 rfl)) (s_L (s_iconst dL_law_1124 (by decide +kernel)))))))))) (s_N (s_N (s_N (s_N (s_N (s_N (s_L (s_lald dL_law_1125)) (s_L (s_iload dL_law_1126))) (s_N (s_L (s_o_i2l dL_law_1128)) (s_N (s_L (s_o_lcmp dL_law_1129)) (s_L (s_o_if_eq dL_law_1130 (by decide)))))) (s_N (s_N (s_L (s_iconst dL_law_1133 (by decide +kernel))) (s_N (s_L (s_zret rfl dL_law_1134)) (s_L (s_o_goto dL_law_1135 (by decide))))) (s_N (s_L (s_aload_n dL_law_1138 rfl)) (s_N (s_L (s_aload_n dL_law_1139 rfl)) (s_L (s_iload dL_law_1140)))))) (s_N (s_N (s_N (s_L (s_iconst dL_law_1142 (by decide +kernel))) (s_N (s_L (s_o_iadd dL_law_1143)) (s_L (s_sald dL_law_1144)))) (s_N (s_L (s_aload_n dL_law_1145 rfl)) (s_N (s_L (s_callSW (mc := 1) (ms := 6) cc_L_law_L_type qw_943 qw_944 dL_law_1146)) (s_L (s_istore dL_law_1149 (by decide)))))) (s_N (s_N (s_L (s_aload_n dL_law_1151 rfl)) (s_N (s_L (s_aload_n dL_law_1152 rfl)) (s_L (s_iload dL_law_1153)))) (s_N (s_L (s_iconst dL_law_1155 (by decide +kernel))) (s_N (s_L (s_o_iadd dL_law_1156)) (s_L (s_sald dL_law_1157))))))) (s_N (s_N (s_N (s_N (s_L (s_callV (d' := tX10_type) (mc := 0) (ms := 0) ok_8 cc_L_law_X10_type qw_1213 qw_1214 qw_1215 dL_law_1158)) (s_N (s_L (s_istore dL_law_1161 (by decide))) (s_L (s_aload_n dL_law_1163 rfl)))) (s_N (s_L (s_callV (d' := tX10_thrown) (mc := 0) (ms := 0) ok_8 cc_L_law_X10_thrown qw_1015 qw_1016 qw_1017 dL_law_1164)) (s_N (s_L (s_iload dL_law_1167)) (s_L (s_o_icmp_eq dL_law_1169 (by decide)))))) (s_N (s_N (s_L (s_iconst dL_law_1172 (by decide +kernel))) (s_N (s_L (s_zret rfl dL_law_1173)) (s_L (s_iload dL_law_1174)))) (s_N (s_L (s_o_if_ne dL_law_1176 (by decide))) (s_N (s_L (s_aload_n dL_law_1179 rfl)) (s_L (s_iconst dL_law_1180 (by decide +kernel))))))) (s_N (s_N (s_N (s_L (s_lald dL_law_1181)) (s_N (s_L (s_iload dL_law_1182)) (s_L (s_o_i2l dL_law_1184)))) (s_N (s_L (s_o_lcmp dL_law_1185)) (s_N (s_L (s_o_if_eq dL_law_1186 (by decide))) (s_L (s_iconst dL_law_1189 (by decide +kernel)))))) (s_N (s_N (s_L (s_zret rfl dL_law_1190)) (s_N (s_L (s_o_goto dL_law_1191 (by decide))) (s_L (s_aload_n dL_law_1194 rfl)))) (s_N (s_L (s_callV (d' := tX9_clearCommands) (mc := 0) (ms := 0) ok_7 cc_L_law_X9_clearCommands qw_466 qw_467 qw_468 dL_law_1195)) (s_N (s_L (s_aload_n dL_law_1198 rfl)) (s_L (s_callV (d' := tX10_clearCommands) (mc := 0) (ms := 0) ok_8 cc_L_law_X10_clearCommands qw_1217 qw_1218 qw_1219 dL_law_1199)))))))) (s_N (s_N (s_N (s_N (s_N (s_L (s_o_icmp_eq dL_law_1202 (by decide))) (s_L (s_iconst dL_law_1205 (by decide +kernel)))) (s_N (s_L (s_zret rfl dL_law_1206)) (s_N (s_L (s_aload_n dL_law_1207 rfl)) (s_L (s_callV (d' := tX9_runCommands) (mc := 0) (ms := 0) ok_7 cc_L_law_X9_runCommands qw_470 qw_471 qw_472 dL_law_1208))))) (s_N (s_N (s_L (s_aload_n dL_law_1211 rfl)) (s_N (s_L (s_callV (d' := tX10_runCommands) (mc := 0) (ms := 0) ok_8 cc_L_law_X10_runCommands qw_1221 qw_1222 qw_1223 dL_law_1212)) (s_L (s_o_icmp_eq dL_law_1215 (by decide))))) (s_N (s_L (s_iconst dL_law_1218 (by decide +kernel))) (s_N (s_L (s_zret rfl dL_law_1219)) (s_L (s_aload_n dL_law_1220 rfl)))))) (s_N (s_N (s_N (s_L (s_aload_n dL_law_1221 rfl)) (s_N (s_L (s_callSW (mc := 1) (ms := 6) cc_L_law_L_undo qw_959 qw_960 dL_law_1222)) (s_L (s_istore dL_law_1225 (by decide))))) (s_N (s_L (s_aload_n dL_law_1227 rfl)) (s_N (s_L (s_callV (d' := tX10_undo) (mc := 0) (ms := 0) ok_8 cc_L_law_X10_undo qw_1262 qw_1263 qw_1264 dL_law_1228)) (s_L (s_istore dL_law_1231 (by decide)))))) (s_N (s_N (s_L (s_aload_n dL_law_1233 rfl)) (s_N (s_L (s_callV (d' := tX10_thrown) (mc := 0) (ms := 0) ok_8 cc_L_law_X10_thrown qw_1015 qw_1016 qw_1017 dL_law_1234)) (s_L (s_iload dL_law_1237)))) (s_N (s_L (s_o_icmp_eq dL_law_1239 (by decide))) (s_N (s_L (s_iconst dL_law_1242 (by decide +kernel))) (s_L (s_zret rfl dL_law_1243))))))) (s_N (s_N (s_N (s_N (s_L (s_iload dL_law_1244)) (s_N (s_L (s_o_if_ne dL_law_1246 (by decide))) (s_L (s_aload_n dL_law_1249 rfl)))) (s_N (s_L (s_iconst dL_law_1250 (by decide +kernel))) (s_N (s_L (s_lald dL_law_1251)) (s_L (s_iload dL_law_1252))))) (s_N (s_N (s_L (s_o_i2l dL_law_1254)) (s_N (s_L (s_o_lcmp dL_law_1255)) (s_L (s_o_if_eq dL_law_1256 (by decide))))) (s_N (s_L (s_iconst dL_law_1259 (by decide +kernel))) (s_N (s_L (s_zret rfl dL_law_1260)) (s_L (s_o_goto dL_law_1261 (by decide))))))) (s_N (s_N (s_N (s_L (s_aload_n dL_law_1264 rfl)) (s_N (s_L (s_callV (d' := tX9_digest) (mc := 0) (ms := 0) ok_7 cc_L_law_X9_digest qw_680 qw_681 qw_682 dL_law_1265)) (s_L (s_aload_n dL_law_1268 rfl)))) (s_N (s_L (s_callV (d' := tX10_digest) (mc := 0) (ms := 0) ok_8 cc_L_law_X10_digest qw_1266 qw_1267 qw_1268 dL_law_1269)) (s_N (s_L (s_o_lcmp dL_law_1272)) (s_L (s_o_if_eq dL_law_1273 (by decide)))))) (s_N (s_N (s_L (s_iconst dL_law_1276 (by decide +kernel))) (s_N (s_L (s_zret rfl dL_law_1277)) (s_L (s_iinc (v := 4) dL_law_1278 (by decide +kernel) (by decide))))) (s_N (s_L (s_o_goto dL_law_1281 (by decide))) (s_N (s_L (s_iconst dL_law_1284 (by decide +kernel))) (s_L (s_zret rfl dL_law_1285)))))))))))
