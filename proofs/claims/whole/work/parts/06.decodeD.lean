/-! decode rows, by program -/
theorem dL_law_0 : decode bL_law 0 = .ok (.new 8, 3) := by decide +kernel
theorem dL_law_3 : decode bL_law 3 = .ok (.dup, 1) := by decide +kernel
theorem dL_law_4 : decode bL_law 4 = .ok (.invokespecial 43, 3) := by decide +kernel
theorem dL_law_7 : decode bL_law 7 = .ok (.astore_n 1, 1) := by decide +kernel
theorem dL_law_8 : decode bL_law 8 = .ok (.new 44, 3) := by decide +kernel
theorem dL_law_11 : decode bL_law 11 = .ok (.dup, 1) := by decide +kernel
theorem dL_law_12 : decode bL_law 12 = .ok (.invokespecial 46, 3) := by decide +kernel
theorem dL_law_15 : decode bL_law 15 = .ok (.astore_n 2, 1) := by decide +kernel
theorem dL_law_16 : decode bL_law 16 = .ok (.iconst 1, 1) := by decide +kernel
theorem dL_law_17 : decode bL_law 17 = .ok (.newarray .long, 2) := by decide +kernel
theorem dL_law_19 : decode bL_law 19 = .ok (.astore_n 3, 1) := by decide +kernel
theorem dL_law_20 : decode bL_law 20 = .ok (.iconst 0, 1) := by decide +kernel
theorem dL_law_21 : decode bL_law 21 = .ok (.istore 4, 2) := by decide +kernel
theorem dL_law_23 : decode bL_law 23 = .ok (.iload 4, 2) := by decide +kernel
theorem dL_law_25 : decode bL_law 25 = .ok (.aload_n 0, 1) := by decide +kernel
theorem dL_law_26 : decode bL_law 26 = .ok (.arraylength, 1) := by decide +kernel
theorem dL_law_27 : decode bL_law 27 = .ok (.bipush 6, 2) := by decide +kernel
theorem dL_law_29 : decode bL_law 29 = .ok (.isub, 1) := by decide +kernel
theorem dL_law_30 : decode bL_law 30 = .ok (.if_icmp .gt 829, 3) := by decide +kernel
theorem dL_law_33 : decode bL_law 33 = .ok (.aload_n 0, 1) := by decide +kernel
theorem dL_law_34 : decode bL_law 34 = .ok (.iload 4, 2) := by decide +kernel
theorem dL_law_36 : decode bL_law 36 = .ok (.iaload, 1) := by decide +kernel
theorem dL_law_37 : decode bL_law 37 = .ok (.bipush 15, 2) := by decide +kernel
theorem dL_law_39 : decode bL_law 39 = .ok (.iand, 1) := by decide +kernel
theorem dL_law_40 : decode bL_law 40 = .ok (.tableswitch 813 0 12 #[68, 128, 197, 253, 278, 350, 410, 470, 542, 646, 683, 732, 788], 68) := by decide +kernel
theorem dL_law_108 : decode bL_law 108 = .ok (.aload_n 1, 1) := by decide +kernel
theorem dL_law_109 : decode bL_law 109 = .ok (.aload_n 0, 1) := by decide +kernel
theorem dL_law_110 : decode bL_law 110 = .ok (.iload 4, 2) := by decide +kernel
theorem dL_law_112 : decode bL_law 112 = .ok (.iconst 1, 1) := by decide +kernel
theorem dL_law_113 : decode bL_law 113 = .ok (.iadd, 1) := by decide +kernel
theorem dL_law_114 : decode bL_law 114 = .ok (.iaload, 1) := by decide +kernel
theorem dL_law_115 : decode bL_law 115 = .ok (.aload_n 0, 1) := by decide +kernel
theorem dL_law_116 : decode bL_law 116 = .ok (.iload 4, 2) := by decide +kernel
theorem dL_law_118 : decode bL_law 118 = .ok (.iconst 2, 1) := by decide +kernel
theorem dL_law_119 : decode bL_law 119 = .ok (.iadd, 1) := by decide +kernel
theorem dL_law_120 : decode bL_law 120 = .ok (.iaload, 1) := by decide +kernel
theorem dL_law_121 : decode bL_law 121 = .ok (.aload_n 0, 1) := by decide +kernel
theorem dL_law_122 : decode bL_law 122 = .ok (.iload 4, 2) := by decide +kernel
theorem dL_law_124 : decode bL_law 124 = .ok (.iconst 3, 1) := by decide +kernel
theorem dL_law_125 : decode bL_law 125 = .ok (.iadd, 1) := by decide +kernel
theorem dL_law_126 : decode bL_law 126 = .ok (.iaload, 1) := by decide +kernel
theorem dL_law_127 : decode bL_law 127 = .ok (.invokestatic 47, 3) := by decide +kernel
theorem dL_law_130 : decode bL_law 130 = .ok (.istore 5, 2) := by decide +kernel
theorem dL_law_132 : decode bL_law 132 = .ok (.aload_n 2, 1) := by decide +kernel
theorem dL_law_133 : decode bL_law 133 = .ok (.aload_n 0, 1) := by decide +kernel
theorem dL_law_134 : decode bL_law 134 = .ok (.iload 4, 2) := by decide +kernel
theorem dL_law_136 : decode bL_law 136 = .ok (.iconst 1, 1) := by decide +kernel
theorem dL_law_137 : decode bL_law 137 = .ok (.iadd, 1) := by decide +kernel
theorem dL_law_138 : decode bL_law 138 = .ok (.iaload, 1) := by decide +kernel
theorem dL_law_139 : decode bL_law 139 = .ok (.aload_n 0, 1) := by decide +kernel
theorem dL_law_140 : decode bL_law 140 = .ok (.iload 4, 2) := by decide +kernel
theorem dL_law_142 : decode bL_law 142 = .ok (.iconst 2, 1) := by decide +kernel
theorem dL_law_143 : decode bL_law 143 = .ok (.iadd, 1) := by decide +kernel
theorem dL_law_144 : decode bL_law 144 = .ok (.iaload, 1) := by decide +kernel
theorem dL_law_145 : decode bL_law 145 = .ok (.aload_n 0, 1) := by decide +kernel
theorem dL_law_146 : decode bL_law 146 = .ok (.iload 4, 2) := by decide +kernel
theorem dL_law_148 : decode bL_law 148 = .ok (.iconst 3, 1) := by decide +kernel
theorem dL_law_149 : decode bL_law 149 = .ok (.iadd, 1) := by decide +kernel
theorem dL_law_150 : decode bL_law 150 = .ok (.iaload, 1) := by decide +kernel
theorem dL_law_151 : decode bL_law 151 = .ok (.invokevirtual 52, 3) := by decide +kernel
theorem dL_law_154 : decode bL_law 154 = .ok (.aload_n 2, 1) := by decide +kernel
theorem dL_law_155 : decode bL_law 155 = .ok (.invokevirtual 53, 3) := by decide +kernel
theorem dL_law_158 : decode bL_law 158 = .ok (.iload 5, 2) := by decide +kernel
theorem dL_law_160 : decode bL_law 160 = .ok (.if_icmp .eq 5, 3) := by decide +kernel
theorem dL_law_163 : decode bL_law 163 = .ok (.iconst 0, 1) := by decide +kernel
theorem dL_law_164 : decode bL_law 164 = .ok (.ireturn, 1) := by decide +kernel
theorem dL_law_165 : decode bL_law 165 = .ok (.goto 688, 3) := by decide +kernel
theorem dL_law_168 : decode bL_law 168 = .ok (.aload_n 1, 1) := by decide +kernel
theorem dL_law_169 : decode bL_law 169 = .ok (.aload_n 0, 1) := by decide +kernel
theorem dL_law_170 : decode bL_law 170 = .ok (.iload 4, 2) := by decide +kernel
theorem dL_law_172 : decode bL_law 172 = .ok (.iconst 1, 1) := by decide +kernel
theorem dL_law_173 : decode bL_law 173 = .ok (.iadd, 1) := by decide +kernel
theorem dL_law_174 : decode bL_law 174 = .ok (.iaload, 1) := by decide +kernel
theorem dL_law_175 : decode bL_law 175 = .ok (.i2l, 1) := by decide +kernel
theorem dL_law_176 : decode bL_law 176 = .ok (.bipush 32, 2) := by decide +kernel
theorem dL_law_178 : decode bL_law 178 = .ok (.lshl, 1) := by decide +kernel
theorem dL_law_179 : decode bL_law 179 = .ok (.aload_n 0, 1) := by decide +kernel
theorem dL_law_180 : decode bL_law 180 = .ok (.iload 4, 2) := by decide +kernel
theorem dL_law_182 : decode bL_law 182 = .ok (.iconst 2, 1) := by decide +kernel
theorem dL_law_183 : decode bL_law 183 = .ok (.iadd, 1) := by decide +kernel
theorem dL_law_184 : decode bL_law 184 = .ok (.iaload, 1) := by decide +kernel
theorem dL_law_185 : decode bL_law 185 = .ok (.i2l, 1) := by decide +kernel
theorem dL_law_186 : decode bL_law 186 = .ok (.ldc2_w 57, 3) := by decide +kernel
theorem dL_law_189 : decode bL_law 189 = .ok (.land, 1) := by decide +kernel
theorem dL_law_190 : decode bL_law 190 = .ok (.lor, 1) := by decide +kernel
theorem dL_law_191 : decode bL_law 191 = .ok (.aload_n 0, 1) := by decide +kernel
theorem dL_law_192 : decode bL_law 192 = .ok (.iload 4, 2) := by decide +kernel
theorem dL_law_194 : decode bL_law 194 = .ok (.iconst 3, 1) := by decide +kernel
theorem dL_law_195 : decode bL_law 195 = .ok (.iadd, 1) := by decide +kernel
theorem dL_law_196 : decode bL_law 196 = .ok (.iaload, 1) := by decide +kernel
theorem dL_law_197 : decode bL_law 197 = .ok (.invokevirtual 59, 3) := by decide +kernel
theorem dL_law_200 : decode bL_law 200 = .ok (.aload_n 2, 1) := by decide +kernel
theorem dL_law_201 : decode bL_law 201 = .ok (.aload_n 0, 1) := by decide +kernel
theorem dL_law_202 : decode bL_law 202 = .ok (.iload 4, 2) := by decide +kernel
theorem dL_law_204 : decode bL_law 204 = .ok (.iconst 1, 1) := by decide +kernel
theorem dL_law_205 : decode bL_law 205 = .ok (.iadd, 1) := by decide +kernel
theorem dL_law_206 : decode bL_law 206 = .ok (.iaload, 1) := by decide +kernel
theorem dL_law_207 : decode bL_law 207 = .ok (.i2l, 1) := by decide +kernel
theorem dL_law_208 : decode bL_law 208 = .ok (.bipush 32, 2) := by decide +kernel
theorem dL_law_210 : decode bL_law 210 = .ok (.lshl, 1) := by decide +kernel
theorem dL_law_211 : decode bL_law 211 = .ok (.aload_n 0, 1) := by decide +kernel
theorem dL_law_212 : decode bL_law 212 = .ok (.iload 4, 2) := by decide +kernel
theorem dL_law_214 : decode bL_law 214 = .ok (.iconst 2, 1) := by decide +kernel
theorem dL_law_215 : decode bL_law 215 = .ok (.iadd, 1) := by decide +kernel
theorem dL_law_216 : decode bL_law 216 = .ok (.iaload, 1) := by decide +kernel
theorem dL_law_217 : decode bL_law 217 = .ok (.i2l, 1) := by decide +kernel
theorem dL_law_218 : decode bL_law 218 = .ok (.ldc2_w 57, 3) := by decide +kernel
theorem dL_law_221 : decode bL_law 221 = .ok (.land, 1) := by decide +kernel
theorem dL_law_222 : decode bL_law 222 = .ok (.lor, 1) := by decide +kernel
theorem dL_law_223 : decode bL_law 223 = .ok (.aload_n 0, 1) := by decide +kernel
theorem dL_law_224 : decode bL_law 224 = .ok (.iload 4, 2) := by decide +kernel
theorem dL_law_226 : decode bL_law 226 = .ok (.iconst 3, 1) := by decide +kernel
theorem dL_law_227 : decode bL_law 227 = .ok (.iadd, 1) := by decide +kernel
theorem dL_law_228 : decode bL_law 228 = .ok (.iaload, 1) := by decide +kernel
theorem dL_law_229 : decode bL_law 229 = .ok (.invokevirtual 63, 3) := by decide +kernel
theorem dL_law_232 : decode bL_law 232 = .ok (.if_icmp .eq 621, 3) := by decide +kernel
theorem dL_law_235 : decode bL_law 235 = .ok (.iconst 0, 1) := by decide +kernel
theorem dL_law_236 : decode bL_law 236 = .ok (.ireturn, 1) := by decide +kernel
theorem dL_law_237 : decode bL_law 237 = .ok (.aload_n 1, 1) := by decide +kernel
theorem dL_law_238 : decode bL_law 238 = .ok (.aload_n 0, 1) := by decide +kernel
theorem dL_law_239 : decode bL_law 239 = .ok (.iload 4, 2) := by decide +kernel
theorem dL_law_241 : decode bL_law 241 = .ok (.iconst 1, 1) := by decide +kernel
theorem dL_law_242 : decode bL_law 242 = .ok (.iadd, 1) := by decide +kernel
theorem dL_law_243 : decode bL_law 243 = .ok (.iaload, 1) := by decide +kernel
theorem dL_law_244 : decode bL_law 244 = .ok (.aload_n 3, 1) := by decide +kernel
theorem dL_law_245 : decode bL_law 245 = .ok (.invokestatic 64, 3) := by decide +kernel
theorem dL_law_248 : decode bL_law 248 = .ok (.istore 5, 2) := by decide +kernel
theorem dL_law_250 : decode bL_law 250 = .ok (.aload_n 2, 1) := by decide +kernel
theorem dL_law_251 : decode bL_law 251 = .ok (.aload_n 0, 1) := by decide +kernel
theorem dL_law_252 : decode bL_law 252 = .ok (.iload 4, 2) := by decide +kernel
theorem dL_law_254 : decode bL_law 254 = .ok (.iconst 1, 1) := by decide +kernel
theorem dL_law_255 : decode bL_law 255 = .ok (.iadd, 1) := by decide +kernel
theorem dL_law_256 : decode bL_law 256 = .ok (.iaload, 1) := by decide +kernel
theorem dL_law_257 : decode bL_law 257 = .ok (.invokevirtual 67, 3) := by decide +kernel
theorem dL_law_260 : decode bL_law 260 = .ok (.istore 6, 2) := by decide +kernel
theorem dL_law_262 : decode bL_law 262 = .ok (.aload_n 2, 1) := by decide +kernel
theorem dL_law_263 : decode bL_law 263 = .ok (.invokevirtual 53, 3) := by decide +kernel
theorem dL_law_266 : decode bL_law 266 = .ok (.iload 5, 2) := by decide +kernel
theorem dL_law_268 : decode bL_law 268 = .ok (.if_icmp .eq 5, 3) := by decide +kernel
theorem dL_law_271 : decode bL_law 271 = .ok (.iconst 0, 1) := by decide +kernel
theorem dL_law_272 : decode bL_law 272 = .ok (.ireturn, 1) := by decide +kernel
theorem dL_law_273 : decode bL_law 273 = .ok (.iload 5, 2) := by decide +kernel
theorem dL_law_275 : decode bL_law 275 = .ok (.ifCond .ne 15, 3) := by decide +kernel
theorem dL_law_278 : decode bL_law 278 = .ok (.aload_n 3, 1) := by decide +kernel
theorem dL_law_279 : decode bL_law 279 = .ok (.iconst 0, 1) := by decide +kernel
theorem dL_law_280 : decode bL_law 280 = .ok (.laload, 1) := by decide +kernel
theorem dL_law_281 : decode bL_law 281 = .ok (.iload 6, 2) := by decide +kernel
theorem dL_law_283 : decode bL_law 283 = .ok (.i2l, 1) := by decide +kernel
theorem dL_law_284 : decode bL_law 284 = .ok (.lcmp, 1) := by decide +kernel
theorem dL_law_285 : decode bL_law 285 = .ok (.ifCond .eq 5, 3) := by decide +kernel
theorem dL_law_288 : decode bL_law 288 = .ok (.iconst 0, 1) := by decide +kernel
theorem dL_law_289 : decode bL_law 289 = .ok (.ireturn, 1) := by decide +kernel
theorem dL_law_290 : decode bL_law 290 = .ok (.goto 563, 3) := by decide +kernel
theorem dL_law_293 : decode bL_law 293 = .ok (.aload_n 1, 1) := by decide +kernel
theorem dL_law_294 : decode bL_law 294 = .ok (.aload_n 0, 1) := by decide +kernel
theorem dL_law_295 : decode bL_law 295 = .ok (.iload 4, 2) := by decide +kernel
theorem dL_law_297 : decode bL_law 297 = .ok (.iconst 1, 1) := by decide +kernel
theorem dL_law_298 : decode bL_law 298 = .ok (.iadd, 1) := by decide +kernel
theorem dL_law_299 : decode bL_law 299 = .ok (.iaload, 1) := by decide +kernel
theorem dL_law_300 : decode bL_law 300 = .ok (.invokevirtual 68, 3) := by decide +kernel
theorem dL_law_303 : decode bL_law 303 = .ok (.aload_n 2, 1) := by decide +kernel
theorem dL_law_304 : decode bL_law 304 = .ok (.aload_n 0, 1) := by decide +kernel
theorem dL_law_305 : decode bL_law 305 = .ok (.iload 4, 2) := by decide +kernel
theorem dL_law_307 : decode bL_law 307 = .ok (.iconst 1, 1) := by decide +kernel
theorem dL_law_308 : decode bL_law 308 = .ok (.iadd, 1) := by decide +kernel
theorem dL_law_309 : decode bL_law 309 = .ok (.iaload, 1) := by decide +kernel
theorem dL_law_310 : decode bL_law 310 = .ok (.invokevirtual 71, 3) := by decide +kernel
theorem dL_law_313 : decode bL_law 313 = .ok (.if_icmp .eq 540, 3) := by decide +kernel
theorem dL_law_316 : decode bL_law 316 = .ok (.iconst 0, 1) := by decide +kernel
theorem dL_law_317 : decode bL_law 317 = .ok (.ireturn, 1) := by decide +kernel
theorem dL_law_318 : decode bL_law 318 = .ok (.aload_n 1, 1) := by decide +kernel
theorem dL_law_319 : decode bL_law 319 = .ok (.aload_n 0, 1) := by decide +kernel
theorem dL_law_320 : decode bL_law 320 = .ok (.iload 4, 2) := by decide +kernel
theorem dL_law_322 : decode bL_law 322 = .ok (.iconst 1, 1) := by decide +kernel
theorem dL_law_323 : decode bL_law 323 = .ok (.iadd, 1) := by decide +kernel
theorem dL_law_324 : decode bL_law 324 = .ok (.iaload, 1) := by decide +kernel
theorem dL_law_325 : decode bL_law 325 = .ok (.aload_n 0, 1) := by decide +kernel
theorem dL_law_326 : decode bL_law 326 = .ok (.iload 4, 2) := by decide +kernel
theorem dL_law_328 : decode bL_law 328 = .ok (.iconst 2, 1) := by decide +kernel
theorem dL_law_329 : decode bL_law 329 = .ok (.iadd, 1) := by decide +kernel
theorem dL_law_330 : decode bL_law 330 = .ok (.iaload, 1) := by decide +kernel
theorem dL_law_331 : decode bL_law 331 = .ok (.aload_n 0, 1) := by decide +kernel
theorem dL_law_332 : decode bL_law 332 = .ok (.iload 4, 2) := by decide +kernel
theorem dL_law_334 : decode bL_law 334 = .ok (.iconst 3, 1) := by decide +kernel
theorem dL_law_335 : decode bL_law 335 = .ok (.iadd, 1) := by decide +kernel
theorem dL_law_336 : decode bL_law 336 = .ok (.iaload, 1) := by decide +kernel
theorem dL_law_337 : decode bL_law 337 = .ok (.aload_n 0, 1) := by decide +kernel
theorem dL_law_338 : decode bL_law 338 = .ok (.iload 4, 2) := by decide +kernel
theorem dL_law_340 : decode bL_law 340 = .ok (.iconst 4, 1) := by decide +kernel
theorem dL_law_341 : decode bL_law 341 = .ok (.iadd, 1) := by decide +kernel
theorem dL_law_342 : decode bL_law 342 = .ok (.iaload, 1) := by decide +kernel
theorem dL_law_343 : decode bL_law 343 = .ok (.invokestatic 72, 3) := by decide +kernel
theorem dL_law_346 : decode bL_law 346 = .ok (.istore 5, 2) := by decide +kernel
theorem dL_law_348 : decode bL_law 348 = .ok (.aload_n 2, 1) := by decide +kernel
theorem dL_law_349 : decode bL_law 349 = .ok (.aload_n 0, 1) := by decide +kernel
theorem dL_law_350 : decode bL_law 350 = .ok (.iload 4, 2) := by decide +kernel
theorem dL_law_352 : decode bL_law 352 = .ok (.iconst 1, 1) := by decide +kernel
theorem dL_law_353 : decode bL_law 353 = .ok (.iadd, 1) := by decide +kernel
theorem dL_law_354 : decode bL_law 354 = .ok (.iaload, 1) := by decide +kernel
theorem dL_law_355 : decode bL_law 355 = .ok (.aload_n 0, 1) := by decide +kernel
theorem dL_law_356 : decode bL_law 356 = .ok (.iload 4, 2) := by decide +kernel
theorem dL_law_358 : decode bL_law 358 = .ok (.iconst 2, 1) := by decide +kernel
theorem dL_law_359 : decode bL_law 359 = .ok (.iadd, 1) := by decide +kernel
theorem dL_law_360 : decode bL_law 360 = .ok (.iaload, 1) := by decide +kernel
theorem dL_law_361 : decode bL_law 361 = .ok (.aload_n 0, 1) := by decide +kernel
theorem dL_law_362 : decode bL_law 362 = .ok (.iload 4, 2) := by decide +kernel
theorem dL_law_364 : decode bL_law 364 = .ok (.iconst 3, 1) := by decide +kernel
theorem dL_law_365 : decode bL_law 365 = .ok (.iadd, 1) := by decide +kernel
theorem dL_law_366 : decode bL_law 366 = .ok (.iaload, 1) := by decide +kernel
theorem dL_law_367 : decode bL_law 367 = .ok (.aload_n 0, 1) := by decide +kernel
theorem dL_law_368 : decode bL_law 368 = .ok (.iload 4, 2) := by decide +kernel
theorem dL_law_370 : decode bL_law 370 = .ok (.iconst 4, 1) := by decide +kernel
theorem dL_law_371 : decode bL_law 371 = .ok (.iadd, 1) := by decide +kernel
theorem dL_law_372 : decode bL_law 372 = .ok (.iaload, 1) := by decide +kernel
theorem dL_law_373 : decode bL_law 373 = .ok (.invokevirtual 75, 3) := by decide +kernel
theorem dL_law_376 : decode bL_law 376 = .ok (.aload_n 2, 1) := by decide +kernel
theorem dL_law_377 : decode bL_law 377 = .ok (.invokevirtual 53, 3) := by decide +kernel
theorem dL_law_380 : decode bL_law 380 = .ok (.iload 5, 2) := by decide +kernel
theorem dL_law_382 : decode bL_law 382 = .ok (.if_icmp .eq 5, 3) := by decide +kernel
theorem dL_law_385 : decode bL_law 385 = .ok (.iconst 0, 1) := by decide +kernel
theorem dL_law_386 : decode bL_law 386 = .ok (.ireturn, 1) := by decide +kernel
theorem dL_law_387 : decode bL_law 387 = .ok (.goto 466, 3) := by decide +kernel
theorem dL_law_390 : decode bL_law 390 = .ok (.aload_n 1, 1) := by decide +kernel
theorem dL_law_391 : decode bL_law 391 = .ok (.aload_n 0, 1) := by decide +kernel
theorem dL_law_392 : decode bL_law 392 = .ok (.iload 4, 2) := by decide +kernel
theorem dL_law_394 : decode bL_law 394 = .ok (.iconst 1, 1) := by decide +kernel
theorem dL_law_395 : decode bL_law 395 = .ok (.iadd, 1) := by decide +kernel
theorem dL_law_396 : decode bL_law 396 = .ok (.iaload, 1) := by decide +kernel
theorem dL_law_397 : decode bL_law 397 = .ok (.aload_n 0, 1) := by decide +kernel
theorem dL_law_398 : decode bL_law 398 = .ok (.iload 4, 2) := by decide +kernel
theorem dL_law_400 : decode bL_law 400 = .ok (.iconst 2, 1) := by decide +kernel
theorem dL_law_401 : decode bL_law 401 = .ok (.iadd, 1) := by decide +kernel
theorem dL_law_402 : decode bL_law 402 = .ok (.iaload, 1) := by decide +kernel
theorem dL_law_403 : decode bL_law 403 = .ok (.aload_n 0, 1) := by decide +kernel
theorem dL_law_404 : decode bL_law 404 = .ok (.iload 4, 2) := by decide +kernel
theorem dL_law_406 : decode bL_law 406 = .ok (.iconst 3, 1) := by decide +kernel
theorem dL_law_407 : decode bL_law 407 = .ok (.iadd, 1) := by decide +kernel
theorem dL_law_408 : decode bL_law 408 = .ok (.iaload, 1) := by decide +kernel
theorem dL_law_409 : decode bL_law 409 = .ok (.invokestatic 76, 3) := by decide +kernel
theorem dL_law_412 : decode bL_law 412 = .ok (.istore 5, 2) := by decide +kernel
theorem dL_law_414 : decode bL_law 414 = .ok (.aload_n 2, 1) := by decide +kernel
theorem dL_law_415 : decode bL_law 415 = .ok (.aload_n 0, 1) := by decide +kernel
theorem dL_law_416 : decode bL_law 416 = .ok (.iload 4, 2) := by decide +kernel
theorem dL_law_418 : decode bL_law 418 = .ok (.iconst 1, 1) := by decide +kernel
theorem dL_law_419 : decode bL_law 419 = .ok (.iadd, 1) := by decide +kernel
theorem dL_law_420 : decode bL_law 420 = .ok (.iaload, 1) := by decide +kernel
theorem dL_law_421 : decode bL_law 421 = .ok (.aload_n 0, 1) := by decide +kernel
theorem dL_law_422 : decode bL_law 422 = .ok (.iload 4, 2) := by decide +kernel
theorem dL_law_424 : decode bL_law 424 = .ok (.iconst 2, 1) := by decide +kernel
theorem dL_law_425 : decode bL_law 425 = .ok (.iadd, 1) := by decide +kernel
theorem dL_law_426 : decode bL_law 426 = .ok (.iaload, 1) := by decide +kernel
theorem dL_law_427 : decode bL_law 427 = .ok (.aload_n 0, 1) := by decide +kernel
theorem dL_law_428 : decode bL_law 428 = .ok (.iload 4, 2) := by decide +kernel
theorem dL_law_430 : decode bL_law 430 = .ok (.iconst 3, 1) := by decide +kernel
theorem dL_law_431 : decode bL_law 431 = .ok (.iadd, 1) := by decide +kernel
theorem dL_law_432 : decode bL_law 432 = .ok (.iaload, 1) := by decide +kernel
theorem dL_law_433 : decode bL_law 433 = .ok (.invokevirtual 78, 3) := by decide +kernel
theorem dL_law_436 : decode bL_law 436 = .ok (.aload_n 2, 1) := by decide +kernel
theorem dL_law_437 : decode bL_law 437 = .ok (.invokevirtual 53, 3) := by decide +kernel
theorem dL_law_440 : decode bL_law 440 = .ok (.iload 5, 2) := by decide +kernel
theorem dL_law_442 : decode bL_law 442 = .ok (.if_icmp .eq 5, 3) := by decide +kernel
theorem dL_law_445 : decode bL_law 445 = .ok (.iconst 0, 1) := by decide +kernel
theorem dL_law_446 : decode bL_law 446 = .ok (.ireturn, 1) := by decide +kernel
theorem dL_law_447 : decode bL_law 447 = .ok (.goto 406, 3) := by decide +kernel
theorem dL_law_450 : decode bL_law 450 = .ok (.aload_n 1, 1) := by decide +kernel
theorem dL_law_451 : decode bL_law 451 = .ok (.aload_n 0, 1) := by decide +kernel
theorem dL_law_452 : decode bL_law 452 = .ok (.iload 4, 2) := by decide +kernel
theorem dL_law_454 : decode bL_law 454 = .ok (.iconst 1, 1) := by decide +kernel
theorem dL_law_455 : decode bL_law 455 = .ok (.iadd, 1) := by decide +kernel
theorem dL_law_456 : decode bL_law 456 = .ok (.iaload, 1) := by decide +kernel
theorem dL_law_457 : decode bL_law 457 = .ok (.aload_n 0, 1) := by decide +kernel
theorem dL_law_458 : decode bL_law 458 = .ok (.iload 4, 2) := by decide +kernel
theorem dL_law_460 : decode bL_law 460 = .ok (.iconst 2, 1) := by decide +kernel
theorem dL_law_461 : decode bL_law 461 = .ok (.iadd, 1) := by decide +kernel
theorem dL_law_462 : decode bL_law 462 = .ok (.iaload, 1) := by decide +kernel
theorem dL_law_463 : decode bL_law 463 = .ok (.aload_n 0, 1) := by decide +kernel
theorem dL_law_464 : decode bL_law 464 = .ok (.iload 4, 2) := by decide +kernel
theorem dL_law_466 : decode bL_law 466 = .ok (.iconst 3, 1) := by decide +kernel
theorem dL_law_467 : decode bL_law 467 = .ok (.iadd, 1) := by decide +kernel
theorem dL_law_468 : decode bL_law 468 = .ok (.iaload, 1) := by decide +kernel
theorem dL_law_469 : decode bL_law 469 = .ok (.invokestatic 79, 3) := by decide +kernel
theorem dL_law_472 : decode bL_law 472 = .ok (.istore 5, 2) := by decide +kernel
theorem dL_law_474 : decode bL_law 474 = .ok (.aload_n 2, 1) := by decide +kernel
theorem dL_law_475 : decode bL_law 475 = .ok (.aload_n 0, 1) := by decide +kernel
theorem dL_law_476 : decode bL_law 476 = .ok (.iload 4, 2) := by decide +kernel
theorem dL_law_478 : decode bL_law 478 = .ok (.iconst 1, 1) := by decide +kernel
theorem dL_law_479 : decode bL_law 479 = .ok (.iadd, 1) := by decide +kernel
theorem dL_law_480 : decode bL_law 480 = .ok (.iaload, 1) := by decide +kernel
theorem dL_law_481 : decode bL_law 481 = .ok (.aload_n 0, 1) := by decide +kernel
theorem dL_law_482 : decode bL_law 482 = .ok (.iload 4, 2) := by decide +kernel
theorem dL_law_484 : decode bL_law 484 = .ok (.iconst 2, 1) := by decide +kernel
theorem dL_law_485 : decode bL_law 485 = .ok (.iadd, 1) := by decide +kernel
theorem dL_law_486 : decode bL_law 486 = .ok (.iaload, 1) := by decide +kernel
theorem dL_law_487 : decode bL_law 487 = .ok (.aload_n 0, 1) := by decide +kernel
theorem dL_law_488 : decode bL_law 488 = .ok (.iload 4, 2) := by decide +kernel
theorem dL_law_490 : decode bL_law 490 = .ok (.iconst 3, 1) := by decide +kernel
theorem dL_law_491 : decode bL_law 491 = .ok (.iadd, 1) := by decide +kernel
theorem dL_law_492 : decode bL_law 492 = .ok (.iaload, 1) := by decide +kernel
theorem dL_law_493 : decode bL_law 493 = .ok (.invokevirtual 81, 3) := by decide +kernel
theorem dL_law_496 : decode bL_law 496 = .ok (.aload_n 2, 1) := by decide +kernel
theorem dL_law_497 : decode bL_law 497 = .ok (.invokevirtual 53, 3) := by decide +kernel
theorem dL_law_500 : decode bL_law 500 = .ok (.iload 5, 2) := by decide +kernel
theorem dL_law_502 : decode bL_law 502 = .ok (.if_icmp .eq 5, 3) := by decide +kernel
theorem dL_law_505 : decode bL_law 505 = .ok (.iconst 0, 1) := by decide +kernel
theorem dL_law_506 : decode bL_law 506 = .ok (.ireturn, 1) := by decide +kernel
theorem dL_law_507 : decode bL_law 507 = .ok (.goto 346, 3) := by decide +kernel
theorem dL_law_510 : decode bL_law 510 = .ok (.aload_n 1, 1) := by decide +kernel
theorem dL_law_511 : decode bL_law 511 = .ok (.aload_n 0, 1) := by decide +kernel
theorem dL_law_512 : decode bL_law 512 = .ok (.iload 4, 2) := by decide +kernel
theorem dL_law_514 : decode bL_law 514 = .ok (.iconst 1, 1) := by decide +kernel
theorem dL_law_515 : decode bL_law 515 = .ok (.iadd, 1) := by decide +kernel
theorem dL_law_516 : decode bL_law 516 = .ok (.iaload, 1) := by decide +kernel
theorem dL_law_517 : decode bL_law 517 = .ok (.aload_n 0, 1) := by decide +kernel
theorem dL_law_518 : decode bL_law 518 = .ok (.iload 4, 2) := by decide +kernel
theorem dL_law_520 : decode bL_law 520 = .ok (.iconst 2, 1) := by decide +kernel
theorem dL_law_521 : decode bL_law 521 = .ok (.iadd, 1) := by decide +kernel
theorem dL_law_522 : decode bL_law 522 = .ok (.iaload, 1) := by decide +kernel
theorem dL_law_523 : decode bL_law 523 = .ok (.aload_n 0, 1) := by decide +kernel
theorem dL_law_524 : decode bL_law 524 = .ok (.iload 4, 2) := by decide +kernel
theorem dL_law_526 : decode bL_law 526 = .ok (.iconst 3, 1) := by decide +kernel
theorem dL_law_527 : decode bL_law 527 = .ok (.iadd, 1) := by decide +kernel
theorem dL_law_528 : decode bL_law 528 = .ok (.iaload, 1) := by decide +kernel
theorem dL_law_529 : decode bL_law 529 = .ok (.aload_n 0, 1) := by decide +kernel
theorem dL_law_530 : decode bL_law 530 = .ok (.iload 4, 2) := by decide +kernel
theorem dL_law_532 : decode bL_law 532 = .ok (.iconst 4, 1) := by decide +kernel
theorem dL_law_533 : decode bL_law 533 = .ok (.iadd, 1) := by decide +kernel
theorem dL_law_534 : decode bL_law 534 = .ok (.iaload, 1) := by decide +kernel
theorem dL_law_535 : decode bL_law 535 = .ok (.invokestatic 82, 3) := by decide +kernel
theorem dL_law_538 : decode bL_law 538 = .ok (.istore 5, 2) := by decide +kernel
theorem dL_law_540 : decode bL_law 540 = .ok (.aload_n 2, 1) := by decide +kernel
theorem dL_law_541 : decode bL_law 541 = .ok (.aload_n 0, 1) := by decide +kernel
theorem dL_law_542 : decode bL_law 542 = .ok (.iload 4, 2) := by decide +kernel
theorem dL_law_544 : decode bL_law 544 = .ok (.iconst 1, 1) := by decide +kernel
theorem dL_law_545 : decode bL_law 545 = .ok (.iadd, 1) := by decide +kernel
theorem dL_law_546 : decode bL_law 546 = .ok (.iaload, 1) := by decide +kernel
theorem dL_law_547 : decode bL_law 547 = .ok (.aload_n 0, 1) := by decide +kernel
theorem dL_law_548 : decode bL_law 548 = .ok (.iload 4, 2) := by decide +kernel
theorem dL_law_550 : decode bL_law 550 = .ok (.iconst 2, 1) := by decide +kernel
theorem dL_law_551 : decode bL_law 551 = .ok (.iadd, 1) := by decide +kernel
theorem dL_law_552 : decode bL_law 552 = .ok (.iaload, 1) := by decide +kernel
theorem dL_law_553 : decode bL_law 553 = .ok (.aload_n 0, 1) := by decide +kernel
theorem dL_law_554 : decode bL_law 554 = .ok (.iload 4, 2) := by decide +kernel
theorem dL_law_556 : decode bL_law 556 = .ok (.iconst 3, 1) := by decide +kernel
theorem dL_law_557 : decode bL_law 557 = .ok (.iadd, 1) := by decide +kernel
theorem dL_law_558 : decode bL_law 558 = .ok (.iaload, 1) := by decide +kernel
theorem dL_law_559 : decode bL_law 559 = .ok (.aload_n 0, 1) := by decide +kernel
theorem dL_law_560 : decode bL_law 560 = .ok (.iload 4, 2) := by decide +kernel
theorem dL_law_562 : decode bL_law 562 = .ok (.iconst 4, 1) := by decide +kernel
theorem dL_law_563 : decode bL_law 563 = .ok (.iadd, 1) := by decide +kernel
theorem dL_law_564 : decode bL_law 564 = .ok (.iaload, 1) := by decide +kernel
theorem dL_law_565 : decode bL_law 565 = .ok (.invokevirtual 84, 3) := by decide +kernel
theorem dL_law_568 : decode bL_law 568 = .ok (.aload_n 2, 1) := by decide +kernel
theorem dL_law_569 : decode bL_law 569 = .ok (.invokevirtual 53, 3) := by decide +kernel
theorem dL_law_572 : decode bL_law 572 = .ok (.iload 5, 2) := by decide +kernel
theorem dL_law_574 : decode bL_law 574 = .ok (.if_icmp .eq 5, 3) := by decide +kernel
theorem dL_law_577 : decode bL_law 577 = .ok (.iconst 0, 1) := by decide +kernel
theorem dL_law_578 : decode bL_law 578 = .ok (.ireturn, 1) := by decide +kernel
theorem dL_law_579 : decode bL_law 579 = .ok (.goto 274, 3) := by decide +kernel
theorem dL_law_582 : decode bL_law 582 = .ok (.aload_n 1, 1) := by decide +kernel
theorem dL_law_583 : decode bL_law 583 = .ok (.aload_n 0, 1) := by decide +kernel
theorem dL_law_584 : decode bL_law 584 = .ok (.iload 4, 2) := by decide +kernel
theorem dL_law_586 : decode bL_law 586 = .ok (.iconst 1, 1) := by decide +kernel
theorem dL_law_587 : decode bL_law 587 = .ok (.iadd, 1) := by decide +kernel
theorem dL_law_588 : decode bL_law 588 = .ok (.iaload, 1) := by decide +kernel
theorem dL_law_589 : decode bL_law 589 = .ok (.aload_n 0, 1) := by decide +kernel
theorem dL_law_590 : decode bL_law 590 = .ok (.iload 4, 2) := by decide +kernel
theorem dL_law_592 : decode bL_law 592 = .ok (.iconst 2, 1) := by decide +kernel
theorem dL_law_593 : decode bL_law 593 = .ok (.iadd, 1) := by decide +kernel
theorem dL_law_594 : decode bL_law 594 = .ok (.iaload, 1) := by decide +kernel
theorem dL_law_595 : decode bL_law 595 = .ok (.aload_n 0, 1) := by decide +kernel
theorem dL_law_596 : decode bL_law 596 = .ok (.iload 4, 2) := by decide +kernel
theorem dL_law_598 : decode bL_law 598 = .ok (.iconst 3, 1) := by decide +kernel
theorem dL_law_599 : decode bL_law 599 = .ok (.iadd, 1) := by decide +kernel
theorem dL_law_600 : decode bL_law 600 = .ok (.iaload, 1) := by decide +kernel
theorem dL_law_601 : decode bL_law 601 = .ok (.aload_n 0, 1) := by decide +kernel
theorem dL_law_602 : decode bL_law 602 = .ok (.iload 4, 2) := by decide +kernel
theorem dL_law_604 : decode bL_law 604 = .ok (.iconst 4, 1) := by decide +kernel
theorem dL_law_605 : decode bL_law 605 = .ok (.iadd, 1) := by decide +kernel
theorem dL_law_606 : decode bL_law 606 = .ok (.iaload, 1) := by decide +kernel
theorem dL_law_607 : decode bL_law 607 = .ok (.aload_n 0, 1) := by decide +kernel
theorem dL_law_608 : decode bL_law 608 = .ok (.iload 4, 2) := by decide +kernel
theorem dL_law_610 : decode bL_law 610 = .ok (.iconst 5, 1) := by decide +kernel
theorem dL_law_611 : decode bL_law 611 = .ok (.iadd, 1) := by decide +kernel
theorem dL_law_612 : decode bL_law 612 = .ok (.iaload, 1) := by decide +kernel
theorem dL_law_613 : decode bL_law 613 = .ok (.aload_n 3, 1) := by decide +kernel
theorem dL_law_614 : decode bL_law 614 = .ok (.invokestatic 85, 3) := by decide +kernel
theorem dL_law_617 : decode bL_law 617 = .ok (.istore 5, 2) := by decide +kernel
theorem dL_law_619 : decode bL_law 619 = .ok (.aload_n 2, 1) := by decide +kernel
theorem dL_law_620 : decode bL_law 620 = .ok (.aload_n 0, 1) := by decide +kernel
theorem dL_law_621 : decode bL_law 621 = .ok (.iload 4, 2) := by decide +kernel
theorem dL_law_623 : decode bL_law 623 = .ok (.iconst 1, 1) := by decide +kernel
theorem dL_law_624 : decode bL_law 624 = .ok (.iadd, 1) := by decide +kernel
theorem dL_law_625 : decode bL_law 625 = .ok (.iaload, 1) := by decide +kernel
theorem dL_law_626 : decode bL_law 626 = .ok (.aload_n 0, 1) := by decide +kernel
theorem dL_law_627 : decode bL_law 627 = .ok (.iload 4, 2) := by decide +kernel
theorem dL_law_629 : decode bL_law 629 = .ok (.iconst 2, 1) := by decide +kernel
theorem dL_law_630 : decode bL_law 630 = .ok (.iadd, 1) := by decide +kernel
theorem dL_law_631 : decode bL_law 631 = .ok (.iaload, 1) := by decide +kernel
theorem dL_law_632 : decode bL_law 632 = .ok (.aload_n 0, 1) := by decide +kernel
theorem dL_law_633 : decode bL_law 633 = .ok (.iload 4, 2) := by decide +kernel
theorem dL_law_635 : decode bL_law 635 = .ok (.iconst 3, 1) := by decide +kernel
theorem dL_law_636 : decode bL_law 636 = .ok (.iadd, 1) := by decide +kernel
theorem dL_law_637 : decode bL_law 637 = .ok (.iaload, 1) := by decide +kernel
theorem dL_law_638 : decode bL_law 638 = .ok (.aload_n 0, 1) := by decide +kernel
theorem dL_law_639 : decode bL_law 639 = .ok (.iload 4, 2) := by decide +kernel
theorem dL_law_641 : decode bL_law 641 = .ok (.iconst 4, 1) := by decide +kernel
theorem dL_law_642 : decode bL_law 642 = .ok (.iadd, 1) := by decide +kernel
theorem dL_law_643 : decode bL_law 643 = .ok (.iaload, 1) := by decide +kernel
theorem dL_law_644 : decode bL_law 644 = .ok (.aload_n 0, 1) := by decide +kernel
theorem dL_law_645 : decode bL_law 645 = .ok (.iload 4, 2) := by decide +kernel
theorem dL_law_647 : decode bL_law 647 = .ok (.iconst 5, 1) := by decide +kernel
theorem dL_law_648 : decode bL_law 648 = .ok (.iadd, 1) := by decide +kernel
theorem dL_law_649 : decode bL_law 649 = .ok (.iaload, 1) := by decide +kernel
theorem dL_law_650 : decode bL_law 650 = .ok (.invokevirtual 88, 3) := by decide +kernel
theorem dL_law_653 : decode bL_law 653 = .ok (.istore 6, 2) := by decide +kernel
theorem dL_law_655 : decode bL_law 655 = .ok (.aload_n 2, 1) := by decide +kernel
theorem dL_law_656 : decode bL_law 656 = .ok (.invokevirtual 53, 3) := by decide +kernel
theorem dL_law_659 : decode bL_law 659 = .ok (.iload 5, 2) := by decide +kernel
theorem dL_law_661 : decode bL_law 661 = .ok (.if_icmp .eq 5, 3) := by decide +kernel
theorem dL_law_664 : decode bL_law 664 = .ok (.iconst 0, 1) := by decide +kernel
theorem dL_law_665 : decode bL_law 665 = .ok (.ireturn, 1) := by decide +kernel
theorem dL_law_666 : decode bL_law 666 = .ok (.iload 5, 2) := by decide +kernel
theorem dL_law_668 : decode bL_law 668 = .ok (.ifCond .ne 15, 3) := by decide +kernel
theorem dL_law_671 : decode bL_law 671 = .ok (.aload_n 3, 1) := by decide +kernel
theorem dL_law_672 : decode bL_law 672 = .ok (.iconst 0, 1) := by decide +kernel
theorem dL_law_673 : decode bL_law 673 = .ok (.laload, 1) := by decide +kernel
theorem dL_law_674 : decode bL_law 674 = .ok (.iload 6, 2) := by decide +kernel
theorem dL_law_676 : decode bL_law 676 = .ok (.i2l, 1) := by decide +kernel
theorem dL_law_677 : decode bL_law 677 = .ok (.lcmp, 1) := by decide +kernel
theorem dL_law_678 : decode bL_law 678 = .ok (.ifCond .eq 5, 3) := by decide +kernel
theorem dL_law_681 : decode bL_law 681 = .ok (.iconst 0, 1) := by decide +kernel
theorem dL_law_682 : decode bL_law 682 = .ok (.ireturn, 1) := by decide +kernel
theorem dL_law_683 : decode bL_law 683 = .ok (.goto 170, 3) := by decide +kernel
theorem dL_law_686 : decode bL_law 686 = .ok (.aload_n 1, 1) := by decide +kernel
theorem dL_law_687 : decode bL_law 687 = .ok (.aload_n 0, 1) := by decide +kernel
theorem dL_law_688 : decode bL_law 688 = .ok (.iload 4, 2) := by decide +kernel
theorem dL_law_690 : decode bL_law 690 = .ok (.iconst 1, 1) := by decide +kernel
theorem dL_law_691 : decode bL_law 691 = .ok (.iadd, 1) := by decide +kernel
theorem dL_law_692 : decode bL_law 692 = .ok (.iaload, 1) := by decide +kernel
theorem dL_law_693 : decode bL_law 693 = .ok (.aload_n 0, 1) := by decide +kernel
theorem dL_law_694 : decode bL_law 694 = .ok (.iload 4, 2) := by decide +kernel
theorem dL_law_696 : decode bL_law 696 = .ok (.iconst 2, 1) := by decide +kernel
theorem dL_law_697 : decode bL_law 697 = .ok (.iadd, 1) := by decide +kernel
theorem dL_law_698 : decode bL_law 698 = .ok (.iaload, 1) := by decide +kernel
theorem dL_law_699 : decode bL_law 699 = .ok (.invokevirtual 89, 3) := by decide +kernel
theorem dL_law_702 : decode bL_law 702 = .ok (.aload_n 2, 1) := by decide +kernel
theorem dL_law_703 : decode bL_law 703 = .ok (.aload_n 0, 1) := by decide +kernel
theorem dL_law_704 : decode bL_law 704 = .ok (.iload 4, 2) := by decide +kernel
theorem dL_law_706 : decode bL_law 706 = .ok (.iconst 1, 1) := by decide +kernel
theorem dL_law_707 : decode bL_law 707 = .ok (.iadd, 1) := by decide +kernel
theorem dL_law_708 : decode bL_law 708 = .ok (.iaload, 1) := by decide +kernel
theorem dL_law_709 : decode bL_law 709 = .ok (.aload_n 0, 1) := by decide +kernel
theorem dL_law_710 : decode bL_law 710 = .ok (.iload 4, 2) := by decide +kernel
theorem dL_law_712 : decode bL_law 712 = .ok (.iconst 2, 1) := by decide +kernel
theorem dL_law_713 : decode bL_law 713 = .ok (.iadd, 1) := by decide +kernel
theorem dL_law_714 : decode bL_law 714 = .ok (.iaload, 1) := by decide +kernel
theorem dL_law_715 : decode bL_law 715 = .ok (.invokevirtual 93, 3) := by decide +kernel
theorem dL_law_718 : decode bL_law 718 = .ok (.if_icmp .eq 135, 3) := by decide +kernel
theorem dL_law_721 : decode bL_law 721 = .ok (.iconst 0, 1) := by decide +kernel
theorem dL_law_722 : decode bL_law 722 = .ok (.ireturn, 1) := by decide +kernel
theorem dL_law_723 : decode bL_law 723 = .ok (.aload_n 1, 1) := by decide +kernel
theorem dL_law_724 : decode bL_law 724 = .ok (.aload_n 0, 1) := by decide +kernel
theorem dL_law_725 : decode bL_law 725 = .ok (.iload 4, 2) := by decide +kernel
theorem dL_law_727 : decode bL_law 727 = .ok (.iconst 1, 1) := by decide +kernel
theorem dL_law_728 : decode bL_law 728 = .ok (.iadd, 1) := by decide +kernel
theorem dL_law_729 : decode bL_law 729 = .ok (.iaload, 1) := by decide +kernel
theorem dL_law_730 : decode bL_law 730 = .ok (.aload_n 0, 1) := by decide +kernel
theorem dL_law_731 : decode bL_law 731 = .ok (.iload 4, 2) := by decide +kernel
theorem dL_law_733 : decode bL_law 733 = .ok (.iconst 2, 1) := by decide +kernel
theorem dL_law_734 : decode bL_law 734 = .ok (.iadd, 1) := by decide +kernel
theorem dL_law_735 : decode bL_law 735 = .ok (.iaload, 1) := by decide +kernel
theorem dL_law_736 : decode bL_law 736 = .ok (.aload_n 0, 1) := by decide +kernel
theorem dL_law_737 : decode bL_law 737 = .ok (.iload 4, 2) := by decide +kernel
theorem dL_law_739 : decode bL_law 739 = .ok (.iconst 3, 1) := by decide +kernel
theorem dL_law_740 : decode bL_law 740 = .ok (.iadd, 1) := by decide +kernel
theorem dL_law_741 : decode bL_law 741 = .ok (.iaload, 1) := by decide +kernel
theorem dL_law_742 : decode bL_law 742 = .ok (.invokevirtual 94, 3) := by decide +kernel
theorem dL_law_745 : decode bL_law 745 = .ok (.aload_n 2, 1) := by decide +kernel
theorem dL_law_746 : decode bL_law 746 = .ok (.aload_n 0, 1) := by decide +kernel
theorem dL_law_747 : decode bL_law 747 = .ok (.iload 4, 2) := by decide +kernel
theorem dL_law_749 : decode bL_law 749 = .ok (.iconst 1, 1) := by decide +kernel
theorem dL_law_750 : decode bL_law 750 = .ok (.iadd, 1) := by decide +kernel
theorem dL_law_751 : decode bL_law 751 = .ok (.iaload, 1) := by decide +kernel
theorem dL_law_752 : decode bL_law 752 = .ok (.aload_n 0, 1) := by decide +kernel
theorem dL_law_753 : decode bL_law 753 = .ok (.iload 4, 2) := by decide +kernel
theorem dL_law_755 : decode bL_law 755 = .ok (.iconst 2, 1) := by decide +kernel
theorem dL_law_756 : decode bL_law 756 = .ok (.iadd, 1) := by decide +kernel
theorem dL_law_757 : decode bL_law 757 = .ok (.iaload, 1) := by decide +kernel
theorem dL_law_758 : decode bL_law 758 = .ok (.aload_n 0, 1) := by decide +kernel
theorem dL_law_759 : decode bL_law 759 = .ok (.iload 4, 2) := by decide +kernel
theorem dL_law_761 : decode bL_law 761 = .ok (.iconst 3, 1) := by decide +kernel
theorem dL_law_762 : decode bL_law 762 = .ok (.iadd, 1) := by decide +kernel
theorem dL_law_763 : decode bL_law 763 = .ok (.iaload, 1) := by decide +kernel
theorem dL_law_764 : decode bL_law 764 = .ok (.invokevirtual 98, 3) := by decide +kernel
theorem dL_law_767 : decode bL_law 767 = .ok (.if_icmp .eq 86, 3) := by decide +kernel
theorem dL_law_770 : decode bL_law 770 = .ok (.iconst 0, 1) := by decide +kernel
theorem dL_law_771 : decode bL_law 771 = .ok (.ireturn, 1) := by decide +kernel
theorem dL_law_772 : decode bL_law 772 = .ok (.aload_n 1, 1) := by decide +kernel
theorem dL_law_773 : decode bL_law 773 = .ok (.aload_n 0, 1) := by decide +kernel
theorem dL_law_774 : decode bL_law 774 = .ok (.iload 4, 2) := by decide +kernel
theorem dL_law_776 : decode bL_law 776 = .ok (.iconst 1, 1) := by decide +kernel
theorem dL_law_777 : decode bL_law 777 = .ok (.iadd, 1) := by decide +kernel
theorem dL_law_778 : decode bL_law 778 = .ok (.iaload, 1) := by decide +kernel
theorem dL_law_779 : decode bL_law 779 = .ok (.aload_n 3, 1) := by decide +kernel
theorem dL_law_780 : decode bL_law 780 = .ok (.invokestatic 99, 3) := by decide +kernel
theorem dL_law_783 : decode bL_law 783 = .ok (.istore 5, 2) := by decide +kernel
theorem dL_law_785 : decode bL_law 785 = .ok (.aload_n 2, 1) := by decide +kernel
theorem dL_law_786 : decode bL_law 786 = .ok (.aload_n 0, 1) := by decide +kernel
theorem dL_law_787 : decode bL_law 787 = .ok (.iload 4, 2) := by decide +kernel
theorem dL_law_789 : decode bL_law 789 = .ok (.iconst 1, 1) := by decide +kernel
theorem dL_law_790 : decode bL_law 790 = .ok (.iadd, 1) := by decide +kernel
theorem dL_law_791 : decode bL_law 791 = .ok (.iaload, 1) := by decide +kernel
theorem dL_law_792 : decode bL_law 792 = .ok (.invokevirtual 101, 3) := by decide +kernel
theorem dL_law_795 : decode bL_law 795 = .ok (.istore 6, 2) := by decide +kernel
theorem dL_law_797 : decode bL_law 797 = .ok (.aload_n 2, 1) := by decide +kernel
theorem dL_law_798 : decode bL_law 798 = .ok (.invokevirtual 53, 3) := by decide +kernel
theorem dL_law_801 : decode bL_law 801 = .ok (.iload 5, 2) := by decide +kernel
theorem dL_law_803 : decode bL_law 803 = .ok (.if_icmp .eq 5, 3) := by decide +kernel
theorem dL_law_806 : decode bL_law 806 = .ok (.iconst 0, 1) := by decide +kernel
theorem dL_law_807 : decode bL_law 807 = .ok (.ireturn, 1) := by decide +kernel
theorem dL_law_808 : decode bL_law 808 = .ok (.iload 5, 2) := by decide +kernel
theorem dL_law_810 : decode bL_law 810 = .ok (.ifCond .ne 15, 3) := by decide +kernel
theorem dL_law_813 : decode bL_law 813 = .ok (.aload_n 3, 1) := by decide +kernel
theorem dL_law_814 : decode bL_law 814 = .ok (.iconst 0, 1) := by decide +kernel
theorem dL_law_815 : decode bL_law 815 = .ok (.laload, 1) := by decide +kernel
theorem dL_law_816 : decode bL_law 816 = .ok (.iload 6, 2) := by decide +kernel
theorem dL_law_818 : decode bL_law 818 = .ok (.i2l, 1) := by decide +kernel
theorem dL_law_819 : decode bL_law 819 = .ok (.lcmp, 1) := by decide +kernel
theorem dL_law_820 : decode bL_law 820 = .ok (.ifCond .eq 5, 3) := by decide +kernel
theorem dL_law_823 : decode bL_law 823 = .ok (.iconst 0, 1) := by decide +kernel
theorem dL_law_824 : decode bL_law 824 = .ok (.ireturn, 1) := by decide +kernel
theorem dL_law_825 : decode bL_law 825 = .ok (.goto 28, 3) := by decide +kernel
theorem dL_law_828 : decode bL_law 828 = .ok (.aload_n 1, 1) := by decide +kernel
theorem dL_law_829 : decode bL_law 829 = .ok (.aload_n 0, 1) := by decide +kernel
theorem dL_law_830 : decode bL_law 830 = .ok (.iload 4, 2) := by decide +kernel
theorem dL_law_832 : decode bL_law 832 = .ok (.iconst 1, 1) := by decide +kernel
theorem dL_law_833 : decode bL_law 833 = .ok (.iadd, 1) := by decide +kernel
theorem dL_law_834 : decode bL_law 834 = .ok (.iaload, 1) := by decide +kernel
theorem dL_law_835 : decode bL_law 835 = .ok (.invokevirtual 102, 3) := by decide +kernel
theorem dL_law_838 : decode bL_law 838 = .ok (.aload_n 2, 1) := by decide +kernel
theorem dL_law_839 : decode bL_law 839 = .ok (.aload_n 0, 1) := by decide +kernel
theorem dL_law_840 : decode bL_law 840 = .ok (.iload 4, 2) := by decide +kernel
theorem dL_law_842 : decode bL_law 842 = .ok (.iconst 1, 1) := by decide +kernel
theorem dL_law_843 : decode bL_law 843 = .ok (.iadd, 1) := by decide +kernel
theorem dL_law_844 : decode bL_law 844 = .ok (.iaload, 1) := by decide +kernel
theorem dL_law_845 : decode bL_law 845 = .ok (.invokevirtual 105, 3) := by decide +kernel
theorem dL_law_848 : decode bL_law 848 = .ok (.if_icmp .eq 5, 3) := by decide +kernel
theorem dL_law_851 : decode bL_law 851 = .ok (.iconst 0, 1) := by decide +kernel
theorem dL_law_852 : decode bL_law 852 = .ok (.ireturn, 1) := by decide +kernel
theorem dL_law_853 : decode bL_law 853 = .ok (.iinc 4 6, 3) := by decide +kernel
theorem dL_law_856 : decode bL_law 856 = .ok (.goto (-833), 3) := by decide +kernel
theorem dL_law_859 : decode bL_law 859 = .ok (.iconst 1, 1) := by decide +kernel
theorem dL_law_860 : decode bL_law 860 = .ok (.ireturn, 1) := by decide +kernel
theorem dL_print_0 : decode bL_print 0 = .ok (.aload_n 2, 1) := by decide +kernel
theorem dL_print_1 : decode bL_print 1 = .ok (.iconst 0, 1) := by decide +kernel
theorem dL_print_2 : decode bL_print 2 = .ok (.aload_n 0, 1) := by decide +kernel
theorem dL_print_3 : decode bL_print 3 = .ok (.iload_n 1, 1) := by decide +kernel
theorem dL_print_4 : decode bL_print 4 = .ok (.invokevirtual 40, 3) := by decide +kernel
theorem dL_print_7 : decode bL_print 7 = .ok (.i2l, 1) := by decide +kernel
theorem dL_print_8 : decode bL_print 8 = .ok (.lastore, 1) := by decide +kernel
theorem dL_print_9 : decode bL_print 9 = .ok (.goto 6, 3) := by decide +kernel
theorem dL_print_12 : decode bL_print 12 = .ok (.astore_n 3, 1) := by decide +kernel
theorem dL_print_13 : decode bL_print 13 = .ok (.iconst 1, 1) := by decide +kernel
theorem dL_print_14 : decode bL_print 14 = .ok (.ireturn, 1) := by decide +kernel
theorem dL_print_15 : decode bL_print 15 = .ok (.iconst 0, 1) := by decide +kernel
theorem dL_print_16 : decode bL_print 16 = .ok (.ireturn, 1) := by decide +kernel
theorem dL_field_0 : decode bL_field 0 = .ok (.aload_n 0, 1) := by decide +kernel
theorem dL_field_1 : decode bL_field 1 = .ok (.iload_n 1, 1) := by decide +kernel
theorem dL_field_2 : decode bL_field 2 = .ok (.iload_n 2, 1) := by decide +kernel
theorem dL_field_3 : decode bL_field 3 = .ok (.iload_n 3, 1) := by decide +kernel
theorem dL_field_4 : decode bL_field 4 = .ok (.invokevirtual 7, 3) := by decide +kernel
theorem dL_field_7 : decode bL_field 7 = .ok (.goto 7, 3) := by decide +kernel
theorem dL_field_10 : decode bL_field 10 = .ok (.astore 4, 2) := by decide +kernel
theorem dL_field_12 : decode bL_field 12 = .ok (.iconst 1, 1) := by decide +kernel
theorem dL_field_13 : decode bL_field 13 = .ok (.ireturn, 1) := by decide +kernel
theorem dL_field_14 : decode bL_field 14 = .ok (.iconst 0, 1) := by decide +kernel
theorem dL_field_15 : decode bL_field 15 = .ok (.ireturn, 1) := by decide +kernel
theorem dL_read_0 : decode bL_read 0 = .ok (.aload_n 2, 1) := by decide +kernel
theorem dL_read_1 : decode bL_read 1 = .ok (.iconst 0, 1) := by decide +kernel
theorem dL_read_2 : decode bL_read 2 = .ok (.aload_n 0, 1) := by decide +kernel
theorem dL_read_3 : decode bL_read 3 = .ok (.iload_n 1, 1) := by decide +kernel
theorem dL_read_4 : decode bL_read 4 = .ok (.invokevirtual 15, 3) := by decide +kernel
theorem dL_read_7 : decode bL_read 7 = .ok (.i2l, 1) := by decide +kernel
theorem dL_read_8 : decode bL_read 8 = .ok (.lastore, 1) := by decide +kernel
theorem dL_read_9 : decode bL_read 9 = .ok (.goto 9, 3) := by decide +kernel
theorem dL_read_12 : decode bL_read 12 = .ok (.astore_n 3, 1) := by decide +kernel
theorem dL_read_13 : decode bL_read 13 = .ok (.iconst 1, 1) := by decide +kernel
theorem dL_read_14 : decode bL_read 14 = .ok (.ireturn, 1) := by decide +kernel
theorem dL_read_15 : decode bL_read 15 = .ok (.astore_n 3, 1) := by decide +kernel
theorem dL_read_16 : decode bL_read 16 = .ok (.iconst 2, 1) := by decide +kernel
theorem dL_read_17 : decode bL_read 17 = .ok (.ireturn, 1) := by decide +kernel
theorem dL_read_18 : decode bL_read 18 = .ok (.iconst 0, 1) := by decide +kernel
theorem dL_read_19 : decode bL_read 19 = .ok (.ireturn, 1) := by decide +kernel
theorem dL_add_0 : decode bL_add 0 = .ok (.aload_n 0, 1) := by decide +kernel
theorem dL_add_1 : decode bL_add 1 = .ok (.iload_n 1, 1) := by decide +kernel
theorem dL_add_2 : decode bL_add 2 = .ok (.iload_n 2, 1) := by decide +kernel
theorem dL_add_3 : decode bL_add 3 = .ok (.iload_n 3, 1) := by decide +kernel
theorem dL_add_4 : decode bL_add 4 = .ok (.iload 4, 2) := by decide +kernel
theorem dL_add_6 : decode bL_add 6 = .ok (.invokevirtual 21, 3) := by decide +kernel
theorem dL_add_9 : decode bL_add 9 = .ok (.goto 7, 3) := by decide +kernel
theorem dL_add_12 : decode bL_add 12 = .ok (.astore 5, 2) := by decide +kernel
theorem dL_add_14 : decode bL_add 14 = .ok (.iconst 1, 1) := by decide +kernel
theorem dL_add_15 : decode bL_add 15 = .ok (.ireturn, 1) := by decide +kernel
theorem dL_add_16 : decode bL_add 16 = .ok (.iconst 0, 1) := by decide +kernel
theorem dL_add_17 : decode bL_add 17 = .ok (.ireturn, 1) := by decide +kernel
theorem dL_multiply_0 : decode bL_multiply 0 = .ok (.aload_n 0, 1) := by decide +kernel
theorem dL_multiply_1 : decode bL_multiply 1 = .ok (.iload_n 1, 1) := by decide +kernel
theorem dL_multiply_2 : decode bL_multiply 2 = .ok (.iload_n 2, 1) := by decide +kernel
theorem dL_multiply_3 : decode bL_multiply 3 = .ok (.iload_n 3, 1) := by decide +kernel
theorem dL_multiply_4 : decode bL_multiply 4 = .ok (.invokevirtual 25, 3) := by decide +kernel
theorem dL_multiply_7 : decode bL_multiply 7 = .ok (.goto 11, 3) := by decide +kernel
theorem dL_multiply_10 : decode bL_multiply 10 = .ok (.astore 4, 2) := by decide +kernel
theorem dL_multiply_12 : decode bL_multiply 12 = .ok (.iconst 1, 1) := by decide +kernel
theorem dL_multiply_13 : decode bL_multiply 13 = .ok (.ireturn, 1) := by decide +kernel
theorem dL_multiply_14 : decode bL_multiply 14 = .ok (.astore 4, 2) := by decide +kernel
theorem dL_multiply_16 : decode bL_multiply 16 = .ok (.iconst 2, 1) := by decide +kernel
theorem dL_multiply_17 : decode bL_multiply 17 = .ok (.ireturn, 1) := by decide +kernel
theorem dL_multiply_18 : decode bL_multiply 18 = .ok (.iconst 0, 1) := by decide +kernel
theorem dL_multiply_19 : decode bL_multiply 19 = .ok (.ireturn, 1) := by decide +kernel
theorem dL_derive_0 : decode bL_derive 0 = .ok (.aload_n 0, 1) := by decide +kernel
theorem dL_derive_1 : decode bL_derive 1 = .ok (.iload_n 1, 1) := by decide +kernel
theorem dL_derive_2 : decode bL_derive 2 = .ok (.iload_n 2, 1) := by decide +kernel
theorem dL_derive_3 : decode bL_derive 3 = .ok (.iload_n 3, 1) := by decide +kernel
theorem dL_derive_4 : decode bL_derive 4 = .ok (.invokevirtual 30, 3) := by decide +kernel
theorem dL_derive_7 : decode bL_derive 7 = .ok (.goto 7, 3) := by decide +kernel
theorem dL_derive_10 : decode bL_derive 10 = .ok (.astore 4, 2) := by decide +kernel
theorem dL_derive_12 : decode bL_derive 12 = .ok (.iconst 1, 1) := by decide +kernel
theorem dL_derive_13 : decode bL_derive 13 = .ok (.ireturn, 1) := by decide +kernel
theorem dL_derive_14 : decode bL_derive 14 = .ok (.iconst 0, 1) := by decide +kernel
theorem dL_derive_15 : decode bL_derive 15 = .ok (.ireturn, 1) := by decide +kernel
theorem dL_set_0 : decode bL_set 0 = .ok (.aload_n 0, 1) := by decide +kernel
theorem dL_set_1 : decode bL_set 1 = .ok (.iload_n 1, 1) := by decide +kernel
theorem dL_set_2 : decode bL_set 2 = .ok (.iload_n 2, 1) := by decide +kernel
theorem dL_set_3 : decode bL_set 3 = .ok (.iload_n 3, 1) := by decide +kernel
theorem dL_set_4 : decode bL_set 4 = .ok (.iload 4, 2) := by decide +kernel
theorem dL_set_6 : decode bL_set 6 = .ok (.invokevirtual 33, 3) := by decide +kernel
theorem dL_set_9 : decode bL_set 9 = .ok (.goto 7, 3) := by decide +kernel
theorem dL_set_12 : decode bL_set 12 = .ok (.astore 5, 2) := by decide +kernel
theorem dL_set_14 : decode bL_set 14 = .ok (.iconst 1, 1) := by decide +kernel
theorem dL_set_15 : decode bL_set 15 = .ok (.ireturn, 1) := by decide +kernel
theorem dL_set_16 : decode bL_set 16 = .ok (.iconst 0, 1) := by decide +kernel
theorem dL_set_17 : decode bL_set 17 = .ok (.ireturn, 1) := by decide +kernel
theorem dL_value_0 : decode bL_value 0 = .ok (.aload 6, 2) := by decide +kernel
theorem dL_value_2 : decode bL_value 2 = .ok (.iconst 0, 1) := by decide +kernel
theorem dL_value_3 : decode bL_value 3 = .ok (.aload_n 0, 1) := by decide +kernel
theorem dL_value_4 : decode bL_value 4 = .ok (.iload_n 1, 1) := by decide +kernel
theorem dL_value_5 : decode bL_value 5 = .ok (.iload_n 2, 1) := by decide +kernel
theorem dL_value_6 : decode bL_value 6 = .ok (.iload_n 3, 1) := by decide +kernel
theorem dL_value_7 : decode bL_value 7 = .ok (.iload 4, 2) := by decide +kernel
theorem dL_value_9 : decode bL_value 9 = .ok (.iload 5, 2) := by decide +kernel
theorem dL_value_11 : decode bL_value 11 = .ok (.invokevirtual 36, 3) := by decide +kernel
theorem dL_value_14 : decode bL_value 14 = .ok (.i2l, 1) := by decide +kernel
theorem dL_value_15 : decode bL_value 15 = .ok (.lastore, 1) := by decide +kernel
theorem dL_value_16 : decode bL_value 16 = .ok (.goto 7, 3) := by decide +kernel
theorem dL_value_19 : decode bL_value 19 = .ok (.astore 7, 2) := by decide +kernel
theorem dL_value_21 : decode bL_value 21 = .ok (.iconst 1, 1) := by decide +kernel
theorem dL_value_22 : decode bL_value 22 = .ok (.ireturn, 1) := by decide +kernel
theorem dL_value_23 : decode bL_value 23 = .ok (.iconst 0, 1) := by decide +kernel
theorem dL_value_24 : decode bL_value 24 = .ok (.ireturn, 1) := by decide +kernel
