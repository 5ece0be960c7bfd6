theorem dX11_entered_17 : decode cX11_entered 17 = .ok (.ireturn, 1) := by decide +kernel
theorem dX11_entered_18 : decode cX11_entered 18 = .ok (.sipush 400, 3) := by decide +kernel
theorem dX11_entered_21 : decode cX11_entered 21 = .ok (.aload_n 0, 1) := by decide +kernel
theorem dX11_entered_22 : decode cX11_entered 22 = .ok (.getfield 237, 3) := by decide +kernel
theorem dX11_entered_25 : decode cX11_entered 25 = .ok (.imul, 1) := by decide +kernel
theorem dX11_entered_26 : decode cX11_entered 26 = .ok (.istore 5, 2) := by decide +kernel
theorem dX11_entered_28 : decode cX11_entered 28 = .ok (.aload_n 0, 1) := by decide +kernel
theorem dX11_entered_29 : decode cX11_entered 29 = .ok (.iload_n 1, 1) := by decide +kernel
theorem dX11_entered_30 : decode cX11_entered 30 = .ok (.iload 5, 2) := by decide +kernel
theorem dX11_entered_32 : decode cX11_entered 32 = .ok (.invokevirtual 326, 3) := by decide +kernel
theorem dX11_entered_35 : decode cX11_entered 35 = .ok (.istore 6, 2) := by decide +kernel
theorem dX11_entered_37 : decode cX11_entered 37 = .ok (.iload 6, 2) := by decide +kernel
theorem dX11_entered_39 : decode cX11_entered 39 = .ok (.ifCond .ne 12, 3) := by decide +kernel
theorem dX11_entered_42 : decode cX11_entered 42 = .ok (.aload_n 0, 1) := by decide +kernel
theorem dX11_entered_43 : decode cX11_entered 43 = .ok (.bipush 11, 2) := by decide +kernel
theorem dX11_entered_45 : decode cX11_entered 45 = .ok (.iload_n 1, 1) := by decide +kernel
theorem dX11_entered_46 : decode cX11_entered 46 = .ok (.invokevirtual 254, 3) := by decide +kernel
theorem dX11_entered_49 : decode cX11_entered 49 = .ok (.iconst 0, 1) := by decide +kernel
theorem dX11_entered_50 : decode cX11_entered 50 = .ok (.ireturn, 1) := by decide +kernel
theorem dX11_entered_51 : decode cX11_entered 51 = .ok (.aload_n 0, 1) := by decide +kernel
theorem dX11_entered_52 : decode cX11_entered 52 = .ok (.getfield 71, 3) := by decide +kernel
theorem dX11_entered_55 : decode cX11_entered 55 = .ok (.iconst 0, 1) := by decide +kernel
theorem dX11_entered_56 : decode cX11_entered 56 = .ok (.iaload, 1) := by decide +kernel
theorem dX11_entered_57 : decode cX11_entered 57 = .ok (.ifCond .le 26, 3) := by decide +kernel
theorem dX11_entered_60 : decode cX11_entered 60 = .ok (.aload_n 0, 1) := by decide +kernel
theorem dX11_entered_61 : decode cX11_entered 61 = .ok (.getfield 59, 3) := by decide +kernel
theorem dX11_entered_64 : decode cX11_entered 64 = .ok (.iload 5, 2) := by decide +kernel
theorem dX11_entered_66 : decode cX11_entered 66 = .ok (.aload_n 0, 1) := by decide +kernel
theorem dX11_entered_67 : decode cX11_entered 67 = .ok (.getfield 68, 3) := by decide +kernel
theorem dX11_entered_70 : decode cX11_entered 70 = .ok (.iconst 0, 1) := by decide +kernel
theorem dX11_entered_71 : decode cX11_entered 71 = .ok (.aload_n 0, 1) := by decide +kernel
theorem dX11_entered_72 : decode cX11_entered 72 = .ok (.getfield 71, 3) := by decide +kernel
theorem dX11_entered_75 : decode cX11_entered 75 = .ok (.iconst 0, 1) := by decide +kernel
theorem dX11_entered_76 : decode cX11_entered 76 = .ok (.iaload, 1) := by decide +kernel
theorem dX11_entered_77 : decode cX11_entered 77 = .ok (.invokestatic 315, 3) := by decide +kernel
theorem dX11_entered_80 : decode cX11_entered 80 = .ok (.goto 52, 3) := by decide +kernel
theorem dX11_entered_83 : decode cX11_entered 83 = .ok (.aload_n 0, 1) := by decide +kernel
theorem dX11_entered_84 : decode cX11_entered 84 = .ok (.getfield 71, 3) := by decide +kernel
theorem dX11_entered_87 : decode cX11_entered 87 = .ok (.iconst 1, 1) := by decide +kernel
theorem dX11_entered_88 : decode cX11_entered 88 = .ok (.iaload, 1) := by decide +kernel
theorem dX11_entered_89 : decode cX11_entered 89 = .ok (.ifCond .le 26, 3) := by decide +kernel
theorem dX11_entered_92 : decode cX11_entered 92 = .ok (.aload_n 0, 1) := by decide +kernel
theorem dX11_entered_93 : decode cX11_entered 93 = .ok (.getfield 59, 3) := by decide +kernel
theorem dX11_entered_96 : decode cX11_entered 96 = .ok (.iload 5, 2) := by decide +kernel
theorem dX11_entered_98 : decode cX11_entered 98 = .ok (.aload_n 0, 1) := by decide +kernel
theorem dX11_entered_99 : decode cX11_entered 99 = .ok (.getfield 68, 3) := by decide +kernel
theorem dX11_entered_102 : decode cX11_entered 102 = .ok (.iconst 1, 1) := by decide +kernel
theorem dX11_entered_103 : decode cX11_entered 103 = .ok (.aload_n 0, 1) := by decide +kernel
theorem dX11_entered_104 : decode cX11_entered 104 = .ok (.getfield 71, 3) := by decide +kernel
theorem dX11_entered_107 : decode cX11_entered 107 = .ok (.iconst 1, 1) := by decide +kernel
theorem dX11_entered_108 : decode cX11_entered 108 = .ok (.iaload, 1) := by decide +kernel
theorem dX11_entered_109 : decode cX11_entered 109 = .ok (.invokestatic 315, 3) := by decide +kernel
theorem dX11_entered_112 : decode cX11_entered 112 = .ok (.goto 20, 3) := by decide +kernel
theorem dX11_entered_115 : decode cX11_entered 115 = .ok (.aload_n 0, 1) := by decide +kernel
theorem dX11_entered_116 : decode cX11_entered 116 = .ok (.aload_n 0, 1) := by decide +kernel
theorem dX11_entered_117 : decode cX11_entered 117 = .ok (.getfield 59, 3) := by decide +kernel
theorem dX11_entered_120 : decode cX11_entered 120 = .ok (.iload 5, 2) := by decide +kernel
theorem dX11_entered_122 : decode cX11_entered 122 = .ok (.iload_n 1, 1) := by decide +kernel
theorem dX11_entered_123 : decode cX11_entered 123 = .ok (.sipush 157, 3) := by decide +kernel
theorem dX11_entered_126 : decode cX11_entered 126 = .ok (.iadd, 1) := by decide +kernel
theorem dX11_entered_127 : decode cX11_entered 127 = .ok (.bipush 100, 2) := by decide +kernel
theorem dX11_entered_129 : decode cX11_entered 129 = .ok (.invokevirtual 322, 3) := by decide +kernel
theorem dX11_entered_132 : decode cX11_entered 132 = .ok (.istore 7, 2) := by decide +kernel
theorem dX11_entered_134 : decode cX11_entered 134 = .ok (.iload_n 2, 1) := by decide +kernel
theorem dX11_entered_135 : decode cX11_entered 135 = .ok (.bipush 48, 2) := by decide +kernel
theorem dX11_entered_137 : decode cX11_entered 137 = .ok (.if_icmp .ne 34, 3) := by decide +kernel
theorem dX11_entered_140 : decode cX11_entered 140 = .ok (.aload_n 0, 1) := by decide +kernel
theorem dX11_entered_141 : decode cX11_entered 141 = .ok (.iload_n 1, 1) := by decide +kernel
theorem dX11_entered_142 : decode cX11_entered 142 = .ok (.iconst 5, 1) := by decide +kernel
theorem dX11_entered_143 : decode cX11_entered 143 = .ok (.invokevirtual 319, 3) := by decide +kernel
theorem dX11_entered_146 : decode cX11_entered 146 = .ok (.ifCond .ne 25, 3) := by decide +kernel
theorem dX11_entered_149 : decode cX11_entered 149 = .ok (.aload_n 0, 1) := by decide +kernel
theorem dX11_entered_150 : decode cX11_entered 150 = .ok (.getfield 56, 3) := by decide +kernel
theorem dX11_entered_153 : decode cX11_entered 153 = .ok (.iload 5, 2) := by decide +kernel
theorem dX11_entered_155 : decode cX11_entered 155 = .ok (.iload 6, 2) := by decide +kernel
theorem dX11_entered_157 : decode cX11_entered 157 = .ok (.iadd, 1) := by decide +kernel
theorem dX11_entered_158 : decode cX11_entered 158 = .ok (.iconst 1, 1) := by decide +kernel
theorem dX11_entered_159 : decode cX11_entered 159 = .ok (.isub, 1) := by decide +kernel
theorem dX11_entered_160 : decode cX11_entered 160 = .ok (.iaload, 1) := by decide +kernel
theorem dX11_entered_161 : decode cX11_entered 161 = .ok (.bipush 47, 2) := by decide +kernel
theorem dX11_entered_163 : decode cX11_entered 163 = .ok (.if_icmp .ne 8, 3) := by decide +kernel
theorem dX11_entered_166 : decode cX11_entered 166 = .ok (.bipush 53, 2) := by decide +kernel
theorem dX11_entered_168 : decode cX11_entered 168 = .ok (.goto 4, 3) := by decide +kernel
theorem dX11_entered_171 : decode cX11_entered 171 = .ok (.iload_n 2, 1) := by decide +kernel
theorem dX11_entered_172 : decode cX11_entered 172 = .ok (.istore 8, 2) := by decide +kernel
theorem dX11_entered_174 : decode cX11_entered 174 = .ok (.bipush 12, 2) := by decide +kernel
theorem dX11_entered_176 : decode cX11_entered 176 = .ok (.aload_n 0, 1) := by decide +kernel
theorem dX11_entered_177 : decode cX11_entered 177 = .ok (.getfield 237, 3) := by decide +kernel
theorem dX11_entered_180 : decode cX11_entered 180 = .ok (.imul, 1) := by decide +kernel
theorem dX11_entered_181 : decode cX11_entered 181 = .ok (.istore 9, 2) := by decide +kernel
theorem dX11_entered_183 : decode cX11_entered 183 = .ok (.aload_n 0, 1) := by decide +kernel
theorem dX11_entered_184 : decode cX11_entered 184 = .ok (.getfield 53, 3) := by decide +kernel
theorem dX11_entered_187 : decode cX11_entered 187 = .ok (.iload 9, 2) := by decide +kernel
theorem dX11_entered_189 : decode cX11_entered 189 = .ok (.iload 8, 2) := by decide +kernel
theorem dX11_entered_191 : decode cX11_entered 191 = .ok (.i2l, 1) := by decide +kernel
theorem dX11_entered_192 : decode cX11_entered 192 = .ok (.lastore, 1) := by decide +kernel
theorem dX11_entered_193 : decode cX11_entered 193 = .ok (.aload_n 0, 1) := by decide +kernel
theorem dX11_entered_194 : decode cX11_entered 194 = .ok (.getfield 53, 3) := by decide +kernel
theorem dX11_entered_197 : decode cX11_entered 197 = .ok (.iload 9, 2) := by decide +kernel
theorem dX11_entered_199 : decode cX11_entered 199 = .ok (.iconst 1, 1) := by decide +kernel
theorem dX11_entered_200 : decode cX11_entered 200 = .ok (.iadd, 1) := by decide +kernel
theorem dX11_entered_201 : decode cX11_entered 201 = .ok (.aload_n 0, 1) := by decide +kernel
theorem dX11_entered_202 : decode cX11_entered 202 = .ok (.getfield 81, 3) := by decide +kernel
theorem dX11_entered_205 : decode cX11_entered 205 = .ok (.iconst 0, 1) := by decide +kernel
theorem dX11_entered_206 : decode cX11_entered 206 = .ok (.laload, 1) := by decide +kernel
theorem dX11_entered_207 : decode cX11_entered 207 = .ok (.lastore, 1) := by decide +kernel
theorem dX11_entered_208 : decode cX11_entered 208 = .ok (.aload_n 0, 1) := by decide +kernel
theorem dX11_entered_209 : decode cX11_entered 209 = .ok (.getfield 53, 3) := by decide +kernel
theorem dX11_entered_212 : decode cX11_entered 212 = .ok (.iload 9, 2) := by decide +kernel
theorem dX11_entered_214 : decode cX11_entered 214 = .ok (.iconst 2, 1) := by decide +kernel
theorem dX11_entered_215 : decode cX11_entered 215 = .ok (.iadd, 1) := by decide +kernel
theorem dX11_entered_216 : decode cX11_entered 216 = .ok (.aload_n 0, 1) := by decide +kernel
theorem dX11_entered_217 : decode cX11_entered 217 = .ok (.getfield 74, 3) := by decide +kernel
theorem dX11_entered_220 : decode cX11_entered 220 = .ok (.iconst 0, 1) := by decide +kernel
theorem dX11_entered_221 : decode cX11_entered 221 = .ok (.baload, 1) := by decide +kernel
theorem dX11_entered_222 : decode cX11_entered 222 = .ok (.ifCond .eq 12, 3) := by decide +kernel
theorem dX11_entered_225 : decode cX11_entered 225 = .ok (.aload_n 0, 1) := by decide +kernel
theorem dX11_entered_226 : decode cX11_entered 226 = .ok (.getfield 78, 3) := by decide +kernel
theorem dX11_entered_229 : decode cX11_entered 229 = .ok (.iconst 0, 1) := by decide +kernel
theorem dX11_entered_230 : decode cX11_entered 230 = .ok (.laload, 1) := by decide +kernel
theorem dX11_entered_231 : decode cX11_entered 231 = .ok (.goto 27, 3) := by decide +kernel
theorem dX11_entered_234 : decode cX11_entered 234 = .ok (.aload_n 0, 1) := by decide +kernel
theorem dX11_entered_235 : decode cX11_entered 235 = .ok (.getfield 74, 3) := by decide +kernel
theorem dX11_entered_238 : decode cX11_entered 238 = .ok (.iconst 4, 1) := by decide +kernel
theorem dX11_entered_239 : decode cX11_entered 239 = .ok (.baload, 1) := by decide +kernel
theorem dX11_entered_240 : decode cX11_entered 240 = .ok (.ifCond .eq 12, 3) := by decide +kernel
theorem dX11_entered_243 : decode cX11_entered 243 = .ok (.aload_n 0, 1) := by decide +kernel
theorem dX11_entered_244 : decode cX11_entered 244 = .ok (.getfield 78, 3) := by decide +kernel
theorem dX11_entered_247 : decode cX11_entered 247 = .ok (.iconst 5, 1) := by decide +kernel
theorem dX11_entered_248 : decode cX11_entered 248 = .ok (.laload, 1) := by decide +kernel
theorem dX11_entered_249 : decode cX11_entered 249 = .ok (.goto 9, 3) := by decide +kernel
theorem dX11_entered_252 : decode cX11_entered 252 = .ok (.aload_n 0, 1) := by decide +kernel
theorem dX11_entered_253 : decode cX11_entered 253 = .ok (.getfield 81, 3) := by decide +kernel
theorem dX11_entered_256 : decode cX11_entered 256 = .ok (.iconst 1, 1) := by decide +kernel
theorem dX11_entered_257 : decode cX11_entered 257 = .ok (.laload, 1) := by decide +kernel
theorem dX11_entered_258 : decode cX11_entered 258 = .ok (.lastore, 1) := by decide +kernel
theorem dX11_entered_259 : decode cX11_entered 259 = .ok (.aload_n 0, 1) := by decide +kernel
theorem dX11_entered_260 : decode cX11_entered 260 = .ok (.getfield 53, 3) := by decide +kernel
theorem dX11_entered_263 : decode cX11_entered 263 = .ok (.iload 9, 2) := by decide +kernel
theorem dX11_entered_265 : decode cX11_entered 265 = .ok (.iconst 3, 1) := by decide +kernel
theorem dX11_entered_266 : decode cX11_entered 266 = .ok (.iadd, 1) := by decide +kernel
theorem dX11_entered_267 : decode cX11_entered 267 = .ok (.aload_n 0, 1) := by decide +kernel
theorem dX11_entered_268 : decode cX11_entered 268 = .ok (.getfield 74, 3) := by decide +kernel
theorem dX11_entered_271 : decode cX11_entered 271 = .ok (.iconst 1, 1) := by decide +kernel
theorem dX11_entered_272 : decode cX11_entered 272 = .ok (.baload, 1) := by decide +kernel
theorem dX11_entered_273 : decode cX11_entered 273 = .ok (.ifCond .eq 12, 3) := by decide +kernel
theorem dX11_entered_276 : decode cX11_entered 276 = .ok (.aload_n 0, 1) := by decide +kernel
theorem dX11_entered_277 : decode cX11_entered 277 = .ok (.getfield 78, 3) := by decide +kernel
theorem dX11_entered_280 : decode cX11_entered 280 = .ok (.iconst 1, 1) := by decide +kernel
theorem dX11_entered_281 : decode cX11_entered 281 = .ok (.laload, 1) := by decide +kernel
theorem dX11_entered_282 : decode cX11_entered 282 = .ok (.goto 28, 3) := by decide +kernel
theorem dX11_entered_285 : decode cX11_entered 285 = .ok (.aload_n 0, 1) := by decide +kernel
theorem dX11_entered_286 : decode cX11_entered 286 = .ok (.getfield 74, 3) := by decide +kernel
theorem dX11_entered_289 : decode cX11_entered 289 = .ok (.iconst 5, 1) := by decide +kernel
theorem dX11_entered_290 : decode cX11_entered 290 = .ok (.baload, 1) := by decide +kernel
theorem dX11_entered_291 : decode cX11_entered 291 = .ok (.ifCond .eq 13, 3) := by decide +kernel
theorem dX11_entered_294 : decode cX11_entered 294 = .ok (.aload_n 0, 1) := by decide +kernel
theorem dX11_entered_295 : decode cX11_entered 295 = .ok (.getfield 78, 3) := by decide +kernel
theorem dX11_entered_298 : decode cX11_entered 298 = .ok (.bipush 6, 2) := by decide +kernel
theorem dX11_entered_300 : decode cX11_entered 300 = .ok (.laload, 1) := by decide +kernel
theorem dX11_entered_301 : decode cX11_entered 301 = .ok (.goto 9, 3) := by decide +kernel
theorem dX11_entered_304 : decode cX11_entered 304 = .ok (.aload_n 0, 1) := by decide +kernel
theorem dX11_entered_305 : decode cX11_entered 305 = .ok (.getfield 81, 3) := by decide +kernel
theorem dX11_entered_308 : decode cX11_entered 308 = .ok (.iconst 2, 1) := by decide +kernel
theorem dX11_entered_309 : decode cX11_entered 309 = .ok (.laload, 1) := by decide +kernel
theorem dX11_entered_310 : decode cX11_entered 310 = .ok (.lastore, 1) := by decide +kernel
theorem dX11_entered_311 : decode cX11_entered 311 = .ok (.aload_n 0, 1) := by decide +kernel
theorem dX11_entered_312 : decode cX11_entered 312 = .ok (.getfield 53, 3) := by decide +kernel
theorem dX11_entered_315 : decode cX11_entered 315 = .ok (.iload 9, 2) := by decide +kernel
theorem dX11_entered_317 : decode cX11_entered 317 = .ok (.iconst 4, 1) := by decide +kernel
theorem dX11_entered_318 : decode cX11_entered 318 = .ok (.iadd, 1) := by decide +kernel
theorem dX11_entered_319 : decode cX11_entered 319 = .ok (.lload_n 3, 1) := by decide +kernel
theorem dX11_entered_320 : decode cX11_entered 320 = .ok (.lastore, 1) := by decide +kernel
theorem dX11_entered_321 : decode cX11_entered 321 = .ok (.aload_n 0, 1) := by decide +kernel
theorem dX11_entered_322 : decode cX11_entered 322 = .ok (.getfield 53, 3) := by decide +kernel
theorem dX11_entered_325 : decode cX11_entered 325 = .ok (.iload 9, 2) := by decide +kernel
theorem dX11_entered_327 : decode cX11_entered 327 = .ok (.iconst 5, 1) := by decide +kernel
theorem dX11_entered_328 : decode cX11_entered 328 = .ok (.iadd, 1) := by decide +kernel
theorem dX11_entered_329 : decode cX11_entered 329 = .ok (.aload_n 0, 1) := by decide +kernel
theorem dX11_entered_330 : decode cX11_entered 330 = .ok (.getfield 74, 3) := by decide +kernel
theorem dX11_entered_333 : decode cX11_entered 333 = .ok (.iconst 3, 1) := by decide +kernel
theorem dX11_entered_334 : decode cX11_entered 334 = .ok (.baload, 1) := by decide +kernel
theorem dX11_entered_335 : decode cX11_entered 335 = .ok (.ifCond .eq 12, 3) := by decide +kernel
theorem dX11_entered_338 : decode cX11_entered 338 = .ok (.aload_n 0, 1) := by decide +kernel
theorem dX11_entered_339 : decode cX11_entered 339 = .ok (.getfield 78, 3) := by decide +kernel
theorem dX11_entered_342 : decode cX11_entered 342 = .ok (.iconst 3, 1) := by decide +kernel
theorem dX11_entered_343 : decode cX11_entered 343 = .ok (.laload, 1) := by decide +kernel
theorem dX11_entered_344 : decode cX11_entered 344 = .ok (.goto 29, 3) := by decide +kernel
theorem dX11_entered_347 : decode cX11_entered 347 = .ok (.aload_n 0, 1) := by decide +kernel
theorem dX11_entered_348 : decode cX11_entered 348 = .ok (.getfield 74, 3) := by decide +kernel
theorem dX11_entered_351 : decode cX11_entered 351 = .ok (.bipush 7, 2) := by decide +kernel
theorem dX11_entered_353 : decode cX11_entered 353 = .ok (.baload, 1) := by decide +kernel
theorem dX11_entered_354 : decode cX11_entered 354 = .ok (.ifCond .eq 13, 3) := by decide +kernel
theorem dX11_entered_357 : decode cX11_entered 357 = .ok (.aload_n 0, 1) := by decide +kernel
theorem dX11_entered_358 : decode cX11_entered 358 = .ok (.getfield 78, 3) := by decide +kernel
theorem dX11_entered_361 : decode cX11_entered 361 = .ok (.bipush 8, 2) := by decide +kernel
theorem dX11_entered_363 : decode cX11_entered 363 = .ok (.laload, 1) := by decide +kernel
theorem dX11_entered_364 : decode cX11_entered 364 = .ok (.goto 9, 3) := by decide +kernel
theorem dX11_entered_367 : decode cX11_entered 367 = .ok (.aload_n 0, 1) := by decide +kernel
theorem dX11_entered_368 : decode cX11_entered 368 = .ok (.getfield 81, 3) := by decide +kernel
theorem dX11_entered_371 : decode cX11_entered 371 = .ok (.iconst 4, 1) := by decide +kernel
theorem dX11_entered_372 : decode cX11_entered 372 = .ok (.laload, 1) := by decide +kernel
theorem dX11_entered_373 : decode cX11_entered 373 = .ok (.lastore, 1) := by decide +kernel
theorem dX11_entered_374 : decode cX11_entered 374 = .ok (.aload_n 0, 1) := by decide +kernel
theorem dX11_entered_375 : decode cX11_entered 375 = .ok (.getfield 53, 3) := by decide +kernel
theorem dX11_entered_378 : decode cX11_entered 378 = .ok (.iload 9, 2) := by decide +kernel
theorem dX11_entered_380 : decode cX11_entered 380 = .ok (.bipush 6, 2) := by decide +kernel
theorem dX11_entered_382 : decode cX11_entered 382 = .ok (.iadd, 1) := by decide +kernel
theorem dX11_entered_383 : decode cX11_entered 383 = .ok (.aload_n 0, 1) := by decide +kernel
theorem dX11_entered_384 : decode cX11_entered 384 = .ok (.getfield 74, 3) := by decide +kernel
theorem dX11_entered_387 : decode cX11_entered 387 = .ok (.iconst 3, 1) := by decide +kernel
theorem dX11_entered_388 : decode cX11_entered 388 = .ok (.baload, 1) := by decide +kernel
theorem dX11_entered_389 : decode cX11_entered 389 = .ok (.ifCond .eq 12, 3) := by decide +kernel
theorem dX11_entered_392 : decode cX11_entered 392 = .ok (.aload_n 0, 1) := by decide +kernel
theorem dX11_entered_393 : decode cX11_entered 393 = .ok (.getfield 78, 3) := by decide +kernel
theorem dX11_entered_396 : decode cX11_entered 396 = .ok (.iconst 4, 1) := by decide +kernel
theorem dX11_entered_397 : decode cX11_entered 397 = .ok (.laload, 1) := by decide +kernel
theorem dX11_entered_398 : decode cX11_entered 398 = .ok (.goto 24, 3) := by decide +kernel
theorem dX11_entered_401 : decode cX11_entered 401 = .ok (.aload_n 0, 1) := by decide +kernel
theorem dX11_entered_402 : decode cX11_entered 402 = .ok (.getfield 74, 3) := by decide +kernel
theorem dX11_entered_405 : decode cX11_entered 405 = .ok (.bipush 7, 2) := by decide +kernel
theorem dX11_entered_407 : decode cX11_entered 407 = .ok (.baload, 1) := by decide +kernel
theorem dX11_entered_408 : decode cX11_entered 408 = .ok (.ifCond .eq 13, 3) := by decide +kernel
theorem dX11_entered_411 : decode cX11_entered 411 = .ok (.aload_n 0, 1) := by decide +kernel
theorem dX11_entered_412 : decode cX11_entered 412 = .ok (.getfield 78, 3) := by decide +kernel
theorem dX11_entered_415 : decode cX11_entered 415 = .ok (.bipush 9, 2) := by decide +kernel
theorem dX11_entered_417 : decode cX11_entered 417 = .ok (.laload, 1) := by decide +kernel
theorem dX11_entered_418 : decode cX11_entered 418 = .ok (.goto 4, 3) := by decide +kernel
theorem dX11_entered_421 : decode cX11_entered 421 = .ok (.lconst 0, 1) := by decide +kernel
theorem dX11_entered_422 : decode cX11_entered 422 = .ok (.lastore, 1) := by decide +kernel
theorem dX11_entered_423 : decode cX11_entered 423 = .ok (.aload_n 0, 1) := by decide +kernel
theorem dX11_entered_424 : decode cX11_entered 424 = .ok (.getfield 53, 3) := by decide +kernel
theorem dX11_entered_427 : decode cX11_entered 427 = .ok (.iload 9, 2) := by decide +kernel
theorem dX11_entered_429 : decode cX11_entered 429 = .ok (.bipush 7, 2) := by decide +kernel
theorem dX11_entered_431 : decode cX11_entered 431 = .ok (.iadd, 1) := by decide +kernel
theorem dX11_entered_432 : decode cX11_entered 432 = .ok (.iload_n 1, 1) := by decide +kernel
theorem dX11_entered_433 : decode cX11_entered 433 = .ok (.i2l, 1) := by decide +kernel
theorem dX11_entered_434 : decode cX11_entered 434 = .ok (.lastore, 1) := by decide +kernel
theorem dX11_entered_435 : decode cX11_entered 435 = .ok (.aload_n 0, 1) := by decide +kernel
theorem dX11_entered_436 : decode cX11_entered 436 = .ok (.getfield 53, 3) := by decide +kernel
theorem dX11_entered_439 : decode cX11_entered 439 = .ok (.iload 9, 2) := by decide +kernel
theorem dX11_entered_441 : decode cX11_entered 441 = .ok (.bipush 8, 2) := by decide +kernel
theorem dX11_entered_443 : decode cX11_entered 443 = .ok (.iadd, 1) := by decide +kernel
theorem dX11_entered_444 : decode cX11_entered 444 = .ok (.iload_n 1, 1) := by decide +kernel
theorem dX11_entered_445 : decode cX11_entered 445 = .ok (.sipush 512, 3) := by decide +kernel
theorem dX11_entered_448 : decode cX11_entered 448 = .ok (.iadd, 1) := by decide +kernel
theorem dX11_entered_449 : decode cX11_entered 449 = .ok (.i2l, 1) := by decide +kernel
theorem dX11_entered_450 : decode cX11_entered 450 = .ok (.lastore, 1) := by decide +kernel
theorem dX11_entered_451 : decode cX11_entered 451 = .ok (.aload_n 0, 1) := by decide +kernel
theorem dX11_entered_452 : decode cX11_entered 452 = .ok (.getfield 53, 3) := by decide +kernel
theorem dX11_entered_455 : decode cX11_entered 455 = .ok (.iload 9, 2) := by decide +kernel
theorem dX11_entered_457 : decode cX11_entered 457 = .ok (.bipush 9, 2) := by decide +kernel
theorem dX11_entered_459 : decode cX11_entered 459 = .ok (.iadd, 1) := by decide +kernel
theorem dX11_entered_460 : decode cX11_entered 460 = .ok (.iload 6, 2) := by decide +kernel
theorem dX11_entered_462 : decode cX11_entered 462 = .ok (.i2l, 1) := by decide +kernel
theorem dX11_entered_463 : decode cX11_entered 463 = .ok (.lastore, 1) := by decide +kernel
theorem dX11_entered_464 : decode cX11_entered 464 = .ok (.aload_n 0, 1) := by decide +kernel
theorem dX11_entered_465 : decode cX11_entered 465 = .ok (.getfield 53, 3) := by decide +kernel
theorem dX11_entered_468 : decode cX11_entered 468 = .ok (.iload 9, 2) := by decide +kernel
theorem dX11_entered_470 : decode cX11_entered 470 = .ok (.bipush 10, 2) := by decide +kernel
theorem dX11_entered_472 : decode cX11_entered 472 = .ok (.iadd, 1) := by decide +kernel
theorem dX11_entered_473 : decode cX11_entered 473 = .ok (.iload 7, 2) := by decide +kernel
theorem dX11_entered_475 : decode cX11_entered 475 = .ok (.i2l, 1) := by decide +kernel
theorem dX11_entered_476 : decode cX11_entered 476 = .ok (.lastore, 1) := by decide +kernel
theorem dX11_entered_477 : decode cX11_entered 477 = .ok (.aload_n 0, 1) := by decide +kernel
theorem dX11_entered_478 : decode cX11_entered 478 = .ok (.getfield 53, 3) := by decide +kernel
theorem dX11_entered_481 : decode cX11_entered 481 = .ok (.iload 9, 2) := by decide +kernel
theorem dX11_entered_483 : decode cX11_entered 483 = .ok (.bipush 11, 2) := by decide +kernel
theorem dX11_entered_485 : decode cX11_entered 485 = .ok (.iadd, 1) := by decide +kernel
theorem dX11_entered_486 : decode cX11_entered 486 = .ok (.aload_n 0, 1) := by decide +kernel
theorem dX11_entered_487 : decode cX11_entered 487 = .ok (.iload 5, 2) := by decide +kernel
theorem dX11_entered_489 : decode cX11_entered 489 = .ok (.iload 6, 2) := by decide +kernel
theorem dX11_entered_491 : decode cX11_entered 491 = .ok (.iload 7, 2) := by decide +kernel
theorem dX11_entered_493 : decode cX11_entered 493 = .ok (.iload 8, 2) := by decide +kernel
theorem dX11_entered_495 : decode cX11_entered 495 = .ok (.invokevirtual 329, 3) := by decide +kernel
theorem dX11_entered_498 : decode cX11_entered 498 = .ok (.i2l, 1) := by decide +kernel
theorem dX11_entered_499 : decode cX11_entered 499 = .ok (.lastore, 1) := by decide +kernel
theorem dX11_entered_500 : decode cX11_entered 500 = .ok (.aload_n 0, 1) := by decide +kernel
theorem dX11_entered_501 : decode cX11_entered 501 = .ok (.dup, 1) := by decide +kernel
theorem dX11_entered_502 : decode cX11_entered 502 = .ok (.getfield 237, 3) := by decide +kernel
theorem dX11_entered_505 : decode cX11_entered 505 = .ok (.iconst 1, 1) := by decide +kernel
theorem dX11_entered_506 : decode cX11_entered 506 = .ok (.iadd, 1) := by decide +kernel
theorem dX11_entered_507 : decode cX11_entered 507 = .ok (.putfield 237, 3) := by decide +kernel
theorem dX11_entered_510 : decode cX11_entered 510 = .ok (.aload_n 0, 1) := by decide +kernel
theorem dX11_entered_511 : decode cX11_entered 511 = .ok (.iconst 0, 1) := by decide +kernel
theorem dX11_entered_512 : decode cX11_entered 512 = .ok (.invokevirtual 243, 3) := by decide +kernel
theorem dX11_entered_515 : decode cX11_entered 515 = .ok (.aload_n 0, 1) := by decide +kernel
theorem dX11_entered_516 : decode cX11_entered 516 = .ok (.iconst 0, 1) := by decide +kernel
theorem dX11_entered_517 : decode cX11_entered 517 = .ok (.putfield 246, 3) := by decide +kernel
theorem dX11_entered_520 : decode cX11_entered 520 = .ok (.iconst 1, 1) := by decide +kernel
theorem dX11_entered_521 : decode cX11_entered 521 = .ok (.ireturn, 1) := by decide +kernel
theorem dX11_partEnd_0 : decode cX11_partEnd 0 = .ok (.iload_n 1, 1) := by decide +kernel
theorem dX11_partEnd_1 : decode cX11_partEnd 1 = .ok (.istore_n 3, 1) := by decide +kernel
theorem dX11_partEnd_2 : decode cX11_partEnd 2 = .ok (.iload_n 3, 1) := by decide +kernel
theorem dX11_partEnd_3 : decode cX11_partEnd 3 = .ok (.iload_n 2, 1) := by decide +kernel
theorem dX11_partEnd_4 : decode cX11_partEnd 4 = .ok (.if_icmp .ge 17, 3) := by decide +kernel
theorem dX11_partEnd_7 : decode cX11_partEnd 7 = .ok (.aload_n 0, 1) := by decide +kernel
theorem dX11_partEnd_8 : decode cX11_partEnd 8 = .ok (.iload_n 3, 1) := by decide +kernel
theorem dX11_partEnd_9 : decode cX11_partEnd 9 = .ok (.iaload, 1) := by decide +kernel
theorem dX11_partEnd_10 : decode cX11_partEnd 10 = .ok (.bipush 47, 2) := by decide +kernel
theorem dX11_partEnd_12 : decode cX11_partEnd 12 = .ok (.if_icmp .eq 9, 3) := by decide +kernel
theorem dX11_partEnd_15 : decode cX11_partEnd 15 = .ok (.iinc 3 1, 3) := by decide +kernel
theorem dX11_partEnd_18 : decode cX11_partEnd 18 = .ok (.goto (-16), 3) := by decide +kernel
theorem dX11_partEnd_21 : decode cX11_partEnd 21 = .ok (.iload_n 3, 1) := by decide +kernel
theorem dX11_partEnd_22 : decode cX11_partEnd 22 = .ok (.ireturn, 1) := by decide +kernel
theorem dX11_isUp_0 : decode cX11_isUp 0 = .ok (.iload_n 2, 1) := by decide +kernel
theorem dX11_isUp_1 : decode cX11_isUp 1 = .ok (.iload_n 1, 1) := by decide +kernel
theorem dX11_isUp_2 : decode cX11_isUp 2 = .ok (.isub, 1) := by decide +kernel
theorem dX11_isUp_3 : decode cX11_isUp 3 = .ok (.iconst 2, 1) := by decide +kernel
theorem dX11_isUp_4 : decode cX11_isUp 4 = .ok (.if_icmp .ne 25, 3) := by decide +kernel
theorem dX11_isUp_7 : decode cX11_isUp 7 = .ok (.aload_n 0, 1) := by decide +kernel
theorem dX11_isUp_8 : decode cX11_isUp 8 = .ok (.iload_n 1, 1) := by decide +kernel
theorem dX11_isUp_9 : decode cX11_isUp 9 = .ok (.iaload, 1) := by decide +kernel
theorem dX11_isUp_10 : decode cX11_isUp 10 = .ok (.bipush 46, 2) := by decide +kernel
theorem dX11_isUp_12 : decode cX11_isUp 12 = .ok (.if_icmp .ne 17, 3) := by decide +kernel
theorem dX11_isUp_15 : decode cX11_isUp 15 = .ok (.aload_n 0, 1) := by decide +kernel
theorem dX11_isUp_16 : decode cX11_isUp 16 = .ok (.iload_n 1, 1) := by decide +kernel
theorem dX11_isUp_17 : decode cX11_isUp 17 = .ok (.iconst 1, 1) := by decide +kernel
theorem dX11_isUp_18 : decode cX11_isUp 18 = .ok (.iadd, 1) := by decide +kernel
theorem dX11_isUp_19 : decode cX11_isUp 19 = .ok (.iaload, 1) := by decide +kernel
theorem dX11_isUp_20 : decode cX11_isUp 20 = .ok (.bipush 46, 2) := by decide +kernel
theorem dX11_isUp_22 : decode cX11_isUp 22 = .ok (.if_icmp .ne 7, 3) := by decide +kernel
theorem dX11_isUp_25 : decode cX11_isUp 25 = .ok (.iconst 1, 1) := by decide +kernel
theorem dX11_isUp_26 : decode cX11_isUp 26 = .ok (.goto 4, 3) := by decide +kernel
theorem dX11_isUp_29 : decode cX11_isUp 29 = .ok (.iconst 0, 1) := by decide +kernel
theorem dX11_isUp_30 : decode cX11_isUp 30 = .ok (.ireturn, 1) := by decide +kernel
theorem dX11_hasUp_0 : decode cX11_hasUp 0 = .ok (.iconst 0, 1) := by decide +kernel
theorem dX11_hasUp_1 : decode cX11_hasUp 1 = .ok (.istore_n 3, 1) := by decide +kernel
theorem dX11_hasUp_2 : decode cX11_hasUp 2 = .ok (.iload_n 1, 1) := by decide +kernel
theorem dX11_hasUp_3 : decode cX11_hasUp 3 = .ok (.istore 4, 2) := by decide +kernel
theorem dX11_hasUp_5 : decode cX11_hasUp 5 = .ok (.iload 4, 2) := by decide +kernel
theorem dX11_hasUp_7 : decode cX11_hasUp 7 = .ok (.iload_n 2, 1) := by decide +kernel
theorem dX11_hasUp_8 : decode cX11_hasUp 8 = .ok (.if_icmp .gt 33, 3) := by decide +kernel
theorem dX11_hasUp_11 : decode cX11_hasUp 11 = .ok (.iload_n 3, 1) := by decide +kernel
theorem dX11_hasUp_12 : decode cX11_hasUp 12 = .ok (.aload_n 0, 1) := by decide +kernel
theorem dX11_hasUp_13 : decode cX11_hasUp 13 = .ok (.iload 4, 2) := by decide +kernel
theorem dX11_hasUp_15 : decode cX11_hasUp 15 = .ok (.aload_n 0, 1) := by decide +kernel
theorem dX11_hasUp_16 : decode cX11_hasUp 16 = .ok (.iload 4, 2) := by decide +kernel
theorem dX11_hasUp_18 : decode cX11_hasUp 18 = .ok (.iload_n 2, 1) := by decide +kernel
theorem dX11_hasUp_19 : decode cX11_hasUp 19 = .ok (.invokestatic 333, 3) := by decide +kernel
theorem dX11_hasUp_22 : decode cX11_hasUp 22 = .ok (.invokestatic 337, 3) := by decide +kernel
theorem dX11_hasUp_25 : decode cX11_hasUp 25 = .ok (.ior, 1) := by decide +kernel
theorem dX11_hasUp_26 : decode cX11_hasUp 26 = .ok (.istore_n 3, 1) := by decide +kernel
theorem dX11_hasUp_27 : decode cX11_hasUp 27 = .ok (.aload_n 0, 1) := by decide +kernel
theorem dX11_hasUp_28 : decode cX11_hasUp 28 = .ok (.iload 4, 2) := by decide +kernel
theorem dX11_hasUp_30 : decode cX11_hasUp 30 = .ok (.iload_n 2, 1) := by decide +kernel
theorem dX11_hasUp_31 : decode cX11_hasUp 31 = .ok (.invokestatic 333, 3) := by decide +kernel
theorem dX11_hasUp_34 : decode cX11_hasUp 34 = .ok (.iconst 1, 1) := by decide +kernel
theorem dX11_hasUp_35 : decode cX11_hasUp 35 = .ok (.iadd, 1) := by decide +kernel
theorem dX11_hasUp_36 : decode cX11_hasUp 36 = .ok (.istore 4, 2) := by decide +kernel
theorem dX11_hasUp_38 : decode cX11_hasUp 38 = .ok (.goto (-33), 3) := by decide +kernel
theorem dX11_hasUp_41 : decode cX11_hasUp 41 = .ok (.iload_n 3, 1) := by decide +kernel
theorem dX11_hasUp_42 : decode cX11_hasUp 42 = .ok (.ireturn, 1) := by decide +kernel
theorem dX11_rise_0 : decode cX11_rise 0 = .ok (.aload_n 0, 1) := by decide +kernel
theorem dX11_rise_1 : decode cX11_rise 1 = .ok (.iload_n 1, 1) := by decide +kernel
theorem dX11_rise_2 : decode cX11_rise 2 = .ok (.iload_n 2, 1) := by decide +kernel
theorem dX11_rise_3 : decode cX11_rise 3 = .ok (.invokestatic 337, 3) := by decide +kernel
theorem dX11_rise_6 : decode cX11_rise 6 = .ok (.ifCond .eq 7, 3) := by decide +kernel
theorem dX11_rise_9 : decode cX11_rise 9 = .ok (.iconst (-1), 1) := by decide +kernel
theorem dX11_rise_10 : decode cX11_rise 10 = .ok (.goto 28, 3) := by decide +kernel
theorem dX11_rise_13 : decode cX11_rise 13 = .ok (.iload_n 2, 1) := by decide +kernel
theorem dX11_rise_14 : decode cX11_rise 14 = .ok (.iload_n 1, 1) := by decide +kernel
theorem dX11_rise_15 : decode cX11_rise 15 = .ok (.if_icmp .eq 18, 3) := by decide +kernel
theorem dX11_rise_18 : decode cX11_rise 18 = .ok (.iload_n 2, 1) := by decide +kernel
theorem dX11_rise_19 : decode cX11_rise 19 = .ok (.iload_n 1, 1) := by decide +kernel
theorem dX11_rise_20 : decode cX11_rise 20 = .ok (.isub, 1) := by decide +kernel
theorem dX11_rise_21 : decode cX11_rise 21 = .ok (.iconst 1, 1) := by decide +kernel
theorem dX11_rise_22 : decode cX11_rise 22 = .ok (.if_icmp .ne 15, 3) := by decide +kernel
theorem dX11_rise_25 : decode cX11_rise 25 = .ok (.aload_n 0, 1) := by decide +kernel
theorem dX11_rise_26 : decode cX11_rise 26 = .ok (.iload_n 1, 1) := by decide +kernel
theorem dX11_rise_27 : decode cX11_rise 27 = .ok (.iaload, 1) := by decide +kernel
theorem dX11_rise_28 : decode cX11_rise 28 = .ok (.bipush 46, 2) := by decide +kernel
theorem dX11_rise_30 : decode cX11_rise 30 = .ok (.if_icmp .ne 7, 3) := by decide +kernel
theorem dX11_rise_33 : decode cX11_rise 33 = .ok (.iconst 0, 1) := by decide +kernel
theorem dX11_rise_34 : decode cX11_rise 34 = .ok (.goto 4, 3) := by decide +kernel
theorem dX11_rise_37 : decode cX11_rise 37 = .ok (.iconst 1, 1) := by decide +kernel
theorem dX11_rise_38 : decode cX11_rise 38 = .ok (.ireturn, 1) := by decide +kernel
theorem dX11_unsafe_0 : decode cX11_unsafe 0 = .ok (.aload_n 0, 1) := by decide +kernel
theorem dX11_unsafe_1 : decode cX11_unsafe 1 = .ok (.getfield 56, 3) := by decide +kernel
theorem dX11_unsafe_4 : decode cX11_unsafe 4 = .ok (.iload_n 1, 1) := by decide +kernel
theorem dX11_unsafe_5 : decode cX11_unsafe 5 = .ok (.iaload, 1) := by decide +kernel
theorem dX11_unsafe_6 : decode cX11_unsafe 6 = .ok (.bipush 47, 2) := by decide +kernel
theorem dX11_unsafe_8 : decode cX11_unsafe 8 = .ok (.if_icmp .ne 7, 3) := by decide +kernel
theorem dX11_unsafe_11 : decode cX11_unsafe 11 = .ok (.iconst 1, 1) := by decide +kernel
theorem dX11_unsafe_12 : decode cX11_unsafe 12 = .ok (.goto 4, 3) := by decide +kernel
theorem dX11_unsafe_15 : decode cX11_unsafe 15 = .ok (.iconst 0, 1) := by decide +kernel
theorem dX11_unsafe_16 : decode cX11_unsafe 16 = .ok (.aload_n 0, 1) := by decide +kernel
theorem dX11_unsafe_17 : decode cX11_unsafe 17 = .ok (.getfield 56, 3) := by decide +kernel
theorem dX11_unsafe_20 : decode cX11_unsafe 20 = .ok (.iload_n 1, 1) := by decide +kernel
theorem dX11_unsafe_21 : decode cX11_unsafe 21 = .ok (.iload_n 1, 1) := by decide +kernel
theorem dX11_unsafe_22 : decode cX11_unsafe 22 = .ok (.iload_n 2, 1) := by decide +kernel
theorem dX11_unsafe_23 : decode cX11_unsafe 23 = .ok (.iadd, 1) := by decide +kernel
theorem dX11_unsafe_24 : decode cX11_unsafe 24 = .ok (.invokestatic 341, 3) := by decide +kernel
theorem dX11_unsafe_27 : decode cX11_unsafe 27 = .ok (.ifCond .eq 7, 3) := by decide +kernel
theorem dX11_unsafe_30 : decode cX11_unsafe 30 = .ok (.iconst 2, 1) := by decide +kernel
theorem dX11_unsafe_31 : decode cX11_unsafe 31 = .ok (.goto 4, 3) := by decide +kernel
theorem dX11_unsafe_34 : decode cX11_unsafe 34 = .ok (.iconst 0, 1) := by decide +kernel
theorem dX11_unsafe_35 : decode cX11_unsafe 35 = .ok (.iadd, 1) := by decide +kernel
theorem dX11_unsafe_36 : decode cX11_unsafe 36 = .ok (.istore 5, 2) := by decide +kernel
theorem dX11_unsafe_38 : decode cX11_unsafe 38 = .ok (.iload 4, 2) := by decide +kernel
theorem dX11_unsafe_40 : decode cX11_unsafe 40 = .ok (.bipush 49, 2) := by decide +kernel
theorem dX11_unsafe_42 : decode cX11_unsafe 42 = .ok (.if_icmp .eq 13, 3) := by decide +kernel
theorem dX11_unsafe_45 : decode cX11_unsafe 45 = .ok (.iload 4, 2) := by decide +kernel
theorem dX11_unsafe_47 : decode cX11_unsafe 47 = .ok (.bipush 50, 2) := by decide +kernel
theorem dX11_unsafe_49 : decode cX11_unsafe 49 = .ok (.if_icmp .eq 6, 3) := by decide +kernel
theorem dX11_unsafe_52 : decode cX11_unsafe 52 = .ok (.iload 5, 2) := by decide +kernel
theorem dX11_unsafe_54 : decode cX11_unsafe 54 = .ok (.ireturn, 1) := by decide +kernel
theorem dX11_unsafe_55 : decode cX11_unsafe 55 = .ok (.iload 5, 2) := by decide +kernel
theorem dX11_unsafe_57 : decode cX11_unsafe 57 = .ok (.iload_n 3, 1) := by decide +kernel
theorem dX11_unsafe_58 : decode cX11_unsafe 58 = .ok (.ifCond .le 18, 3) := by decide +kernel
theorem dX11_unsafe_61 : decode cX11_unsafe 61 = .ok (.aload_n 0, 1) := by decide +kernel
theorem dX11_unsafe_62 : decode cX11_unsafe 62 = .ok (.getfield 59, 3) := by decide +kernel
theorem dX11_unsafe_65 : decode cX11_unsafe 65 = .ok (.iload_n 1, 1) := by decide +kernel
theorem dX11_unsafe_66 : decode cX11_unsafe 66 = .ok (.iaload, 1) := by decide +kernel
theorem dX11_unsafe_67 : decode cX11_unsafe 67 = .ok (.bipush 47, 2) := by decide +kernel
theorem dX11_unsafe_69 : decode cX11_unsafe 69 = .ok (.if_icmp .ne 7, 3) := by decide +kernel
theorem dX11_unsafe_72 : decode cX11_unsafe 72 = .ok (.iconst 4, 1) := by decide +kernel
theorem dX11_unsafe_73 : decode cX11_unsafe 73 = .ok (.goto 4, 3) := by decide +kernel
theorem dX11_unsafe_76 : decode cX11_unsafe 76 = .ok (.iconst 0, 1) := by decide +kernel
theorem dX11_unsafe_77 : decode cX11_unsafe 77 = .ok (.iadd, 1) := by decide +kernel
theorem dX11_unsafe_78 : decode cX11_unsafe 78 = .ok (.istore 5, 2) := by decide +kernel
theorem dX11_unsafe_80 : decode cX11_unsafe 80 = .ok (.iload 4, 2) := by decide +kernel
theorem dX11_unsafe_82 : decode cX11_unsafe 82 = .ok (.bipush 49, 2) := by decide +kernel
theorem dX11_unsafe_84 : decode cX11_unsafe 84 = .ok (.if_icmp .ne 27, 3) := by decide +kernel
theorem dX11_unsafe_87 : decode cX11_unsafe 87 = .ok (.iload 5, 2) := by decide +kernel
theorem dX11_unsafe_89 : decode cX11_unsafe 89 = .ok (.aload_n 0, 1) := by decide +kernel
theorem dX11_unsafe_90 : decode cX11_unsafe 90 = .ok (.getfield 59, 3) := by decide +kernel
theorem dX11_unsafe_93 : decode cX11_unsafe 93 = .ok (.iload_n 1, 1) := by decide +kernel
theorem dX11_unsafe_94 : decode cX11_unsafe 94 = .ok (.iload_n 1, 1) := by decide +kernel
theorem dX11_unsafe_95 : decode cX11_unsafe 95 = .ok (.iload_n 3, 1) := by decide +kernel
theorem dX11_unsafe_96 : decode cX11_unsafe 96 = .ok (.iadd, 1) := by decide +kernel
theorem dX11_unsafe_97 : decode cX11_unsafe 97 = .ok (.invokestatic 341, 3) := by decide +kernel
theorem dX11_unsafe_100 : decode cX11_unsafe 100 = .ok (.ifCond .eq 8, 3) := by decide +kernel
theorem dX11_unsafe_103 : decode cX11_unsafe 103 = .ok (.bipush 8, 2) := by decide +kernel
theorem dX11_unsafe_105 : decode cX11_unsafe 105 = .ok (.goto 4, 3) := by decide +kernel
theorem dX11_unsafe_108 : decode cX11_unsafe 108 = .ok (.iconst 0, 1) := by decide +kernel
theorem dX11_unsafe_109 : decode cX11_unsafe 109 = .ok (.iadd, 1) := by decide +kernel
theorem dX11_unsafe_110 : decode cX11_unsafe 110 = .ok (.ireturn, 1) := by decide +kernel
theorem dX11_unsafe_111 : decode cX11_unsafe 111 = .ok (.iconst 0, 1) := by decide +kernel
theorem dX11_unsafe_112 : decode cX11_unsafe 112 = .ok (.istore 6, 2) := by decide +kernel
theorem dX11_unsafe_114 : decode cX11_unsafe 114 = .ok (.iload_n 1, 1) := by decide +kernel
theorem dX11_unsafe_115 : decode cX11_unsafe 115 = .ok (.istore 7, 2) := by decide +kernel
theorem dX11_unsafe_117 : decode cX11_unsafe 117 = .ok (.aload_n 0, 1) := by decide +kernel
theorem dX11_unsafe_118 : decode cX11_unsafe 118 = .ok (.getfield 56, 3) := by decide +kernel
theorem dX11_unsafe_121 : decode cX11_unsafe 121 = .ok (.iload 7, 2) := by decide +kernel
theorem dX11_unsafe_123 : decode cX11_unsafe 123 = .ok (.iload_n 1, 1) := by decide +kernel
theorem dX11_unsafe_124 : decode cX11_unsafe 124 = .ok (.iload_n 2, 1) := by decide +kernel
theorem dX11_unsafe_125 : decode cX11_unsafe 125 = .ok (.iadd, 1) := by decide +kernel
theorem dX11_unsafe_126 : decode cX11_unsafe 126 = .ok (.invokestatic 333, 3) := by decide +kernel
theorem dX11_unsafe_129 : decode cX11_unsafe 129 = .ok (.iload_n 1, 1) := by decide +kernel
theorem dX11_unsafe_130 : decode cX11_unsafe 130 = .ok (.iload_n 2, 1) := by decide +kernel
theorem dX11_unsafe_131 : decode cX11_unsafe 131 = .ok (.iadd, 1) := by decide +kernel
theorem dX11_unsafe_132 : decode cX11_unsafe 132 = .ok (.if_icmp .ge 61, 3) := by decide +kernel
theorem dX11_unsafe_135 : decode cX11_unsafe 135 = .ok (.iload 6, 2) := by decide +kernel
theorem dX11_unsafe_137 : decode cX11_unsafe 137 = .ok (.aload_n 0, 1) := by decide +kernel
theorem dX11_unsafe_138 : decode cX11_unsafe 138 = .ok (.getfield 56, 3) := by decide +kernel
theorem dX11_unsafe_141 : decode cX11_unsafe 141 = .ok (.iload 7, 2) := by decide +kernel
theorem dX11_unsafe_143 : decode cX11_unsafe 143 = .ok (.aload_n 0, 1) := by decide +kernel
theorem dX11_unsafe_144 : decode cX11_unsafe 144 = .ok (.getfield 56, 3) := by decide +kernel
theorem dX11_unsafe_147 : decode cX11_unsafe 147 = .ok (.iload 7, 2) := by decide +kernel
theorem dX11_unsafe_149 : decode cX11_unsafe 149 = .ok (.iload_n 1, 1) := by decide +kernel
theorem dX11_unsafe_150 : decode cX11_unsafe 150 = .ok (.iload_n 2, 1) := by decide +kernel
theorem dX11_unsafe_151 : decode cX11_unsafe 151 = .ok (.iadd, 1) := by decide +kernel
theorem dX11_unsafe_152 : decode cX11_unsafe 152 = .ok (.invokestatic 333, 3) := by decide +kernel
theorem dX11_unsafe_155 : decode cX11_unsafe 155 = .ok (.invokestatic 344, 3) := by decide +kernel
theorem dX11_unsafe_158 : decode cX11_unsafe 158 = .ok (.iadd, 1) := by decide +kernel
theorem dX11_unsafe_159 : decode cX11_unsafe 159 = .ok (.istore 6, 2) := by decide +kernel
theorem dX11_unsafe_161 : decode cX11_unsafe 161 = .ok (.iload 6, 2) := by decide +kernel
theorem dX11_unsafe_163 : decode cX11_unsafe 163 = .ok (.ifCond .ge 7, 3) := by decide +kernel
theorem dX11_unsafe_166 : decode cX11_unsafe 166 = .ok (.iconst 0, 1) := by decide +kernel
theorem dX11_unsafe_167 : decode cX11_unsafe 167 = .ok (.goto 5, 3) := by decide +kernel
theorem dX11_unsafe_170 : decode cX11_unsafe 170 = .ok (.iload 6, 2) := by decide +kernel
theorem dX11_unsafe_172 : decode cX11_unsafe 172 = .ok (.istore 6, 2) := by decide +kernel
theorem dX11_unsafe_174 : decode cX11_unsafe 174 = .ok (.aload_n 0, 1) := by decide +kernel
theorem dX11_unsafe_175 : decode cX11_unsafe 175 = .ok (.getfield 56, 3) := by decide +kernel
theorem dX11_unsafe_178 : decode cX11_unsafe 178 = .ok (.iload 7, 2) := by decide +kernel
theorem dX11_unsafe_180 : decode cX11_unsafe 180 = .ok (.iload_n 1, 1) := by decide +kernel
theorem dX11_unsafe_181 : decode cX11_unsafe 181 = .ok (.iload_n 2, 1) := by decide +kernel
theorem dX11_unsafe_182 : decode cX11_unsafe 182 = .ok (.iadd, 1) := by decide +kernel
theorem dX11_unsafe_183 : decode cX11_unsafe 183 = .ok (.invokestatic 333, 3) := by decide +kernel
theorem dX11_unsafe_186 : decode cX11_unsafe 186 = .ok (.iconst 1, 1) := by decide +kernel
theorem dX11_unsafe_187 : decode cX11_unsafe 187 = .ok (.iadd, 1) := by decide +kernel
theorem dX11_unsafe_188 : decode cX11_unsafe 188 = .ok (.istore 7, 2) := by decide +kernel
theorem dX11_unsafe_190 : decode cX11_unsafe 190 = .ok (.goto (-73), 3) := by decide +kernel
theorem dX11_unsafe_193 : decode cX11_unsafe 193 = .ok (.iconst 0, 1) := by decide +kernel
theorem dX11_unsafe_194 : decode cX11_unsafe 194 = .ok (.istore 7, 2) := by decide +kernel
theorem dX11_unsafe_196 : decode cX11_unsafe 196 = .ok (.iload_n 1, 1) := by decide +kernel
theorem dX11_unsafe_197 : decode cX11_unsafe 197 = .ok (.istore 8, 2) := by decide +kernel
theorem dX11_unsafe_199 : decode cX11_unsafe 199 = .ok (.iload 8, 2) := by decide +kernel
theorem dX11_unsafe_201 : decode cX11_unsafe 201 = .ok (.iload_n 1, 1) := by decide +kernel
theorem dX11_unsafe_202 : decode cX11_unsafe 202 = .ok (.iload_n 3, 1) := by decide +kernel
theorem dX11_unsafe_203 : decode cX11_unsafe 203 = .ok (.iadd, 1) := by decide +kernel
theorem dX11_unsafe_204 : decode cX11_unsafe 204 = .ok (.if_icmp .gt 63, 3) := by decide +kernel
theorem dX11_unsafe_207 : decode cX11_unsafe 207 = .ok (.iload 6, 2) := by decide +kernel
theorem dX11_unsafe_209 : decode cX11_unsafe 209 = .ok (.aload_n 0, 1) := by decide +kernel
theorem dX11_unsafe_210 : decode cX11_unsafe 210 = .ok (.getfield 59, 3) := by decide +kernel
theorem dX11_unsafe_213 : decode cX11_unsafe 213 = .ok (.iload 8, 2) := by decide +kernel
theorem dX11_unsafe_215 : decode cX11_unsafe 215 = .ok (.aload_n 0, 1) := by decide +kernel
theorem dX11_unsafe_216 : decode cX11_unsafe 216 = .ok (.getfield 59, 3) := by decide +kernel
theorem dX11_unsafe_219 : decode cX11_unsafe 219 = .ok (.iload 8, 2) := by decide +kernel
theorem dX11_unsafe_221 : decode cX11_unsafe 221 = .ok (.iload_n 1, 1) := by decide +kernel
theorem dX11_unsafe_222 : decode cX11_unsafe 222 = .ok (.iload_n 3, 1) := by decide +kernel
theorem dX11_unsafe_223 : decode cX11_unsafe 223 = .ok (.iadd, 1) := by decide +kernel
theorem dX11_unsafe_224 : decode cX11_unsafe 224 = .ok (.invokestatic 333, 3) := by decide +kernel
theorem dX11_unsafe_227 : decode cX11_unsafe 227 = .ok (.invokestatic 344, 3) := by decide +kernel
theorem dX11_unsafe_230 : decode cX11_unsafe 230 = .ok (.iadd, 1) := by decide +kernel
theorem dX11_unsafe_231 : decode cX11_unsafe 231 = .ok (.istore 6, 2) := by decide +kernel
theorem dX11_unsafe_233 : decode cX11_unsafe 233 = .ok (.iload 7, 2) := by decide +kernel
theorem dX11_unsafe_235 : decode cX11_unsafe 235 = .ok (.iload 6, 2) := by decide +kernel
theorem dX11_unsafe_237 : decode cX11_unsafe 237 = .ok (.ifCond .ge 7, 3) := by decide +kernel
theorem dX11_unsafe_240 : decode cX11_unsafe 240 = .ok (.iconst 1, 1) := by decide +kernel
theorem dX11_unsafe_241 : decode cX11_unsafe 241 = .ok (.goto 4, 3) := by decide +kernel
theorem dX11_unsafe_244 : decode cX11_unsafe 244 = .ok (.iconst 0, 1) := by decide +kernel
theorem dX11_unsafe_245 : decode cX11_unsafe 245 = .ok (.ior, 1) := by decide +kernel
theorem dX11_unsafe_246 : decode cX11_unsafe 246 = .ok (.istore 7, 2) := by decide +kernel
theorem dX11_unsafe_248 : decode cX11_unsafe 248 = .ok (.aload_n 0, 1) := by decide +kernel
theorem dX11_unsafe_249 : decode cX11_unsafe 249 = .ok (.getfield 59, 3) := by decide +kernel
theorem dX11_unsafe_252 : decode cX11_unsafe 252 = .ok (.iload 8, 2) := by decide +kernel
theorem dX11_unsafe_254 : decode cX11_unsafe 254 = .ok (.iload_n 1, 1) := by decide +kernel
theorem dX11_unsafe_255 : decode cX11_unsafe 255 = .ok (.iload_n 3, 1) := by decide +kernel
theorem dX11_unsafe_256 : decode cX11_unsafe 256 = .ok (.iadd, 1) := by decide +kernel
theorem dX11_unsafe_257 : decode cX11_unsafe 257 = .ok (.invokestatic 333, 3) := by decide +kernel
theorem dX11_unsafe_260 : decode cX11_unsafe 260 = .ok (.iconst 1, 1) := by decide +kernel
theorem dX11_unsafe_261 : decode cX11_unsafe 261 = .ok (.iadd, 1) := by decide +kernel
theorem dX11_unsafe_262 : decode cX11_unsafe 262 = .ok (.istore 8, 2) := by decide +kernel
theorem dX11_unsafe_264 : decode cX11_unsafe 264 = .ok (.goto (-65), 3) := by decide +kernel
theorem dX11_unsafe_267 : decode cX11_unsafe 267 = .ok (.iload 5, 2) := by decide +kernel
theorem dX11_unsafe_269 : decode cX11_unsafe 269 = .ok (.iload 7, 2) := by decide +kernel
theorem dX11_unsafe_271 : decode cX11_unsafe 271 = .ok (.ifCond .eq 8, 3) := by decide +kernel
theorem dX11_unsafe_274 : decode cX11_unsafe 274 = .ok (.bipush 8, 2) := by decide +kernel
theorem dX11_unsafe_276 : decode cX11_unsafe 276 = .ok (.goto 4, 3) := by decide +kernel
theorem dX11_unsafe_279 : decode cX11_unsafe 279 = .ok (.iconst 0, 1) := by decide +kernel
theorem dX11_unsafe_280 : decode cX11_unsafe 280 = .ok (.iadd, 1) := by decide +kernel
theorem dX11_unsafe_281 : decode cX11_unsafe 281 = .ok (.ireturn, 1) := by decide +kernel
theorem dX11_told_0 : decode cX11_told 0 = .ok (.iload_n 1, 1) := by decide +kernel
theorem dX11_told_1 : decode cX11_told 1 = .ok (.tableswitch 78 0 6 #[43, 48, 53, 58, 63, 68, 73], 43) := by decide +kernel
theorem dX11_told_44 : decode cX11_told 44 = .ok (.aload_n 0, 1) := by decide +kernel
theorem dX11_told_45 : decode cX11_told 45 = .ok (.getfield 219, 3) := by decide +kernel
theorem dX11_told_48 : decode cX11_told 48 = .ok (.ireturn, 1) := by decide +kernel
theorem dX11_told_49 : decode cX11_told 49 = .ok (.aload_n 0, 1) := by decide +kernel
theorem dX11_told_50 : decode cX11_told 50 = .ok (.getfield 222, 3) := by decide +kernel
theorem dX11_told_53 : decode cX11_told 53 = .ok (.ireturn, 1) := by decide +kernel
theorem dX11_told_54 : decode cX11_told 54 = .ok (.aload_n 0, 1) := by decide +kernel
theorem dX11_told_55 : decode cX11_told 55 = .ok (.getfield 237, 3) := by decide +kernel
theorem dX11_told_58 : decode cX11_told 58 = .ok (.ireturn, 1) := by decide +kernel
theorem dX11_told_59 : decode cX11_told 59 = .ok (.aload_n 0, 1) := by decide +kernel
theorem dX11_told_60 : decode cX11_told 60 = .ok (.getfield 240, 3) := by decide +kernel
theorem dX11_told_63 : decode cX11_told 63 = .ok (.ireturn, 1) := by decide +kernel
theorem dX11_told_64 : decode cX11_told 64 = .ok (.aload_n 0, 1) := by decide +kernel
theorem dX11_told_65 : decode cX11_told 65 = .ok (.getfield 212, 3) := by decide +kernel
theorem dX11_told_68 : decode cX11_told 68 = .ok (.ireturn, 1) := by decide +kernel
theorem dX11_told_69 : decode cX11_told 69 = .ok (.aload_n 0, 1) := by decide +kernel
theorem dX11_told_70 : decode cX11_told 70 = .ok (.getfield 96, 3) := by decide +kernel
theorem dX11_told_73 : decode cX11_told 73 = .ok (.ireturn, 1) := by decide +kernel
theorem dX11_told_74 : decode cX11_told 74 = .ok (.aload_n 0, 1) := by decide +kernel
theorem dX11_told_75 : decode cX11_told 75 = .ok (.getfield 1, 3) := by decide +kernel
theorem dX11_told_78 : decode cX11_told 78 = .ok (.ireturn, 1) := by decide +kernel
theorem dX11_told_79 : decode cX11_told 79 = .ok (.iconst (-1), 1) := by decide +kernel
theorem dX11_told_80 : decode cX11_told 80 = .ok (.ireturn, 1) := by decide +kernel
theorem dX11_found_0 : decode cX11_found 0 = .ok (.iload_n 1, 1) := by decide +kernel
theorem dX11_found_1 : decode cX11_found 1 = .ok (.ifCond .lt 21, 3) := by decide +kernel
theorem dX11_found_4 : decode cX11_found 4 = .ok (.iload_n 1, 1) := by decide +kernel
theorem dX11_found_5 : decode cX11_found 5 = .ok (.aload_n 0, 1) := by decide +kernel
theorem dX11_found_6 : decode cX11_found 6 = .ok (.getfield 237, 3) := by decide +kernel
theorem dX11_found_9 : decode cX11_found 9 = .ok (.if_icmp .ge 13, 3) := by decide +kernel
theorem dX11_found_12 : decode cX11_found 12 = .ok (.iload_n 2, 1) := by decide +kernel
theorem dX11_found_13 : decode cX11_found 13 = .ok (.ifCond .lt 9, 3) := by decide +kernel
theorem dX11_found_16 : decode cX11_found 16 = .ok (.iload_n 2, 1) := by decide +kernel
theorem dX11_found_17 : decode cX11_found 17 = .ok (.bipush 11, 2) := by decide +kernel
theorem dX11_found_19 : decode cX11_found 19 = .ok (.if_icmp .le 9, 3) := by decide +kernel
theorem dX11_found_22 : decode cX11_found 22 = .ok (.ldc2_w 347, 3) := by decide +kernel
theorem dX11_found_25 : decode cX11_found 25 = .ok (.goto 14, 3) := by decide +kernel
theorem dX11_found_28 : decode cX11_found 28 = .ok (.aload_n 0, 1) := by decide +kernel
theorem dX11_found_29 : decode cX11_found 29 = .ok (.getfield 53, 3) := by decide +kernel
theorem dX11_found_32 : decode cX11_found 32 = .ok (.bipush 12, 2) := by decide +kernel
theorem dX11_found_34 : decode cX11_found 34 = .ok (.iload_n 1, 1) := by decide +kernel
theorem dX11_found_35 : decode cX11_found 35 = .ok (.imul, 1) := by decide +kernel
theorem dX11_found_36 : decode cX11_found 36 = .ok (.iload_n 2, 1) := by decide +kernel
theorem dX11_found_37 : decode cX11_found 37 = .ok (.iadd, 1) := by decide +kernel
theorem dX11_found_38 : decode cX11_found 38 = .ok (.laload, 1) := by decide +kernel
theorem dX11_found_39 : decode cX11_found 39 = .ok (.lreturn, 1) := by decide +kernel
theorem dX11_letter_0 : decode cX11_letter 0 = .ok (.iload_n 1, 1) := by decide +kernel
theorem dX11_letter_1 : decode cX11_letter 1 = .ok (.ifCond .lt 42, 3) := by decide +kernel
theorem dX11_letter_4 : decode cX11_letter 4 = .ok (.iload_n 1, 1) := by decide +kernel
theorem dX11_letter_5 : decode cX11_letter 5 = .ok (.aload_n 0, 1) := by decide +kernel
theorem dX11_letter_6 : decode cX11_letter 6 = .ok (.getfield 237, 3) := by decide +kernel
theorem dX11_letter_9 : decode cX11_letter 9 = .ok (.if_icmp .ge 34, 3) := by decide +kernel
theorem dX11_letter_12 : decode cX11_letter 12 = .ok (.iload_n 3, 1) := by decide +kernel
theorem dX11_letter_13 : decode cX11_letter 13 = .ok (.ifCond .lt 30, 3) := by decide +kernel
theorem dX11_letter_16 : decode cX11_letter 16 = .ok (.iload_n 3, 1) := by decide +kernel
theorem dX11_letter_17 : decode cX11_letter 17 = .ok (.i2l, 1) := by decide +kernel
theorem dX11_letter_18 : decode cX11_letter 18 = .ok (.aload_n 0, 1) := by decide +kernel
theorem dX11_letter_19 : decode cX11_letter 19 = .ok (.getfield 53, 3) := by decide +kernel
theorem dX11_letter_22 : decode cX11_letter 22 = .ok (.bipush 12, 2) := by decide +kernel
theorem dX11_letter_24 : decode cX11_letter 24 = .ok (.iload_n 1, 1) := by decide +kernel
theorem dX11_letter_25 : decode cX11_letter 25 = .ok (.imul, 1) := by decide +kernel
theorem dX11_letter_26 : decode cX11_letter 26 = .ok (.iload_n 2, 1) := by decide +kernel
theorem dX11_letter_27 : decode cX11_letter 27 = .ok (.ifCond .eq 8, 3) := by decide +kernel
theorem dX11_letter_30 : decode cX11_letter 30 = .ok (.bipush 10, 2) := by decide +kernel
theorem dX11_letter_32 : decode cX11_letter 32 = .ok (.goto 5, 3) := by decide +kernel
theorem dX11_letter_35 : decode cX11_letter 35 = .ok (.bipush 9, 2) := by decide +kernel
theorem dX11_letter_37 : decode cX11_letter 37 = .ok (.iadd, 1) := by decide +kernel
theorem dX11_letter_38 : decode cX11_letter 38 = .ok (.laload, 1) := by decide +kernel
theorem dX11_letter_39 : decode cX11_letter 39 = .ok (.lcmp, 1) := by decide +kernel
theorem dX11_letter_40 : decode cX11_letter 40 = .ok (.ifCond .lt 5, 3) := by decide +kernel
theorem dX11_letter_43 : decode cX11_letter 43 = .ok (.iconst (-1), 1) := by decide +kernel
theorem dX11_letter_44 : decode cX11_letter 44 = .ok (.ireturn, 1) := by decide +kernel
theorem dX11_letter_45 : decode cX11_letter 45 = .ok (.iload_n 2, 1) := by decide +kernel
theorem dX11_letter_46 : decode cX11_letter 46 = .ok (.ifCond .eq 18, 3) := by decide +kernel
theorem dX11_letter_49 : decode cX11_letter 49 = .ok (.aload_n 0, 1) := by decide +kernel
theorem dX11_letter_50 : decode cX11_letter 50 = .ok (.getfield 59, 3) := by decide +kernel
theorem dX11_letter_53 : decode cX11_letter 53 = .ok (.sipush 400, 3) := by decide +kernel
theorem dX11_letter_56 : decode cX11_letter 56 = .ok (.iload_n 1, 1) := by decide +kernel
theorem dX11_letter_57 : decode cX11_letter 57 = .ok (.imul, 1) := by decide +kernel
theorem dX11_letter_58 : decode cX11_letter 58 = .ok (.iload_n 3, 1) := by decide +kernel
theorem dX11_letter_59 : decode cX11_letter 59 = .ok (.iadd, 1) := by decide +kernel
theorem dX11_letter_60 : decode cX11_letter 60 = .ok (.iaload, 1) := by decide +kernel
theorem dX11_letter_61 : decode cX11_letter 61 = .ok (.goto 15, 3) := by decide +kernel
theorem dX11_letter_64 : decode cX11_letter 64 = .ok (.aload_n 0, 1) := by decide +kernel
theorem dX11_letter_65 : decode cX11_letter 65 = .ok (.getfield 56, 3) := by decide +kernel
theorem dX11_letter_68 : decode cX11_letter 68 = .ok (.sipush 400, 3) := by decide +kernel
theorem dX11_letter_71 : decode cX11_letter 71 = .ok (.iload_n 1, 1) := by decide +kernel
theorem dX11_letter_72 : decode cX11_letter 72 = .ok (.imul, 1) := by decide +kernel
theorem dX11_letter_73 : decode cX11_letter 73 = .ok (.iload_n 3, 1) := by decide +kernel
theorem dX11_letter_74 : decode cX11_letter 74 = .ok (.iadd, 1) := by decide +kernel
theorem dX11_letter_75 : decode cX11_letter 75 = .ok (.iaload, 1) := by decide +kernel
theorem dX11_letter_76 : decode cX11_letter 76 = .ok (.ireturn, 1) := by decide +kernel
theorem dJ9_abs_067f4_0 : decode cJ9_abs_067f4 0 = .ok (.lload_n 0, 1) := by decide +kernel
theorem dJ9_abs_067f4_1 : decode cJ9_abs_067f4 1 = .ok (.lconst 0, 1) := by decide +kernel
theorem dJ9_abs_067f4_2 : decode cJ9_abs_067f4 2 = .ok (.lcmp, 1) := by decide +kernel
theorem dJ9_abs_067f4_3 : decode cJ9_abs_067f4 3 = .ok (.ifCond .ge 8, 3) := by decide +kernel
theorem dJ9_abs_067f4_6 : decode cJ9_abs_067f4 6 = .ok (.lload_n 0, 1) := by decide +kernel
theorem dJ9_abs_067f4_7 : decode cJ9_abs_067f4 7 = .ok (.lneg, 1) := by decide +kernel
theorem dJ9_abs_067f4_8 : decode cJ9_abs_067f4 8 = .ok (.goto 4, 3) := by decide +kernel
theorem dJ9_abs_067f4_11 : decode cJ9_abs_067f4 11 = .ok (.lload_n 0, 1) := by decide +kernel
theorem dJ9_abs_067f4_12 : decode cJ9_abs_067f4 12 = .ok (.lreturn, 1) := by decide +kernel
theorem dJ9_max_7cf53_0 : decode cJ9_max_7cf53 0 = .ok (.iload_n 0, 1) := by decide +kernel
theorem dJ9_max_7cf53_1 : decode cJ9_max_7cf53 1 = .ok (.iload_n 1, 1) := by decide +kernel
theorem dJ9_max_7cf53_2 : decode cJ9_max_7cf53 2 = .ok (.if_icmp .lt 7, 3) := by decide +kernel
theorem dJ9_max_7cf53_5 : decode cJ9_max_7cf53 5 = .ok (.iload_n 0, 1) := by decide +kernel
theorem dJ9_max_7cf53_6 : decode cJ9_max_7cf53 6 = .ok (.goto 4, 3) := by decide +kernel
theorem dJ9_max_7cf53_9 : decode cJ9_max_7cf53 9 = .ok (.iload_n 1, 1) := by decide +kernel
theorem dJ9_max_7cf53_10 : decode cJ9_max_7cf53 10 = .ok (.ireturn, 1) := by decide +kernel
theorem dJ9_min_7cf53_0 : decode cJ9_min_7cf53 0 = .ok (.iload_n 0, 1) := by decide +kernel
theorem dJ9_min_7cf53_1 : decode cJ9_min_7cf53 1 = .ok (.iload_n 1, 1) := by decide +kernel
theorem dJ9_min_7cf53_2 : decode cJ9_min_7cf53 2 = .ok (.if_icmp .gt 7, 3) := by decide +kernel
theorem dJ9_min_7cf53_5 : decode cJ9_min_7cf53 5 = .ok (.iload_n 0, 1) := by decide +kernel
theorem dJ9_min_7cf53_6 : decode cJ9_min_7cf53 6 = .ok (.goto 4, 3) := by decide +kernel
theorem dJ9_min_7cf53_9 : decode cJ9_min_7cf53 9 = .ok (.iload_n 1, 1) := by decide +kernel
theorem dJ9_min_7cf53_10 : decode cJ9_min_7cf53 10 = .ok (.ireturn, 1) := by decide +kernel
theorem dJ0_length_8abf5_0 : decode cJ0_length_8abf5 0 = .ok (.aload_n 0, 1) := by decide +kernel
theorem dJ0_length_8abf5_1 : decode cJ0_length_8abf5 1 = .ok (.getfield 9, 3) := by decide +kernel
theorem dJ0_length_8abf5_4 : decode cJ0_length_8abf5 4 = .ok (.arraylength, 1) := by decide +kernel
theorem dJ0_length_8abf5_5 : decode cJ0_length_8abf5 5 = .ok (.aload_n 0, 1) := by decide +kernel
theorem dJ0_length_8abf5_6 : decode cJ0_length_8abf5 6 = .ok (.invokevirtual 335, 3) := by decide +kernel
theorem dJ0_length_8abf5_9 : decode cJ0_length_8abf5 9 = .ok (.ishr, 1) := by decide +kernel
theorem dJ0_length_8abf5_10 : decode cJ0_length_8abf5 10 = .ok (.ireturn, 1) := by decide +kernel
theorem dJ0_charAt_5068e_0 : decode cJ0_charAt_5068e 0 = .ok (.aload_n 0, 1) := by decide +kernel
theorem dJ0_charAt_5068e_1 : decode cJ0_charAt_5068e 1 = .ok (.invokevirtual 492, 3) := by decide +kernel
theorem dJ0_charAt_5068e_4 : decode cJ0_charAt_5068e 4 = .ok (.ifCond .eq 12, 3) := by decide +kernel
theorem dJ0_charAt_5068e_7 : decode cJ0_charAt_5068e 7 = .ok (.aload_n 0, 1) := by decide +kernel
theorem dJ0_charAt_5068e_8 : decode cJ0_charAt_5068e 8 = .ok (.getfield 9, 3) := by decide +kernel
theorem dJ0_charAt_5068e_11 : decode cJ0_charAt_5068e 11 = .ok (.iload_n 1, 1) := by decide +kernel
theorem dJ0_charAt_5068e_12 : decode cJ0_charAt_5068e 12 = .ok (.invokestatic 495, 3) := by decide +kernel
theorem dJ0_charAt_5068e_15 : decode cJ0_charAt_5068e 15 = .ok (.ireturn, 1) := by decide +kernel
theorem dJ0_charAt_5068e_16 : decode cJ0_charAt_5068e 16 = .ok (.aload_n 0, 1) := by decide +kernel
theorem dJ0_charAt_5068e_17 : decode cJ0_charAt_5068e 17 = .ok (.getfield 9, 3) := by decide +kernel
theorem dJ0_charAt_5068e_20 : decode cJ0_charAt_5068e 20 = .ok (.iload_n 1, 1) := by decide +kernel
theorem dJ0_charAt_5068e_21 : decode cJ0_charAt_5068e 21 = .ok (.invokestatic 498, 3) := by decide +kernel
theorem dJ0_charAt_5068e_24 : decode cJ0_charAt_5068e 24 = .ok (.ireturn, 1) := by decide +kernel
theorem dJ0_coder_7d493_0 : decode cJ0_coder_7d493 0 = .ok (.getstatic 38, 3) := by decide +kernel
theorem dJ0_coder_7d493_3 : decode cJ0_coder_7d493 3 = .ok (.ifCond .eq 10, 3) := by decide +kernel
theorem dJ0_coder_7d493_6 : decode cJ0_coder_7d493 6 = .ok (.aload_n 0, 1) := by decide +kernel
theorem dJ0_coder_7d493_7 : decode cJ0_coder_7d493 7 = .ok (.getfield 15, 3) := by decide +kernel
theorem dJ0_coder_7d493_10 : decode cJ0_coder_7d493 10 = .ok (.goto 4, 3) := by decide +kernel
theorem dJ0_coder_7d493_13 : decode cJ0_coder_7d493 13 = .ok (.iconst 1, 1) := by decide +kernel
theorem dJ0_coder_7d493_14 : decode cJ0_coder_7d493 14 = .ok (.ireturn, 1) := by decide +kernel
theorem dJ0_isLatin1_aae02_0 : decode cJ0_isLatin1_aae02 0 = .ok (.getstatic 38, 3) := by decide +kernel
theorem dJ0_isLatin1_aae02_3 : decode cJ0_isLatin1_aae02 3 = .ok (.ifCond .eq 14, 3) := by decide +kernel
theorem dJ0_isLatin1_aae02_6 : decode cJ0_isLatin1_aae02 6 = .ok (.aload_n 0, 1) := by decide +kernel
theorem dJ0_isLatin1_aae02_7 : decode cJ0_isLatin1_aae02 7 = .ok (.getfield 15, 3) := by decide +kernel
theorem dJ0_isLatin1_aae02_10 : decode cJ0_isLatin1_aae02 10 = .ok (.ifCond .ne 7, 3) := by decide +kernel
theorem dJ0_isLatin1_aae02_13 : decode cJ0_isLatin1_aae02 13 = .ok (.iconst 1, 1) := by decide +kernel
theorem dJ0_isLatin1_aae02_14 : decode cJ0_isLatin1_aae02 14 = .ok (.goto 4, 3) := by decide +kernel
theorem dJ0_isLatin1_aae02_17 : decode cJ0_isLatin1_aae02 17 = .ok (.iconst 0, 1) := by decide +kernel
theorem dJ0_isLatin1_aae02_18 : decode cJ0_isLatin1_aae02 18 = .ok (.ireturn, 1) := by decide +kernel
theorem dJ0_checkIndex_df160_0 : decode cJ0_checkIndex_df160 0 = .ok (.iload_n 0, 1) := by decide +kernel
theorem dJ0_checkIndex_df160_1 : decode cJ0_checkIndex_df160 1 = .ok (.iload_n 1, 1) := by decide +kernel
theorem dJ0_checkIndex_df160_2 : decode cJ0_checkIndex_df160 2 = .ok (.getstatic 1053, 3) := by decide +kernel
theorem dJ0_checkIndex_df160_5 : decode cJ0_checkIndex_df160 5 = .ok (.invokestatic 1059, 3) := by decide +kernel
theorem dJ0_checkIndex_df160_8 : decode cJ0_checkIndex_df160 8 = .ok (.pop, 1) := by decide +kernel
theorem dJ0_checkIndex_df160_9 : decode cJ0_checkIndex_df160 9 = .ok (.return_, 1) := by decide +kernel
theorem dJ1_charAt_3b067_0 : decode cJ1_charAt_3b067 0 = .ok (.iload_n 1, 1) := by decide +kernel
theorem dJ1_charAt_3b067_1 : decode cJ1_charAt_3b067 1 = .ok (.aload_n 0, 1) := by decide +kernel
theorem dJ1_charAt_3b067_2 : decode cJ1_charAt_3b067 2 = .ok (.arraylength, 1) := by decide +kernel
theorem dJ1_charAt_3b067_3 : decode cJ1_charAt_3b067 3 = .ok (.invokestatic 9, 3) := by decide +kernel
theorem dJ1_charAt_3b067_6 : decode cJ1_charAt_3b067 6 = .ok (.aload_n 0, 1) := by decide +kernel
theorem dJ1_charAt_3b067_7 : decode cJ1_charAt_3b067 7 = .ok (.iload_n 1, 1) := by decide +kernel
theorem dJ1_charAt_3b067_8 : decode cJ1_charAt_3b067 8 = .ok (.baload, 1) := by decide +kernel
theorem dJ1_charAt_3b067_9 : decode cJ1_charAt_3b067 9 = .ok (.sipush 255, 3) := by decide +kernel
theorem dJ1_charAt_3b067_12 : decode cJ1_charAt_3b067 12 = .ok (.iand, 1) := by decide +kernel
theorem dJ1_charAt_3b067_13 : decode cJ1_charAt_3b067 13 = .ok (.i2c, 1) := by decide +kernel
theorem dJ1_charAt_3b067_14 : decode cJ1_charAt_3b067 14 = .ok (.ireturn, 1) := by decide +kernel
theorem dJ2_getChar_3b067_0 : decode cJ2_getChar_3b067 0 = .ok (.getstatic 44, 3) := by decide +kernel
theorem dJ2_getChar_3b067_3 : decode cJ2_getChar_3b067 3 = .ok (.ifCond .ne 25, 3) := by decide +kernel
theorem dJ2_getChar_3b067_6 : decode cJ2_getChar_3b067 6 = .ok (.iload_n 1, 1) := by decide +kernel
theorem dJ2_getChar_3b067_7 : decode cJ2_getChar_3b067 7 = .ok (.ifCond .lt 11, 3) := by decide +kernel
theorem dJ2_getChar_3b067_10 : decode cJ2_getChar_3b067 10 = .ok (.iload_n 1, 1) := by decide +kernel
theorem dJ2_getChar_3b067_11 : decode cJ2_getChar_3b067 11 = .ok (.aload_n 0, 1) := by decide +kernel
theorem dJ2_getChar_3b067_12 : decode cJ2_getChar_3b067 12 = .ok (.invokestatic 48, 3) := by decide +kernel
theorem dJ2_getChar_3b067_15 : decode cJ2_getChar_3b067 15 = .ok (.if_icmp .lt 13, 3) := by decide +kernel
theorem dJ2_getChar_3b067_18 : decode cJ2_getChar_3b067 18 = .ok (.new 52, 3) := by decide +kernel
theorem dJ2_getChar_3b067_21 : decode cJ2_getChar_3b067 21 = .ok (.dup, 1) := by decide +kernel
theorem dJ2_getChar_3b067_22 : decode cJ2_getChar_3b067 22 = .ok (.ldc 54, 2) := by decide +kernel
theorem dJ2_getChar_3b067_24 : decode cJ2_getChar_3b067 24 = .ok (.invokespecial 56, 3) := by decide +kernel
theorem dJ2_getChar_3b067_27 : decode cJ2_getChar_3b067 27 = .ok (.athrow, 1) := by decide +kernel
theorem dJ2_getChar_3b067_28 : decode cJ2_getChar_3b067 28 = .ok (.iload_n 1, 1) := by decide +kernel
theorem dJ2_getChar_3b067_29 : decode cJ2_getChar_3b067 29 = .ok (.iconst 1, 1) := by decide +kernel
theorem dJ2_getChar_3b067_30 : decode cJ2_getChar_3b067 30 = .ok (.ishl, 1) := by decide +kernel
theorem dJ2_getChar_3b067_31 : decode cJ2_getChar_3b067 31 = .ok (.istore_n 1, 1) := by decide +kernel
theorem dJ2_getChar_3b067_32 : decode cJ2_getChar_3b067 32 = .ok (.aload_n 0, 1) := by decide +kernel
theorem dJ2_getChar_3b067_33 : decode cJ2_getChar_3b067 33 = .ok (.iload_n 1, 1) := by decide +kernel
theorem dJ2_getChar_3b067_34 : decode cJ2_getChar_3b067 34 = .ok (.iinc 1 1, 3) := by decide +kernel
theorem dJ2_getChar_3b067_37 : decode cJ2_getChar_3b067 37 = .ok (.baload, 1) := by decide +kernel
theorem dJ2_getChar_3b067_38 : decode cJ2_getChar_3b067 38 = .ok (.sipush 255, 3) := by decide +kernel
theorem dJ2_getChar_3b067_41 : decode cJ2_getChar_3b067 41 = .ok (.iand, 1) := by decide +kernel
theorem dJ2_getChar_3b067_42 : decode cJ2_getChar_3b067 42 = .ok (.getstatic 59, 3) := by decide +kernel
theorem dJ2_getChar_3b067_45 : decode cJ2_getChar_3b067 45 = .ok (.ishl, 1) := by decide +kernel
theorem dJ2_getChar_3b067_46 : decode cJ2_getChar_3b067 46 = .ok (.aload_n 0, 1) := by decide +kernel
theorem dJ2_getChar_3b067_47 : decode cJ2_getChar_3b067 47 = .ok (.iload_n 1, 1) := by decide +kernel
theorem dJ2_getChar_3b067_48 : decode cJ2_getChar_3b067 48 = .ok (.baload, 1) := by decide +kernel
theorem dJ2_getChar_3b067_49 : decode cJ2_getChar_3b067 49 = .ok (.sipush 255, 3) := by decide +kernel
theorem dJ2_getChar_3b067_52 : decode cJ2_getChar_3b067 52 = .ok (.iand, 1) := by decide +kernel
theorem dJ2_getChar_3b067_53 : decode cJ2_getChar_3b067 53 = .ok (.getstatic 63, 3) := by decide +kernel
theorem dJ2_getChar_3b067_56 : decode cJ2_getChar_3b067 56 = .ok (.ishl, 1) := by decide +kernel
theorem dJ2_getChar_3b067_57 : decode cJ2_getChar_3b067 57 = .ok (.ior, 1) := by decide +kernel
theorem dJ2_getChar_3b067_58 : decode cJ2_getChar_3b067 58 = .ok (.i2c, 1) := by decide +kernel
theorem dJ2_getChar_3b067_59 : decode cJ2_getChar_3b067 59 = .ok (.ireturn, 1) := by decide +kernel
theorem dJ2_length_9d52b_0 : decode cJ2_length_9d52b 0 = .ok (.aload_n 0, 1) := by decide +kernel
theorem dJ2_length_9d52b_1 : decode cJ2_length_9d52b 1 = .ok (.arraylength, 1) := by decide +kernel
theorem dJ2_length_9d52b_2 : decode cJ2_length_9d52b 2 = .ok (.iconst 1, 1) := by decide +kernel
theorem dJ2_length_9d52b_3 : decode cJ2_length_9d52b 3 = .ok (.ishr, 1) := by decide +kernel
theorem dJ2_length_9d52b_4 : decode cJ2_length_9d52b 4 = .ok (.ireturn, 1) := by decide +kernel
theorem dJ2_charAt_3b067_0 : decode cJ2_charAt_3b067 0 = .ok (.iload_n 1, 1) := by decide +kernel
theorem dJ2_charAt_3b067_1 : decode cJ2_charAt_3b067 1 = .ok (.aload_n 0, 1) := by decide +kernel
theorem dJ2_charAt_3b067_2 : decode cJ2_charAt_3b067 2 = .ok (.invokestatic 67, 3) := by decide +kernel
theorem dJ2_charAt_3b067_5 : decode cJ2_charAt_3b067 5 = .ok (.aload_n 0, 1) := by decide +kernel
theorem dJ2_charAt_3b067_6 : decode cJ2_charAt_3b067 6 = .ok (.iload_n 1, 1) := by decide +kernel
theorem dJ2_charAt_3b067_7 : decode cJ2_charAt_3b067 7 = .ok (.invokestatic 71, 3) := by decide +kernel
theorem dJ2_charAt_3b067_10 : decode cJ2_charAt_3b067 10 = .ok (.ireturn, 1) := by decide +kernel
theorem dJ2_checkIndex_2214a_0 : decode cJ2_checkIndex_2214a 0 = .ok (.iload_n 0, 1) := by decide +kernel
theorem dJ2_checkIndex_2214a_1 : decode cJ2_checkIndex_2214a 1 = .ok (.aload_n 1, 1) := by decide +kernel
theorem dJ2_checkIndex_2214a_2 : decode cJ2_checkIndex_2214a 2 = .ok (.invokestatic 48, 3) := by decide +kernel
theorem dJ2_checkIndex_2214a_5 : decode cJ2_checkIndex_2214a 5 = .ok (.invokestatic 414, 3) := by decide +kernel
theorem dJ2_checkIndex_2214a_8 : decode cJ2_checkIndex_2214a 8 = .ok (.return_, 1) := by decide +kernel
theorem dJ3_checkIndex_8e157_0 : decode cJ3_checkIndex_8e157 0 = .ok (.iload_n 0, 1) := by decide +kernel
theorem dJ3_checkIndex_8e157_1 : decode cJ3_checkIndex_8e157 1 = .ok (.ifCond .lt 8, 3) := by decide +kernel
theorem dJ3_checkIndex_8e157_4 : decode cJ3_checkIndex_8e157 4 = .ok (.iload_n 0, 1) := by decide +kernel
theorem dJ3_checkIndex_8e157_5 : decode cJ3_checkIndex_8e157 5 = .ok (.iload_n 1, 1) := by decide +kernel
theorem dJ3_checkIndex_8e157_6 : decode cJ3_checkIndex_8e157 6 = .ok (.if_icmp .lt 10, 3) := by decide +kernel
theorem dJ3_checkIndex_8e157_9 : decode cJ3_checkIndex_8e157 9 = .ok (.aload_n 2, 1) := by decide +kernel
theorem dJ3_checkIndex_8e157_10 : decode cJ3_checkIndex_8e157 10 = .ok (.iload_n 0, 1) := by decide +kernel
theorem dJ3_checkIndex_8e157_11 : decode cJ3_checkIndex_8e157 11 = .ok (.iload_n 1, 1) := by decide +kernel
theorem dJ3_checkIndex_8e157_12 : decode cJ3_checkIndex_8e157 12 = .ok (.invokestatic 95, 3) := by decide +kernel
theorem dJ3_checkIndex_8e157_15 : decode cJ3_checkIndex_8e157 15 = .ok (.athrow, 1) := by decide +kernel
theorem dJ3_checkIndex_8e157_16 : decode cJ3_checkIndex_8e157 16 = .ok (.iload_n 0, 1) := by decide +kernel
theorem dJ3_checkIndex_8e157_17 : decode cJ3_checkIndex_8e157 17 = .ok (.ireturn, 1) := by decide +kernel
theorem dL_law_0 : decode cL_law 0 = .ok (.new 7, 3) := by decide +kernel
theorem dL_law_3 : decode cL_law 3 = .ok (.dup, 1) := by decide +kernel
theorem dL_law_4 : decode cL_law 4 = .ok (.invokespecial 9, 3) := by decide +kernel
theorem dL_law_7 : decode cL_law 7 = .ok (.astore_n 1, 1) := by decide +kernel
theorem dL_law_8 : decode cL_law 8 = .ok (.new 10, 3) := by decide +kernel
theorem dL_law_11 : decode cL_law 11 = .ok (.dup, 1) := by decide +kernel
theorem dL_law_12 : decode cL_law 12 = .ok (.invokespecial 12, 3) := by decide +kernel
theorem dL_law_15 : decode cL_law 15 = .ok (.astore_n 2, 1) := by decide +kernel
theorem dL_law_16 : decode cL_law 16 = .ok (.iconst 0, 1) := by decide +kernel
theorem dL_law_17 : decode cL_law 17 = .ok (.istore_n 3, 1) := by decide +kernel
theorem dL_law_18 : decode cL_law 18 = .ok (.iload_n 3, 1) := by decide +kernel
theorem dL_law_19 : decode cL_law 19 = .ok (.aload_n 0, 1) := by decide +kernel
theorem dL_law_20 : decode cL_law 20 = .ok (.arraylength, 1) := by decide +kernel
theorem dL_law_21 : decode cL_law 21 = .ok (.iconst 5, 1) := by decide +kernel
theorem dL_law_22 : decode cL_law 22 = .ok (.isub, 1) := by decide +kernel
theorem dL_law_23 : decode cL_law 23 = .ok (.if_icmp .gt 647, 3) := by decide +kernel
theorem dL_law_26 : decode cL_law 26 = .ok (.aload_n 0, 1) := by decide +kernel
theorem dL_law_27 : decode cL_law 27 = .ok (.iload_n 3, 1) := by decide +kernel
theorem dL_law_28 : decode cL_law 28 = .ok (.iaload, 1) := by decide +kernel
theorem dL_law_29 : decode cL_law 29 = .ok (.bipush 15, 2) := by decide +kernel
theorem dL_law_31 : decode cL_law 31 = .ok (.iand, 1) := by decide +kernel
theorem dL_law_32 : decode cL_law 32 = .ok (.tableswitch 632 0 15 #[80, 133, 156, 195, 258, 301, 314, 327, 376, 399, 432, 455, 478, 517, 540, 573], 80) := by decide +kernel
theorem dL_law_112 : decode cL_law 112 = .ok (.aload_n 1, 1) := by decide +kernel
theorem dL_law_113 : decode cL_law 113 = .ok (.aload_n 0, 1) := by decide +kernel
theorem dL_law_114 : decode cL_law 114 = .ok (.iload_n 3, 1) := by decide +kernel
theorem dL_law_115 : decode cL_law 115 = .ok (.iconst 1, 1) := by decide +kernel
theorem dL_law_116 : decode cL_law 116 = .ok (.iadd, 1) := by decide +kernel
theorem dL_law_117 : decode cL_law 117 = .ok (.iaload, 1) := by decide +kernel
theorem dL_law_118 : decode cL_law 118 = .ok (.aload_n 0, 1) := by decide +kernel
theorem dL_law_119 : decode cL_law 119 = .ok (.iload_n 3, 1) := by decide +kernel
theorem dL_law_120 : decode cL_law 120 = .ok (.iconst 2, 1) := by decide +kernel
theorem dL_law_121 : decode cL_law 121 = .ok (.iadd, 1) := by decide +kernel
theorem dL_law_122 : decode cL_law 122 = .ok (.iaload, 1) := by decide +kernel
theorem dL_law_123 : decode cL_law 123 = .ok (.aload_n 0, 1) := by decide +kernel
theorem dL_law_124 : decode cL_law 124 = .ok (.iload_n 3, 1) := by decide +kernel
theorem dL_law_125 : decode cL_law 125 = .ok (.iconst 3, 1) := by decide +kernel
theorem dL_law_126 : decode cL_law 126 = .ok (.iadd, 1) := by decide +kernel
theorem dL_law_127 : decode cL_law 127 = .ok (.iaload, 1) := by decide +kernel
theorem dL_law_128 : decode cL_law 128 = .ok (.aload_n 0, 1) := by decide +kernel
theorem dL_law_129 : decode cL_law 129 = .ok (.iload_n 3, 1) := by decide +kernel
theorem dL_law_130 : decode cL_law 130 = .ok (.iconst 4, 1) := by decide +kernel
theorem dL_law_131 : decode cL_law 131 = .ok (.iadd, 1) := by decide +kernel
theorem dL_law_132 : decode cL_law 132 = .ok (.iaload, 1) := by decide +kernel
theorem dL_law_133 : decode cL_law 133 = .ok (.invokevirtual 13, 3) := by decide +kernel
theorem dL_law_136 : decode cL_law 136 = .ok (.pop, 1) := by decide +kernel
theorem dL_law_137 : decode cL_law 137 = .ok (.aload_n 2, 1) := by decide +kernel
theorem dL_law_138 : decode cL_law 138 = .ok (.aload_n 0, 1) := by decide +kernel
theorem dL_law_139 : decode cL_law 139 = .ok (.iload_n 3, 1) := by decide +kernel
theorem dL_law_140 : decode cL_law 140 = .ok (.iconst 1, 1) := by decide +kernel
theorem dL_law_141 : decode cL_law 141 = .ok (.iadd, 1) := by decide +kernel
theorem dL_law_142 : decode cL_law 142 = .ok (.iaload, 1) := by decide +kernel
theorem dL_law_143 : decode cL_law 143 = .ok (.aload_n 0, 1) := by decide +kernel
theorem dL_law_144 : decode cL_law 144 = .ok (.iload_n 3, 1) := by decide +kernel
theorem dL_law_145 : decode cL_law 145 = .ok (.iconst 2, 1) := by decide +kernel
theorem dL_law_146 : decode cL_law 146 = .ok (.iadd, 1) := by decide +kernel
theorem dL_law_147 : decode cL_law 147 = .ok (.iaload, 1) := by decide +kernel
theorem dL_law_148 : decode cL_law 148 = .ok (.aload_n 0, 1) := by decide +kernel
theorem dL_law_149 : decode cL_law 149 = .ok (.iload_n 3, 1) := by decide +kernel
theorem dL_law_150 : decode cL_law 150 = .ok (.iconst 3, 1) := by decide +kernel
theorem dL_law_151 : decode cL_law 151 = .ok (.iadd, 1) := by decide +kernel
theorem dL_law_152 : decode cL_law 152 = .ok (.iaload, 1) := by decide +kernel
theorem dL_law_153 : decode cL_law 153 = .ok (.aload_n 0, 1) := by decide +kernel
theorem dL_law_154 : decode cL_law 154 = .ok (.iload_n 3, 1) := by decide +kernel
theorem dL_law_155 : decode cL_law 155 = .ok (.iconst 4, 1) := by decide +kernel
theorem dL_law_156 : decode cL_law 156 = .ok (.iadd, 1) := by decide +kernel
theorem dL_law_157 : decode cL_law 157 = .ok (.iaload, 1) := by decide +kernel
theorem dL_law_158 : decode cL_law 158 = .ok (.invokevirtual 17, 3) := by decide +kernel
theorem dL_law_161 : decode cL_law 161 = .ok (.pop, 1) := by decide +kernel
theorem dL_law_162 : decode cL_law 162 = .ok (.goto 502, 3) := by decide +kernel
theorem dL_law_165 : decode cL_law 165 = .ok (.aload_n 1, 1) := by decide +kernel
theorem dL_law_166 : decode cL_law 166 = .ok (.aload_n 0, 1) := by decide +kernel
theorem dL_law_167 : decode cL_law 167 = .ok (.iload_n 3, 1) := by decide +kernel
theorem dL_law_168 : decode cL_law 168 = .ok (.iconst 1, 1) := by decide +kernel
theorem dL_law_169 : decode cL_law 169 = .ok (.iadd, 1) := by decide +kernel
theorem dL_law_170 : decode cL_law 170 = .ok (.iaload, 1) := by decide +kernel
theorem dL_law_171 : decode cL_law 171 = .ok (.invokevirtual 18, 3) := by decide +kernel
theorem dL_law_174 : decode cL_law 174 = .ok (.pop, 1) := by decide +kernel
theorem dL_law_175 : decode cL_law 175 = .ok (.aload_n 2, 1) := by decide +kernel
theorem dL_law_176 : decode cL_law 176 = .ok (.aload_n 0, 1) := by decide +kernel
theorem dL_law_177 : decode cL_law 177 = .ok (.iload_n 3, 1) := by decide +kernel
theorem dL_law_178 : decode cL_law 178 = .ok (.iconst 1, 1) := by decide +kernel
theorem dL_law_179 : decode cL_law 179 = .ok (.iadd, 1) := by decide +kernel
theorem dL_law_180 : decode cL_law 180 = .ok (.iaload, 1) := by decide +kernel
theorem dL_law_181 : decode cL_law 181 = .ok (.invokevirtual 22, 3) := by decide +kernel
theorem dL_law_184 : decode cL_law 184 = .ok (.pop, 1) := by decide +kernel
theorem dL_law_185 : decode cL_law 185 = .ok (.goto 479, 3) := by decide +kernel
theorem dL_law_188 : decode cL_law 188 = .ok (.aload_n 1, 1) := by decide +kernel
theorem dL_law_189 : decode cL_law 189 = .ok (.aload_n 0, 1) := by decide +kernel
theorem dL_law_190 : decode cL_law 190 = .ok (.iload_n 3, 1) := by decide +kernel
theorem dL_law_191 : decode cL_law 191 = .ok (.iconst 1, 1) := by decide +kernel
theorem dL_law_192 : decode cL_law 192 = .ok (.iadd, 1) := by decide +kernel
theorem dL_law_193 : decode cL_law 193 = .ok (.iaload, 1) := by decide +kernel
theorem dL_law_194 : decode cL_law 194 = .ok (.ifCond .eq 7, 3) := by decide +kernel
theorem dL_law_197 : decode cL_law 197 = .ok (.iconst 1, 1) := by decide +kernel
theorem dL_law_198 : decode cL_law 198 = .ok (.goto 4, 3) := by decide +kernel
theorem dL_law_201 : decode cL_law 201 = .ok (.iconst 0, 1) := by decide +kernel
theorem dL_law_202 : decode cL_law 202 = .ok (.invokevirtual 23, 3) := by decide +kernel
theorem dL_law_205 : decode cL_law 205 = .ok (.pop, 1) := by decide +kernel
theorem dL_law_206 : decode cL_law 206 = .ok (.aload_n 2, 1) := by decide +kernel
theorem dL_law_207 : decode cL_law 207 = .ok (.aload_n 0, 1) := by decide +kernel
theorem dL_law_208 : decode cL_law 208 = .ok (.iload_n 3, 1) := by decide +kernel
theorem dL_law_209 : decode cL_law 209 = .ok (.iconst 1, 1) := by decide +kernel
theorem dL_law_210 : decode cL_law 210 = .ok (.iadd, 1) := by decide +kernel
theorem dL_law_211 : decode cL_law 211 = .ok (.iaload, 1) := by decide +kernel
theorem dL_law_212 : decode cL_law 212 = .ok (.ifCond .eq 7, 3) := by decide +kernel
theorem dL_law_215 : decode cL_law 215 = .ok (.iconst 1, 1) := by decide +kernel
theorem dL_law_216 : decode cL_law 216 = .ok (.goto 4, 3) := by decide +kernel
theorem dL_law_219 : decode cL_law 219 = .ok (.iconst 0, 1) := by decide +kernel
theorem dL_law_220 : decode cL_law 220 = .ok (.invokevirtual 27, 3) := by decide +kernel
theorem dL_law_223 : decode cL_law 223 = .ok (.pop, 1) := by decide +kernel
theorem dL_law_224 : decode cL_law 224 = .ok (.goto 440, 3) := by decide +kernel
theorem dL_law_227 : decode cL_law 227 = .ok (.aload_n 1, 1) := by decide +kernel
theorem dL_law_228 : decode cL_law 228 = .ok (.aload_n 0, 1) := by decide +kernel
theorem dL_law_229 : decode cL_law 229 = .ok (.iload_n 3, 1) := by decide +kernel
theorem dL_law_230 : decode cL_law 230 = .ok (.iconst 1, 1) := by decide +kernel
theorem dL_law_231 : decode cL_law 231 = .ok (.iadd, 1) := by decide +kernel
theorem dL_law_232 : decode cL_law 232 = .ok (.iaload, 1) := by decide +kernel
theorem dL_law_233 : decode cL_law 233 = .ok (.aload_n 0, 1) := by decide +kernel
theorem dL_law_234 : decode cL_law 234 = .ok (.iload_n 3, 1) := by decide +kernel
theorem dL_law_235 : decode cL_law 235 = .ok (.iconst 2, 1) := by decide +kernel
theorem dL_law_236 : decode cL_law 236 = .ok (.iadd, 1) := by decide +kernel
theorem dL_law_237 : decode cL_law 237 = .ok (.iaload, 1) := by decide +kernel
theorem dL_law_238 : decode cL_law 238 = .ok (.i2l, 1) := by decide +kernel
theorem dL_law_239 : decode cL_law 239 = .ok (.bipush 32, 2) := by decide +kernel
theorem dL_law_241 : decode cL_law 241 = .ok (.lshl, 1) := by decide +kernel
theorem dL_law_242 : decode cL_law 242 = .ok (.aload_n 0, 1) := by decide +kernel
theorem dL_law_243 : decode cL_law 243 = .ok (.iload_n 3, 1) := by decide +kernel
theorem dL_law_244 : decode cL_law 244 = .ok (.iconst 3, 1) := by decide +kernel
theorem dL_law_245 : decode cL_law 245 = .ok (.iadd, 1) := by decide +kernel
theorem dL_law_246 : decode cL_law 246 = .ok (.iaload, 1) := by decide +kernel
theorem dL_law_247 : decode cL_law 247 = .ok (.i2l, 1) := by decide +kernel
theorem dL_law_248 : decode cL_law 248 = .ok (.ldc2_w 28, 3) := by decide +kernel
theorem dL_law_251 : decode cL_law 251 = .ok (.land, 1) := by decide +kernel
theorem dL_law_252 : decode cL_law 252 = .ok (.lor, 1) := by decide +kernel
theorem dL_law_253 : decode cL_law 253 = .ok (.invokevirtual 30, 3) := by decide +kernel
theorem dL_law_256 : decode cL_law 256 = .ok (.pop, 1) := by decide +kernel
theorem dL_law_257 : decode cL_law 257 = .ok (.aload_n 2, 1) := by decide +kernel
theorem dL_law_258 : decode cL_law 258 = .ok (.aload_n 0, 1) := by decide +kernel
theorem dL_law_259 : decode cL_law 259 = .ok (.iload_n 3, 1) := by decide +kernel
theorem dL_law_260 : decode cL_law 260 = .ok (.iconst 1, 1) := by decide +kernel
theorem dL_law_261 : decode cL_law 261 = .ok (.iadd, 1) := by decide +kernel
theorem dL_law_262 : decode cL_law 262 = .ok (.iaload, 1) := by decide +kernel
theorem dL_law_263 : decode cL_law 263 = .ok (.aload_n 0, 1) := by decide +kernel
theorem dL_law_264 : decode cL_law 264 = .ok (.iload_n 3, 1) := by decide +kernel
theorem dL_law_265 : decode cL_law 265 = .ok (.iconst 2, 1) := by decide +kernel
theorem dL_law_266 : decode cL_law 266 = .ok (.iadd, 1) := by decide +kernel
theorem dL_law_267 : decode cL_law 267 = .ok (.iaload, 1) := by decide +kernel
theorem dL_law_268 : decode cL_law 268 = .ok (.i2l, 1) := by decide +kernel
theorem dL_law_269 : decode cL_law 269 = .ok (.bipush 32, 2) := by decide +kernel
theorem dL_law_271 : decode cL_law 271 = .ok (.lshl, 1) := by decide +kernel
theorem dL_law_272 : decode cL_law 272 = .ok (.aload_n 0, 1) := by decide +kernel
theorem dL_law_273 : decode cL_law 273 = .ok (.iload_n 3, 1) := by decide +kernel
theorem dL_law_274 : decode cL_law 274 = .ok (.iconst 3, 1) := by decide +kernel
theorem dL_law_275 : decode cL_law 275 = .ok (.iadd, 1) := by decide +kernel
theorem dL_law_276 : decode cL_law 276 = .ok (.iaload, 1) := by decide +kernel
theorem dL_law_277 : decode cL_law 277 = .ok (.i2l, 1) := by decide +kernel
theorem dL_law_278 : decode cL_law 278 = .ok (.ldc2_w 28, 3) := by decide +kernel
theorem dL_law_281 : decode cL_law 281 = .ok (.land, 1) := by decide +kernel
theorem dL_law_282 : decode cL_law 282 = .ok (.lor, 1) := by decide +kernel
theorem dL_law_283 : decode cL_law 283 = .ok (.invokevirtual 34, 3) := by decide +kernel
theorem dL_law_286 : decode cL_law 286 = .ok (.pop, 1) := by decide +kernel
theorem dL_law_287 : decode cL_law 287 = .ok (.goto 377, 3) := by decide +kernel
theorem dL_law_290 : decode cL_law 290 = .ok (.aload_n 1, 1) := by decide +kernel
theorem dL_law_291 : decode cL_law 291 = .ok (.aload_n 0, 1) := by decide +kernel
theorem dL_law_292 : decode cL_law 292 = .ok (.iload_n 3, 1) := by decide +kernel
theorem dL_law_293 : decode cL_law 293 = .ok (.iconst 1, 1) := by decide +kernel
theorem dL_law_294 : decode cL_law 294 = .ok (.iadd, 1) := by decide +kernel
theorem dL_law_295 : decode cL_law 295 = .ok (.iaload, 1) := by decide +kernel
theorem dL_law_296 : decode cL_law 296 = .ok (.aload_n 0, 1) := by decide +kernel
theorem dL_law_297 : decode cL_law 297 = .ok (.iload_n 3, 1) := by decide +kernel
theorem dL_law_298 : decode cL_law 298 = .ok (.iconst 2, 1) := by decide +kernel
theorem dL_law_299 : decode cL_law 299 = .ok (.iadd, 1) := by decide +kernel
theorem dL_law_300 : decode cL_law 300 = .ok (.iaload, 1) := by decide +kernel
theorem dL_law_301 : decode cL_law 301 = .ok (.aload_n 0, 1) := by decide +kernel
theorem dL_law_302 : decode cL_law 302 = .ok (.iload_n 3, 1) := by decide +kernel
theorem dL_law_303 : decode cL_law 303 = .ok (.iconst 3, 1) := by decide +kernel
theorem dL_law_304 : decode cL_law 304 = .ok (.iadd, 1) := by decide +kernel
theorem dL_law_305 : decode cL_law 305 = .ok (.iaload, 1) := by decide +kernel
theorem dL_law_306 : decode cL_law 306 = .ok (.invokevirtual 35, 3) := by decide +kernel
theorem dL_law_309 : decode cL_law 309 = .ok (.pop, 1) := by decide +kernel
theorem dL_law_310 : decode cL_law 310 = .ok (.aload_n 2, 1) := by decide +kernel
theorem dL_law_311 : decode cL_law 311 = .ok (.aload_n 0, 1) := by decide +kernel
theorem dL_law_312 : decode cL_law 312 = .ok (.iload_n 3, 1) := by decide +kernel
theorem dL_law_313 : decode cL_law 313 = .ok (.iconst 1, 1) := by decide +kernel
theorem dL_law_314 : decode cL_law 314 = .ok (.iadd, 1) := by decide +kernel
theorem dL_law_315 : decode cL_law 315 = .ok (.iaload, 1) := by decide +kernel
theorem dL_law_316 : decode cL_law 316 = .ok (.aload_n 0, 1) := by decide +kernel
theorem dL_law_317 : decode cL_law 317 = .ok (.iload_n 3, 1) := by decide +kernel
theorem dL_law_318 : decode cL_law 318 = .ok (.iconst 2, 1) := by decide +kernel
theorem dL_law_319 : decode cL_law 319 = .ok (.iadd, 1) := by decide +kernel
theorem dL_law_320 : decode cL_law 320 = .ok (.iaload, 1) := by decide +kernel
theorem dL_law_321 : decode cL_law 321 = .ok (.aload_n 0, 1) := by decide +kernel
theorem dL_law_322 : decode cL_law 322 = .ok (.iload_n 3, 1) := by decide +kernel
theorem dL_law_323 : decode cL_law 323 = .ok (.iconst 3, 1) := by decide +kernel
theorem dL_law_324 : decode cL_law 324 = .ok (.iadd, 1) := by decide +kernel
theorem dL_law_325 : decode cL_law 325 = .ok (.iaload, 1) := by decide +kernel
theorem dL_law_326 : decode cL_law 326 = .ok (.invokevirtual 39, 3) := by decide +kernel
theorem dL_law_329 : decode cL_law 329 = .ok (.pop, 1) := by decide +kernel
theorem dL_law_330 : decode cL_law 330 = .ok (.goto 334, 3) := by decide +kernel
theorem dL_law_333 : decode cL_law 333 = .ok (.aload_n 1, 1) := by decide +kernel
theorem dL_law_334 : decode cL_law 334 = .ok (.invokevirtual 40, 3) := by decide +kernel
theorem dL_law_337 : decode cL_law 337 = .ok (.pop, 1) := by decide +kernel
theorem dL_law_338 : decode cL_law 338 = .ok (.aload_n 2, 1) := by decide +kernel
theorem dL_law_339 : decode cL_law 339 = .ok (.invokevirtual 44, 3) := by decide +kernel
theorem dL_law_342 : decode cL_law 342 = .ok (.pop, 1) := by decide +kernel
theorem dL_law_343 : decode cL_law 343 = .ok (.goto 321, 3) := by decide +kernel
theorem dL_law_346 : decode cL_law 346 = .ok (.aload_n 1, 1) := by decide +kernel
theorem dL_law_347 : decode cL_law 347 = .ok (.invokevirtual 45, 3) := by decide +kernel
theorem dL_law_350 : decode cL_law 350 = .ok (.pop, 1) := by decide +kernel
theorem dL_law_351 : decode cL_law 351 = .ok (.aload_n 2, 1) := by decide +kernel
theorem dL_law_352 : decode cL_law 352 = .ok (.invokevirtual 48, 3) := by decide +kernel
theorem dL_law_355 : decode cL_law 355 = .ok (.pop, 1) := by decide +kernel
theorem dL_law_356 : decode cL_law 356 = .ok (.goto 308, 3) := by decide +kernel
theorem dL_law_359 : decode cL_law 359 = .ok (.aload_n 1, 1) := by decide +kernel
theorem dL_law_360 : decode cL_law 360 = .ok (.aload_n 0, 1) := by decide +kernel
theorem dL_law_361 : decode cL_law 361 = .ok (.iload_n 3, 1) := by decide +kernel
theorem dL_law_362 : decode cL_law 362 = .ok (.iconst 1, 1) := by decide +kernel
theorem dL_law_363 : decode cL_law 363 = .ok (.iadd, 1) := by decide +kernel
theorem dL_law_364 : decode cL_law 364 = .ok (.iaload, 1) := by decide +kernel
theorem dL_law_365 : decode cL_law 365 = .ok (.aload_n 0, 1) := by decide +kernel
theorem dL_law_366 : decode cL_law 366 = .ok (.iload_n 3, 1) := by decide +kernel
theorem dL_law_367 : decode cL_law 367 = .ok (.iconst 2, 1) := by decide +kernel
theorem dL_law_368 : decode cL_law 368 = .ok (.iadd, 1) := by decide +kernel
theorem dL_law_369 : decode cL_law 369 = .ok (.iaload, 1) := by decide +kernel
theorem dL_law_370 : decode cL_law 370 = .ok (.ifCond .eq 7, 3) := by decide +kernel
theorem dL_law_373 : decode cL_law 373 = .ok (.iconst 1, 1) := by decide +kernel
theorem dL_law_374 : decode cL_law 374 = .ok (.goto 4, 3) := by decide +kernel
theorem dL_law_377 : decode cL_law 377 = .ok (.iconst 0, 1) := by decide +kernel
theorem dL_law_378 : decode cL_law 378 = .ok (.invokevirtual 49, 3) := by decide +kernel
theorem dL_law_381 : decode cL_law 381 = .ok (.pop, 1) := by decide +kernel
theorem dL_law_382 : decode cL_law 382 = .ok (.aload_n 2, 1) := by decide +kernel
theorem dL_law_383 : decode cL_law 383 = .ok (.aload_n 0, 1) := by decide +kernel
theorem dL_law_384 : decode cL_law 384 = .ok (.iload_n 3, 1) := by decide +kernel
theorem dL_law_385 : decode cL_law 385 = .ok (.iconst 1, 1) := by decide +kernel
theorem dL_law_386 : decode cL_law 386 = .ok (.iadd, 1) := by decide +kernel
theorem dL_law_387 : decode cL_law 387 = .ok (.iaload, 1) := by decide +kernel
theorem dL_law_388 : decode cL_law 388 = .ok (.aload_n 0, 1) := by decide +kernel
theorem dL_law_389 : decode cL_law 389 = .ok (.iload_n 3, 1) := by decide +kernel
theorem dL_law_390 : decode cL_law 390 = .ok (.iconst 2, 1) := by decide +kernel
theorem dL_law_391 : decode cL_law 391 = .ok (.iadd, 1) := by decide +kernel
theorem dL_law_392 : decode cL_law 392 = .ok (.iaload, 1) := by decide +kernel
theorem dL_law_393 : decode cL_law 393 = .ok (.ifCond .eq 7, 3) := by decide +kernel
theorem dL_law_396 : decode cL_law 396 = .ok (.iconst 1, 1) := by decide +kernel
theorem dL_law_397 : decode cL_law 397 = .ok (.goto 4, 3) := by decide +kernel
theorem dL_law_400 : decode cL_law 400 = .ok (.iconst 0, 1) := by decide +kernel
theorem dL_law_401 : decode cL_law 401 = .ok (.invokevirtual 53, 3) := by decide +kernel
theorem dL_law_404 : decode cL_law 404 = .ok (.pop, 1) := by decide +kernel
theorem dL_law_405 : decode cL_law 405 = .ok (.goto 259, 3) := by decide +kernel
theorem dL_law_408 : decode cL_law 408 = .ok (.aload_n 1, 1) := by decide +kernel
theorem dL_law_409 : decode cL_law 409 = .ok (.aload_n 0, 1) := by decide +kernel
theorem dL_law_410 : decode cL_law 410 = .ok (.iload_n 3, 1) := by decide +kernel
theorem dL_law_411 : decode cL_law 411 = .ok (.iconst 1, 1) := by decide +kernel
theorem dL_law_412 : decode cL_law 412 = .ok (.iadd, 1) := by decide +kernel
theorem dL_law_413 : decode cL_law 413 = .ok (.iaload, 1) := by decide +kernel
theorem dL_law_414 : decode cL_law 414 = .ok (.invokevirtual 54, 3) := by decide +kernel
theorem dL_law_417 : decode cL_law 417 = .ok (.pop, 1) := by decide +kernel
theorem dL_law_418 : decode cL_law 418 = .ok (.aload_n 2, 1) := by decide +kernel
theorem dL_law_419 : decode cL_law 419 = .ok (.aload_n 0, 1) := by decide +kernel
theorem dL_law_420 : decode cL_law 420 = .ok (.iload_n 3, 1) := by decide +kernel
theorem dL_law_421 : decode cL_law 421 = .ok (.iconst 1, 1) := by decide +kernel
theorem dL_law_422 : decode cL_law 422 = .ok (.iadd, 1) := by decide +kernel
theorem dL_law_423 : decode cL_law 423 = .ok (.iaload, 1) := by decide +kernel
theorem dL_law_424 : decode cL_law 424 = .ok (.invokevirtual 57, 3) := by decide +kernel
theorem dL_law_427 : decode cL_law 427 = .ok (.pop, 1) := by decide +kernel
theorem dL_law_428 : decode cL_law 428 = .ok (.goto 236, 3) := by decide +kernel
theorem dL_law_431 : decode cL_law 431 = .ok (.aload_n 1, 1) := by decide +kernel
theorem dL_law_432 : decode cL_law 432 = .ok (.aload_n 0, 1) := by decide +kernel
theorem dL_law_433 : decode cL_law 433 = .ok (.iload_n 3, 1) := by decide +kernel
theorem dL_law_434 : decode cL_law 434 = .ok (.iconst 1, 1) := by decide +kernel
theorem dL_law_435 : decode cL_law 435 = .ok (.iadd, 1) := by decide +kernel
theorem dL_law_436 : decode cL_law 436 = .ok (.iaload, 1) := by decide +kernel
theorem dL_law_437 : decode cL_law 437 = .ok (.aload_n 0, 1) := by decide +kernel
theorem dL_law_438 : decode cL_law 438 = .ok (.iload_n 3, 1) := by decide +kernel
theorem dL_law_439 : decode cL_law 439 = .ok (.iconst 2, 1) := by decide +kernel
theorem dL_law_440 : decode cL_law 440 = .ok (.iadd, 1) := by decide +kernel
theorem dL_law_441 : decode cL_law 441 = .ok (.iaload, 1) := by decide +kernel
theorem dL_law_442 : decode cL_law 442 = .ok (.invokevirtual 58, 3) := by decide +kernel
theorem dL_law_445 : decode cL_law 445 = .ok (.pop, 1) := by decide +kernel
theorem dL_law_446 : decode cL_law 446 = .ok (.aload_n 2, 1) := by decide +kernel
theorem dL_law_447 : decode cL_law 447 = .ok (.aload_n 0, 1) := by decide +kernel
theorem dL_law_448 : decode cL_law 448 = .ok (.iload_n 3, 1) := by decide +kernel
theorem dL_law_449 : decode cL_law 449 = .ok (.iconst 1, 1) := by decide +kernel
theorem dL_law_450 : decode cL_law 450 = .ok (.iadd, 1) := by decide +kernel
theorem dL_law_451 : decode cL_law 451 = .ok (.iaload, 1) := by decide +kernel
theorem dL_law_452 : decode cL_law 452 = .ok (.aload_n 0, 1) := by decide +kernel
theorem dL_law_453 : decode cL_law 453 = .ok (.iload_n 3, 1) := by decide +kernel
theorem dL_law_454 : decode cL_law 454 = .ok (.iconst 2, 1) := by decide +kernel
theorem dL_law_455 : decode cL_law 455 = .ok (.iadd, 1) := by decide +kernel
theorem dL_law_456 : decode cL_law 456 = .ok (.iaload, 1) := by decide +kernel
theorem dL_law_457 : decode cL_law 457 = .ok (.invokevirtual 62, 3) := by decide +kernel
theorem dL_law_460 : decode cL_law 460 = .ok (.pop, 1) := by decide +kernel
theorem dL_law_461 : decode cL_law 461 = .ok (.goto 203, 3) := by decide +kernel
theorem dL_law_464 : decode cL_law 464 = .ok (.aload_n 1, 1) := by decide +kernel
theorem dL_law_465 : decode cL_law 465 = .ok (.aload_n 0, 1) := by decide +kernel
theorem dL_law_466 : decode cL_law 466 = .ok (.iload_n 3, 1) := by decide +kernel
theorem dL_law_467 : decode cL_law 467 = .ok (.iconst 1, 1) := by decide +kernel
theorem dL_law_468 : decode cL_law 468 = .ok (.iadd, 1) := by decide +kernel
theorem dL_law_469 : decode cL_law 469 = .ok (.iaload, 1) := by decide +kernel
theorem dL_law_470 : decode cL_law 470 = .ok (.invokevirtual 63, 3) := by decide +kernel
theorem dL_law_473 : decode cL_law 473 = .ok (.pop, 1) := by decide +kernel
theorem dL_law_474 : decode cL_law 474 = .ok (.aload_n 2, 1) := by decide +kernel
theorem dL_law_475 : decode cL_law 475 = .ok (.aload_n 0, 1) := by decide +kernel
theorem dL_law_476 : decode cL_law 476 = .ok (.iload_n 3, 1) := by decide +kernel
theorem dL_law_477 : decode cL_law 477 = .ok (.iconst 1, 1) := by decide +kernel
theorem dL_law_478 : decode cL_law 478 = .ok (.iadd, 1) := by decide +kernel
theorem dL_law_479 : decode cL_law 479 = .ok (.iaload, 1) := by decide +kernel
theorem dL_law_480 : decode cL_law 480 = .ok (.invokevirtual 66, 3) := by decide +kernel
theorem dL_law_483 : decode cL_law 483 = .ok (.pop, 1) := by decide +kernel
theorem dL_law_484 : decode cL_law 484 = .ok (.goto 180, 3) := by decide +kernel
theorem dL_law_487 : decode cL_law 487 = .ok (.aload_n 1, 1) := by decide +kernel
theorem dL_law_488 : decode cL_law 488 = .ok (.aload_n 0, 1) := by decide +kernel
theorem dL_law_489 : decode cL_law 489 = .ok (.iload_n 3, 1) := by decide +kernel
theorem dL_law_490 : decode cL_law 490 = .ok (.iconst 1, 1) := by decide +kernel
theorem dL_law_491 : decode cL_law 491 = .ok (.iadd, 1) := by decide +kernel
theorem dL_law_492 : decode cL_law 492 = .ok (.iaload, 1) := by decide +kernel
theorem dL_law_493 : decode cL_law 493 = .ok (.invokevirtual 67, 3) := by decide +kernel
theorem dL_law_496 : decode cL_law 496 = .ok (.pop, 1) := by decide +kernel
theorem dL_law_497 : decode cL_law 497 = .ok (.aload_n 2, 1) := by decide +kernel
theorem dL_law_498 : decode cL_law 498 = .ok (.aload_n 0, 1) := by decide +kernel
theorem dL_law_499 : decode cL_law 499 = .ok (.iload_n 3, 1) := by decide +kernel
theorem dL_law_500 : decode cL_law 500 = .ok (.iconst 1, 1) := by decide +kernel
theorem dL_law_501 : decode cL_law 501 = .ok (.iadd, 1) := by decide +kernel
theorem dL_law_502 : decode cL_law 502 = .ok (.iaload, 1) := by decide +kernel
theorem dL_law_503 : decode cL_law 503 = .ok (.invokevirtual 70, 3) := by decide +kernel
theorem dL_law_506 : decode cL_law 506 = .ok (.pop, 1) := by decide +kernel
theorem dL_law_507 : decode cL_law 507 = .ok (.goto 157, 3) := by decide +kernel
theorem dL_law_510 : decode cL_law 510 = .ok (.aload_n 1, 1) := by decide +kernel
theorem dL_law_511 : decode cL_law 511 = .ok (.aload_n 0, 1) := by decide +kernel
theorem dL_law_512 : decode cL_law 512 = .ok (.iload_n 3, 1) := by decide +kernel
theorem dL_law_513 : decode cL_law 513 = .ok (.iconst 1, 1) := by decide +kernel
theorem dL_law_514 : decode cL_law 514 = .ok (.iadd, 1) := by decide +kernel
theorem dL_law_515 : decode cL_law 515 = .ok (.iaload, 1) := by decide +kernel
theorem dL_law_516 : decode cL_law 516 = .ok (.ifCond .eq 7, 3) := by decide +kernel
theorem dL_law_519 : decode cL_law 519 = .ok (.iconst 1, 1) := by decide +kernel
theorem dL_law_520 : decode cL_law 520 = .ok (.goto 4, 3) := by decide +kernel
theorem dL_law_523 : decode cL_law 523 = .ok (.iconst 0, 1) := by decide +kernel
theorem dL_law_524 : decode cL_law 524 = .ok (.invokevirtual 71, 3) := by decide +kernel
theorem dL_law_527 : decode cL_law 527 = .ok (.pop, 1) := by decide +kernel
theorem dL_law_528 : decode cL_law 528 = .ok (.aload_n 2, 1) := by decide +kernel
theorem dL_law_529 : decode cL_law 529 = .ok (.aload_n 0, 1) := by decide +kernel
theorem dL_law_530 : decode cL_law 530 = .ok (.iload_n 3, 1) := by decide +kernel
theorem dL_law_531 : decode cL_law 531 = .ok (.iconst 1, 1) := by decide +kernel
theorem dL_law_532 : decode cL_law 532 = .ok (.iadd, 1) := by decide +kernel
theorem dL_law_533 : decode cL_law 533 = .ok (.iaload, 1) := by decide +kernel
theorem dL_law_534 : decode cL_law 534 = .ok (.ifCond .eq 7, 3) := by decide +kernel
theorem dL_law_537 : decode cL_law 537 = .ok (.iconst 1, 1) := by decide +kernel
theorem dL_law_538 : decode cL_law 538 = .ok (.goto 4, 3) := by decide +kernel
theorem dL_law_541 : decode cL_law 541 = .ok (.iconst 0, 1) := by decide +kernel
theorem dL_law_542 : decode cL_law 542 = .ok (.invokevirtual 74, 3) := by decide +kernel
theorem dL_law_545 : decode cL_law 545 = .ok (.pop, 1) := by decide +kernel
theorem dL_law_546 : decode cL_law 546 = .ok (.goto 118, 3) := by decide +kernel
theorem dL_law_549 : decode cL_law 549 = .ok (.aload_n 1, 1) := by decide +kernel
theorem dL_law_550 : decode cL_law 550 = .ok (.aload_n 0, 1) := by decide +kernel
theorem dL_law_551 : decode cL_law 551 = .ok (.iload_n 3, 1) := by decide +kernel
theorem dL_law_552 : decode cL_law 552 = .ok (.iconst 1, 1) := by decide +kernel
theorem dL_law_553 : decode cL_law 553 = .ok (.iadd, 1) := by decide +kernel
theorem dL_law_554 : decode cL_law 554 = .ok (.iaload, 1) := by decide +kernel
theorem dL_law_555 : decode cL_law 555 = .ok (.invokevirtual 75, 3) := by decide +kernel
theorem dL_law_558 : decode cL_law 558 = .ok (.pop, 1) := by decide +kernel
theorem dL_law_559 : decode cL_law 559 = .ok (.aload_n 2, 1) := by decide +kernel
theorem dL_law_560 : decode cL_law 560 = .ok (.aload_n 0, 1) := by decide +kernel
theorem dL_law_561 : decode cL_law 561 = .ok (.iload_n 3, 1) := by decide +kernel
theorem dL_law_562 : decode cL_law 562 = .ok (.iconst 1, 1) := by decide +kernel
theorem dL_law_563 : decode cL_law 563 = .ok (.iadd, 1) := by decide +kernel
theorem dL_law_564 : decode cL_law 564 = .ok (.iaload, 1) := by decide +kernel
theorem dL_law_565 : decode cL_law 565 = .ok (.invokevirtual 78, 3) := by decide +kernel
theorem dL_law_568 : decode cL_law 568 = .ok (.pop, 1) := by decide +kernel
theorem dL_law_569 : decode cL_law 569 = .ok (.goto 95, 3) := by decide +kernel
theorem dL_law_572 : decode cL_law 572 = .ok (.aload_n 1, 1) := by decide +kernel
theorem dL_law_573 : decode cL_law 573 = .ok (.aload_n 0, 1) := by decide +kernel
theorem dL_law_574 : decode cL_law 574 = .ok (.iload_n 3, 1) := by decide +kernel
theorem dL_law_575 : decode cL_law 575 = .ok (.iconst 1, 1) := by decide +kernel
theorem dL_law_576 : decode cL_law 576 = .ok (.iadd, 1) := by decide +kernel
theorem dL_law_577 : decode cL_law 577 = .ok (.iaload, 1) := by decide +kernel
theorem dL_law_578 : decode cL_law 578 = .ok (.aload_n 0, 1) := by decide +kernel
theorem dL_law_579 : decode cL_law 579 = .ok (.iload_n 3, 1) := by decide +kernel
theorem dL_law_580 : decode cL_law 580 = .ok (.iconst 2, 1) := by decide +kernel
theorem dL_law_581 : decode cL_law 581 = .ok (.iadd, 1) := by decide +kernel
theorem dL_law_582 : decode cL_law 582 = .ok (.iaload, 1) := by decide +kernel
theorem dL_law_583 : decode cL_law 583 = .ok (.invokevirtual 79, 3) := by decide +kernel
theorem dL_law_586 : decode cL_law 586 = .ok (.pop2, 1) := by decide +kernel
theorem dL_law_587 : decode cL_law 587 = .ok (.aload_n 2, 1) := by decide +kernel
theorem dL_law_588 : decode cL_law 588 = .ok (.aload_n 0, 1) := by decide +kernel
theorem dL_law_589 : decode cL_law 589 = .ok (.iload_n 3, 1) := by decide +kernel
theorem dL_law_590 : decode cL_law 590 = .ok (.iconst 1, 1) := by decide +kernel
theorem dL_law_591 : decode cL_law 591 = .ok (.iadd, 1) := by decide +kernel
theorem dL_law_592 : decode cL_law 592 = .ok (.iaload, 1) := by decide +kernel
theorem dL_law_593 : decode cL_law 593 = .ok (.aload_n 0, 1) := by decide +kernel
theorem dL_law_594 : decode cL_law 594 = .ok (.iload_n 3, 1) := by decide +kernel
theorem dL_law_595 : decode cL_law 595 = .ok (.iconst 2, 1) := by decide +kernel
theorem dL_law_596 : decode cL_law 596 = .ok (.iadd, 1) := by decide +kernel
theorem dL_law_597 : decode cL_law 597 = .ok (.iaload, 1) := by decide +kernel
theorem dL_law_598 : decode cL_law 598 = .ok (.invokevirtual 83, 3) := by decide +kernel
theorem dL_law_601 : decode cL_law 601 = .ok (.pop2, 1) := by decide +kernel
theorem dL_law_602 : decode cL_law 602 = .ok (.goto 62, 3) := by decide +kernel
theorem dL_law_605 : decode cL_law 605 = .ok (.aload_n 1, 1) := by decide +kernel
theorem dL_law_606 : decode cL_law 606 = .ok (.aload_n 0, 1) := by decide +kernel
theorem dL_law_607 : decode cL_law 607 = .ok (.iload_n 3, 1) := by decide +kernel
theorem dL_law_608 : decode cL_law 608 = .ok (.iconst 1, 1) := by decide +kernel
theorem dL_law_609 : decode cL_law 609 = .ok (.iadd, 1) := by decide +kernel
theorem dL_law_610 : decode cL_law 610 = .ok (.iaload, 1) := by decide +kernel
theorem dL_law_611 : decode cL_law 611 = .ok (.aload_n 0, 1) := by decide +kernel
theorem dL_law_612 : decode cL_law 612 = .ok (.iload_n 3, 1) := by decide +kernel
theorem dL_law_613 : decode cL_law 613 = .ok (.iconst 2, 1) := by decide +kernel
theorem dL_law_614 : decode cL_law 614 = .ok (.iadd, 1) := by decide +kernel
theorem dL_law_615 : decode cL_law 615 = .ok (.iaload, 1) := by decide +kernel
theorem dL_law_616 : decode cL_law 616 = .ok (.ifCond .eq 7, 3) := by decide +kernel
theorem dL_law_619 : decode cL_law 619 = .ok (.iconst 1, 1) := by decide +kernel
theorem dL_law_620 : decode cL_law 620 = .ok (.goto 4, 3) := by decide +kernel
theorem dL_law_623 : decode cL_law 623 = .ok (.iconst 0, 1) := by decide +kernel
theorem dL_law_624 : decode cL_law 624 = .ok (.aload_n 0, 1) := by decide +kernel
theorem dL_law_625 : decode cL_law 625 = .ok (.iload_n 3, 1) := by decide +kernel
theorem dL_law_626 : decode cL_law 626 = .ok (.iconst 3, 1) := by decide +kernel
theorem dL_law_627 : decode cL_law 627 = .ok (.iadd, 1) := by decide +kernel
theorem dL_law_628 : decode cL_law 628 = .ok (.iaload, 1) := by decide +kernel
theorem dL_law_629 : decode cL_law 629 = .ok (.invokevirtual 84, 3) := by decide +kernel
theorem dL_law_632 : decode cL_law 632 = .ok (.aload_n 2, 1) := by decide +kernel
theorem dL_law_633 : decode cL_law 633 = .ok (.aload_n 0, 1) := by decide +kernel
theorem dL_law_634 : decode cL_law 634 = .ok (.iload_n 3, 1) := by decide +kernel
theorem dL_law_635 : decode cL_law 635 = .ok (.iconst 1, 1) := by decide +kernel
theorem dL_law_636 : decode cL_law 636 = .ok (.iadd, 1) := by decide +kernel
theorem dL_law_637 : decode cL_law 637 = .ok (.iaload, 1) := by decide +kernel
theorem dL_law_638 : decode cL_law 638 = .ok (.aload_n 0, 1) := by decide +kernel
theorem dL_law_639 : decode cL_law 639 = .ok (.iload_n 3, 1) := by decide +kernel
theorem dL_law_640 : decode cL_law 640 = .ok (.iconst 2, 1) := by decide +kernel
theorem dL_law_641 : decode cL_law 641 = .ok (.iadd, 1) := by decide +kernel
theorem dL_law_642 : decode cL_law 642 = .ok (.iaload, 1) := by decide +kernel
theorem dL_law_643 : decode cL_law 643 = .ok (.ifCond .eq 7, 3) := by decide +kernel
theorem dL_law_646 : decode cL_law 646 = .ok (.iconst 1, 1) := by decide +kernel
theorem dL_law_647 : decode cL_law 647 = .ok (.goto 4, 3) := by decide +kernel
theorem dL_law_650 : decode cL_law 650 = .ok (.iconst 0, 1) := by decide +kernel
theorem dL_law_651 : decode cL_law 651 = .ok (.aload_n 0, 1) := by decide +kernel
theorem dL_law_652 : decode cL_law 652 = .ok (.iload_n 3, 1) := by decide +kernel
theorem dL_law_653 : decode cL_law 653 = .ok (.iconst 3, 1) := by decide +kernel
theorem dL_law_654 : decode cL_law 654 = .ok (.iadd, 1) := by decide +kernel
theorem dL_law_655 : decode cL_law 655 = .ok (.iaload, 1) := by decide +kernel
theorem dL_law_656 : decode cL_law 656 = .ok (.invokevirtual 88, 3) := by decide +kernel
theorem dL_law_659 : decode cL_law 659 = .ok (.if_icmp .eq 5, 3) := by decide +kernel
theorem dL_law_662 : decode cL_law 662 = .ok (.iconst 0, 1) := by decide +kernel
theorem dL_law_663 : decode cL_law 663 = .ok (.ireturn, 1) := by decide +kernel
theorem dL_law_664 : decode cL_law 664 = .ok (.iinc 3 5, 3) := by decide +kernel
theorem dL_law_667 : decode cL_law 667 = .ok (.goto (-649), 3) := by decide +kernel
theorem dL_law_670 : decode cL_law 670 = .ok (.iconst 1, 1) := by decide +kernel
theorem dL_law_671 : decode cL_law 671 = .ok (.ireturn, 1) := by decide +kernel
