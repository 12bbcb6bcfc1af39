theorem dX6_fitted_152 : decode cX6_fitted 152 = .ok (.isub, 1) := by decide +kernel
theorem dX6_fitted_153 : decode cX6_fitted 153 = .ok (.aload_n 0, 1) := by decide +kernel
theorem dX6_fitted_154 : decode cX6_fitted 154 = .ok (.iconst 0, 1) := by decide +kernel
theorem dX6_fitted_155 : decode cX6_fitted 155 = .ok (.invokevirtual 128, 3) := by decide +kernel
theorem dX6_fitted_158 : decode cX6_fitted 158 = .ok (.iload_n 2, 1) := by decide +kernel
theorem dX6_fitted_159 : decode cX6_fitted 159 = .ok (.isub, 1) := by decide +kernel
theorem dX6_fitted_160 : decode cX6_fitted 160 = .ok (.invokestatic 117, 3) := by decide +kernel
theorem dX6_fitted_163 : decode cX6_fitted 163 = .ok (.istore 6, 2) := by decide +kernel
theorem dX6_fitted_165 : decode cX6_fitted 165 = .ok (.aload_n 0, 1) := by decide +kernel
theorem dX6_fitted_166 : decode cX6_fitted 166 = .ok (.getfield 60, 3) := by decide +kernel
theorem dX6_fitted_169 : decode cX6_fitted 169 = .ok (.iconst 0, 1) := by decide +kernel
theorem dX6_fitted_170 : decode cX6_fitted 170 = .ok (.iload_n 1, 1) := by decide +kernel
theorem dX6_fitted_171 : decode cX6_fitted 171 = .ok (.ifCond .eq 7, 3) := by decide +kernel
theorem dX6_fitted_174 : decode cX6_fitted 174 = .ok (.iconst 0, 1) := by decide +kernel
theorem dX6_fitted_175 : decode cX6_fitted 175 = .ok (.goto 5, 3) := by decide +kernel
theorem dX6_fitted_178 : decode cX6_fitted 178 = .ok (.ldc 127, 2) := by decide +kernel
theorem dX6_fitted_180 : decode cX6_fitted 180 = .ok (.iastore, 1) := by decide +kernel
theorem dX6_fitted_181 : decode cX6_fitted 181 = .ok (.aload_n 0, 1) := by decide +kernel
theorem dX6_fitted_182 : decode cX6_fitted 182 = .ok (.getfield 63, 3) := by decide +kernel
theorem dX6_fitted_185 : decode cX6_fitted 185 = .ok (.iconst 0, 1) := by decide +kernel
theorem dX6_fitted_186 : decode cX6_fitted 186 = .ok (.ldc 127, 2) := by decide +kernel
theorem dX6_fitted_188 : decode cX6_fitted 188 = .ok (.iastore, 1) := by decide +kernel
theorem dX6_fitted_189 : decode cX6_fitted 189 = .ok (.aload_n 0, 1) := by decide +kernel
theorem dX6_fitted_190 : decode cX6_fitted 190 = .ok (.getfield 66, 3) := by decide +kernel
theorem dX6_fitted_193 : decode cX6_fitted 193 = .ok (.iconst 0, 1) := by decide +kernel
theorem dX6_fitted_194 : decode cX6_fitted 194 = .ok (.iload 6, 2) := by decide +kernel
theorem dX6_fitted_196 : decode cX6_fitted 196 = .ok (.iastore, 1) := by decide +kernel
theorem dX6_fitted_197 : decode cX6_fitted 197 = .ok (.iconst 1, 1) := by decide +kernel
theorem dX6_fitted_198 : decode cX6_fitted 198 = .ok (.istore 7, 2) := by decide +kernel
theorem dX6_fitted_200 : decode cX6_fitted 200 = .ok (.iload 7, 2) := by decide +kernel
theorem dX6_fitted_202 : decode cX6_fitted 202 = .ok (.aload_n 0, 1) := by decide +kernel
theorem dX6_fitted_203 : decode cX6_fitted 203 = .ok (.getfield 75, 3) := by decide +kernel
theorem dX6_fitted_206 : decode cX6_fitted 206 = .ok (.if_icmp .gt 178, 3) := by decide +kernel
theorem dX6_fitted_209 : decode cX6_fitted 209 = .ok (.aload_n 0, 1) := by decide +kernel
theorem dX6_fitted_210 : decode cX6_fitted 210 = .ok (.iload 7, 2) := by decide +kernel
theorem dX6_fitted_212 : decode cX6_fitted 212 = .ok (.invokevirtual 128, 3) := by decide +kernel
theorem dX6_fitted_215 : decode cX6_fitted 215 = .ok (.istore 8, 2) := by decide +kernel
theorem dX6_fitted_217 : decode cX6_fitted 217 = .ok (.aload_n 0, 1) := by decide +kernel
theorem dX6_fitted_218 : decode cX6_fitted 218 = .ok (.getfield 66, 3) := by decide +kernel
theorem dX6_fitted_221 : decode cX6_fitted 221 = .ok (.iload 7, 2) := by decide +kernel
theorem dX6_fitted_223 : decode cX6_fitted 223 = .ok (.iaload, 1) := by decide +kernel
theorem dX6_fitted_224 : decode cX6_fitted 224 = .ok (.aload_n 0, 1) := by decide +kernel
theorem dX6_fitted_225 : decode cX6_fitted 225 = .ok (.getfield 57, 3) := by decide +kernel
theorem dX6_fitted_228 : decode cX6_fitted 228 = .ok (.isub, 1) := by decide +kernel
theorem dX6_fitted_229 : decode cX6_fitted 229 = .ok (.iload 8, 2) := by decide +kernel
theorem dX6_fitted_231 : decode cX6_fitted 231 = .ok (.iload_n 2, 1) := by decide +kernel
theorem dX6_fitted_232 : decode cX6_fitted 232 = .ok (.isub, 1) := by decide +kernel
theorem dX6_fitted_233 : decode cX6_fitted 233 = .ok (.invokestatic 117, 3) := by decide +kernel
theorem dX6_fitted_236 : decode cX6_fitted 236 = .ok (.istore 9, 2) := by decide +kernel
theorem dX6_fitted_238 : decode cX6_fitted 238 = .ok (.iload 5, 2) := by decide +kernel
theorem dX6_fitted_240 : decode cX6_fitted 240 = .ok (.aload_n 0, 1) := by decide +kernel
theorem dX6_fitted_241 : decode cX6_fitted 241 = .ok (.getfield 50, 3) := by decide +kernel
theorem dX6_fitted_244 : decode cX6_fitted 244 = .ok (.bipush 8, 2) := by decide +kernel
theorem dX6_fitted_246 : decode cX6_fitted 246 = .ok (.aload_n 0, 1) := by decide +kernel
theorem dX6_fitted_247 : decode cX6_fitted 247 = .ok (.getfield 7, 3) := by decide +kernel
theorem dX6_fitted_250 : decode cX6_fitted 250 = .ok (.iload 4, 2) := by decide +kernel
theorem dX6_fitted_252 : decode cX6_fitted 252 = .ok (.iconst 1, 1) := by decide +kernel
theorem dX6_fitted_253 : decode cX6_fitted 253 = .ok (.isub, 1) := by decide +kernel
theorem dX6_fitted_254 : decode cX6_fitted 254 = .ok (.iaload, 1) := by decide +kernel
theorem dX6_fitted_255 : decode cX6_fitted 255 = .ok (.bipush 8, 2) := by decide +kernel
theorem dX6_fitted_257 : decode cX6_fitted 257 = .ok (.irem, 1) := by decide +kernel
theorem dX6_fitted_258 : decode cX6_fitted 258 = .ok (.imul, 1) := by decide +kernel
theorem dX6_fitted_259 : decode cX6_fitted 259 = .ok (.aload_n 0, 1) := by decide +kernel
theorem dX6_fitted_260 : decode cX6_fitted 260 = .ok (.getfield 13, 3) := by decide +kernel
theorem dX6_fitted_263 : decode cX6_fitted 263 = .ok (.iload 7, 2) := by decide +kernel
theorem dX6_fitted_265 : decode cX6_fitted 265 = .ok (.iconst 1, 1) := by decide +kernel
theorem dX6_fitted_266 : decode cX6_fitted 266 = .ok (.isub, 1) := by decide +kernel
theorem dX6_fitted_267 : decode cX6_fitted 267 = .ok (.iaload, 1) := by decide +kernel
theorem dX6_fitted_268 : decode cX6_fitted 268 = .ok (.bipush 8, 2) := by decide +kernel
theorem dX6_fitted_270 : decode cX6_fitted 270 = .ok (.irem, 1) := by decide +kernel
theorem dX6_fitted_271 : decode cX6_fitted 271 = .ok (.iadd, 1) := by decide +kernel
theorem dX6_fitted_272 : decode cX6_fitted 272 = .ok (.iaload, 1) := by decide +kernel
theorem dX6_fitted_273 : decode cX6_fitted 273 = .ok (.iadd, 1) := by decide +kernel
theorem dX6_fitted_274 : decode cX6_fitted 274 = .ok (.istore 10, 2) := by decide +kernel
theorem dX6_fitted_276 : decode cX6_fitted 276 = .ok (.aload_n 0, 1) := by decide +kernel
theorem dX6_fitted_277 : decode cX6_fitted 277 = .ok (.getfield 60, 3) := by decide +kernel
theorem dX6_fitted_280 : decode cX6_fitted 280 = .ok (.iload 7, 2) := by decide +kernel
theorem dX6_fitted_282 : decode cX6_fitted 282 = .ok (.iload_n 1, 1) := by decide +kernel
theorem dX6_fitted_283 : decode cX6_fitted 283 = .ok (.ifCond .eq 12, 3) := by decide +kernel
theorem dX6_fitted_286 : decode cX6_fitted 286 = .ok (.iload 10, 2) := by decide +kernel
theorem dX6_fitted_288 : decode cX6_fitted 288 = .ok (.ifCond .ge 7, 3) := by decide +kernel
theorem dX6_fitted_291 : decode cX6_fitted 291 = .ok (.iconst 0, 1) := by decide +kernel
theorem dX6_fitted_292 : decode cX6_fitted 292 = .ok (.goto 5, 3) := by decide +kernel
theorem dX6_fitted_295 : decode cX6_fitted 295 = .ok (.iload 10, 2) := by decide +kernel
theorem dX6_fitted_297 : decode cX6_fitted 297 = .ok (.iastore, 1) := by decide +kernel
theorem dX6_fitted_298 : decode cX6_fitted 298 = .ok (.aload_n 0, 1) := by decide +kernel
theorem dX6_fitted_299 : decode cX6_fitted 299 = .ok (.getfield 63, 3) := by decide +kernel
theorem dX6_fitted_302 : decode cX6_fitted 302 = .ok (.iload 7, 2) := by decide +kernel
theorem dX6_fitted_304 : decode cX6_fitted 304 = .ok (.aload_n 0, 1) := by decide +kernel
theorem dX6_fitted_305 : decode cX6_fitted 305 = .ok (.getfield 63, 3) := by decide +kernel
theorem dX6_fitted_308 : decode cX6_fitted 308 = .ok (.iload 7, 2) := by decide +kernel
theorem dX6_fitted_310 : decode cX6_fitted 310 = .ok (.iconst 1, 1) := by decide +kernel
theorem dX6_fitted_311 : decode cX6_fitted 311 = .ok (.isub, 1) := by decide +kernel
theorem dX6_fitted_312 : decode cX6_fitted 312 = .ok (.iaload, 1) := by decide +kernel
theorem dX6_fitted_313 : decode cX6_fitted 313 = .ok (.aload_n 0, 1) := by decide +kernel
theorem dX6_fitted_314 : decode cX6_fitted 314 = .ok (.getfield 57, 3) := by decide +kernel
theorem dX6_fitted_317 : decode cX6_fitted 317 = .ok (.isub, 1) := by decide +kernel
theorem dX6_fitted_318 : decode cX6_fitted 318 = .ok (.aload_n 0, 1) := by decide +kernel
theorem dX6_fitted_319 : decode cX6_fitted 319 = .ok (.iload 7, 2) := by decide +kernel
theorem dX6_fitted_321 : decode cX6_fitted 321 = .ok (.iconst 1, 1) := by decide +kernel
theorem dX6_fitted_322 : decode cX6_fitted 322 = .ok (.isub, 1) := by decide +kernel
theorem dX6_fitted_323 : decode cX6_fitted 323 = .ok (.invokevirtual 128, 3) := by decide +kernel
theorem dX6_fitted_326 : decode cX6_fitted 326 = .ok (.iload_n 2, 1) := by decide +kernel
theorem dX6_fitted_327 : decode cX6_fitted 327 = .ok (.isub, 1) := by decide +kernel
theorem dX6_fitted_328 : decode cX6_fitted 328 = .ok (.invokestatic 117, 3) := by decide +kernel
theorem dX6_fitted_331 : decode cX6_fitted 331 = .ok (.iastore, 1) := by decide +kernel
theorem dX6_fitted_332 : decode cX6_fitted 332 = .ok (.aload_n 0, 1) := by decide +kernel
theorem dX6_fitted_333 : decode cX6_fitted 333 = .ok (.getfield 66, 3) := by decide +kernel
theorem dX6_fitted_336 : decode cX6_fitted 336 = .ok (.iload 7, 2) := by decide +kernel
theorem dX6_fitted_338 : decode cX6_fitted 338 = .ok (.iload 9, 2) := by decide +kernel
theorem dX6_fitted_340 : decode cX6_fitted 340 = .ok (.iastore, 1) := by decide +kernel
theorem dX6_fitted_341 : decode cX6_fitted 341 = .ok (.iload 8, 2) := by decide +kernel
theorem dX6_fitted_343 : decode cX6_fitted 343 = .ok (.istore 5, 2) := by decide +kernel
theorem dX6_fitted_345 : decode cX6_fitted 345 = .ok (.iload_n 1, 1) := by decide +kernel
theorem dX6_fitted_346 : decode cX6_fitted 346 = .ok (.ifCond .eq 32, 3) := by decide +kernel
theorem dX6_fitted_349 : decode cX6_fitted 349 = .ok (.aload_n 0, 1) := by decide +kernel
theorem dX6_fitted_350 : decode cX6_fitted 350 = .ok (.iload 7, 2) := by decide +kernel
theorem dX6_fitted_352 : decode cX6_fitted 352 = .ok (.invokevirtual 128, 3) := by decide +kernel
theorem dX6_fitted_355 : decode cX6_fitted 355 = .ok (.iload_n 3, 1) := by decide +kernel
theorem dX6_fitted_356 : decode cX6_fitted 356 = .ok (.if_icmp .le 22, 3) := by decide +kernel
theorem dX6_fitted_359 : decode cX6_fitted 359 = .ok (.aload_n 0, 1) := by decide +kernel
theorem dX6_fitted_360 : decode cX6_fitted 360 = .ok (.iload 7, 2) := by decide +kernel
theorem dX6_fitted_362 : decode cX6_fitted 362 = .ok (.invokevirtual 128, 3) := by decide +kernel
theorem dX6_fitted_365 : decode cX6_fitted 365 = .ok (.istore_n 3, 1) := by decide +kernel
theorem dX6_fitted_366 : decode cX6_fitted 366 = .ok (.aload_n 0, 1) := by decide +kernel
theorem dX6_fitted_367 : decode cX6_fitted 367 = .ok (.iload 4, 2) := by decide +kernel
theorem dX6_fitted_369 : decode cX6_fitted 369 = .ok (.putfield 121, 3) := by decide +kernel
theorem dX6_fitted_372 : decode cX6_fitted 372 = .ok (.aload_n 0, 1) := by decide +kernel
theorem dX6_fitted_373 : decode cX6_fitted 373 = .ok (.iload 7, 2) := by decide +kernel
theorem dX6_fitted_375 : decode cX6_fitted 375 = .ok (.putfield 124, 3) := by decide +kernel
theorem dX6_fitted_378 : decode cX6_fitted 378 = .ok (.iinc 7 1, 3) := by decide +kernel
theorem dX6_fitted_381 : decode cX6_fitted 381 = .ok (.goto (-181), 3) := by decide +kernel
theorem dX6_fitted_384 : decode cX6_fitted 384 = .ok (.iinc 4 1, 3) := by decide +kernel
theorem dX6_fitted_387 : decode cX6_fitted 387 = .ok (.goto (-261), 3) := by decide +kernel
theorem dX6_fitted_390 : decode cX6_fitted 390 = .ok (.iload_n 1, 1) := by decide +kernel
theorem dX6_fitted_391 : decode cX6_fitted 391 = .ok (.ifCond .eq 7, 3) := by decide +kernel
theorem dX6_fitted_394 : decode cX6_fitted 394 = .ok (.iload_n 3, 1) := by decide +kernel
theorem dX6_fitted_395 : decode cX6_fitted 395 = .ok (.goto 11, 3) := by decide +kernel
theorem dX6_fitted_398 : decode cX6_fitted 398 = .ok (.aload_n 0, 1) := by decide +kernel
theorem dX6_fitted_399 : decode cX6_fitted 399 = .ok (.aload_n 0, 1) := by decide +kernel
theorem dX6_fitted_400 : decode cX6_fitted 400 = .ok (.getfield 75, 3) := by decide +kernel
theorem dX6_fitted_403 : decode cX6_fitted 403 = .ok (.invokevirtual 128, 3) := by decide +kernel
theorem dX6_fitted_406 : decode cX6_fitted 406 = .ok (.ireturn, 1) := by decide +kernel
set_option maxRecDepth 20000 in
theorem ggX6_fit_X6_goes : GoodIn wsX6_fit wsX6_goes := goodIn_r _ [5, 6, 31, 32, 33, 34, 35, 36, 37, 38, 39, 40, 41, 42, 43, 44, 45, 46, 47, 48, 49, 50, 51, 52, 53, 54, 55, 56, 57, 58] (by decide +kernel) (by decide +kernel)
set_option maxRecDepth 20000 in
theorem gX6_fit_X6_goes : GoodIn wsX6_fit (wsV RX6 82 RX6 yX6_goes wsX6_goes) := goodIn_app (goodIn_of _ (by decide +kernel)) ggX6_fit_X6_goes
set_option maxRecDepth 20000 in
theorem ggX6_fit_X6_fitted : GoodIn wsX6_fit wsX6_fitted := goodIn_r _ [10, 11, 12, 13, 14, 15, 16, 17, 18, 19, 20, 21, 22, 23, 24, 25, 26, 4, 27, 28, 29, 30, 31, 32, 33, 34, 35, 36, 37, 38, 39, 40, 41, 42, 43, 44, 45, 46, 47, 48, 49, 50, 51, 52, 53, 54, 55, 56, 57, 58] (by decide +kernel) (by decide +kernel)
set_option maxRecDepth 20000 in
theorem gX6_fit_X6_fitted : GoodIn wsX6_fit (wsV RX6 131 RX6 yX6_fitted wsX6_fitted) := goodIn_app (goodIn_of _ (by decide +kernel)) ggX6_fit_X6_fitted
theorem dX6_fit_0 : decode cX6_fit 0 = .ok (.aload_n 0, 1) := by decide +kernel
theorem dX6_fit_1 : decode cX6_fit 1 = .ok (.iload_n 1, 1) := by decide +kernel
theorem dX6_fit_2 : decode cX6_fit 2 = .ok (.ifCond .eq 8, 3) := by decide +kernel
theorem dX6_fit_5 : decode cX6_fit 5 = .ok (.iload_n 1, 1) := by decide +kernel
theorem dX6_fit_6 : decode cX6_fit 6 = .ok (.iconst 1, 1) := by decide +kernel
theorem dX6_fit_7 : decode cX6_fit 7 = .ok (.if_icmp .ne 7, 3) := by decide +kernel
theorem dX6_fit_10 : decode cX6_fit 10 = .ok (.iconst 1, 1) := by decide +kernel
theorem dX6_fit_11 : decode cX6_fit 11 = .ok (.goto 4, 3) := by decide +kernel
theorem dX6_fit_14 : decode cX6_fit 14 = .ok (.iconst 0, 1) := by decide +kernel
theorem dX6_fit_15 : decode cX6_fit 15 = .ok (.iconst 1, 1) := by decide +kernel
theorem dX6_fit_16 : decode cX6_fit 16 = .ok (.invokevirtual 82, 3) := by decide +kernel
theorem dX6_fit_19 : decode cX6_fit 19 = .ok (.ifCond .eq 20, 3) := by decide +kernel
theorem dX6_fit_22 : decode cX6_fit 22 = .ok (.aload_n 0, 1) := by decide +kernel
theorem dX6_fit_23 : decode cX6_fit 23 = .ok (.iload_n 1, 1) := by decide +kernel
theorem dX6_fit_24 : decode cX6_fit 24 = .ok (.iconst 1, 1) := by decide +kernel
theorem dX6_fit_25 : decode cX6_fit 25 = .ok (.if_icmp .ne 7, 3) := by decide +kernel
theorem dX6_fit_28 : decode cX6_fit 28 = .ok (.iconst 1, 1) := by decide +kernel
theorem dX6_fit_29 : decode cX6_fit 29 = .ok (.goto 4, 3) := by decide +kernel
theorem dX6_fit_32 : decode cX6_fit 32 = .ok (.iconst 0, 1) := by decide +kernel
theorem dX6_fit_33 : decode cX6_fit 33 = .ok (.invokevirtual 131, 3) := by decide +kernel
theorem dX6_fit_36 : decode cX6_fit 36 = .ok (.goto 4, 3) := by decide +kernel
theorem dX6_fit_39 : decode cX6_fit 39 = .ok (.iconst 0, 1) := by decide +kernel
theorem dX6_fit_40 : decode cX6_fit 40 = .ok (.ireturn, 1) := by decide +kernel
set_option maxRecDepth 20000 in
theorem ggX6_count_X6_goes : GoodIn wsX6_count wsX6_goes := goodIn_r _ [10, 11, 32, 33, 34, 35, 36, 37, 38, 39, 40, 41, 42, 43, 44, 45, 46, 47, 48, 49, 50, 51, 52, 53, 54, 55, 56, 57, 58, 59] (by decide +kernel) (by decide +kernel)
set_option maxRecDepth 20000 in
theorem gX6_count_X6_goes : GoodIn wsX6_count (wsV RX6 82 RX6 yX6_goes wsX6_goes) := goodIn_app (goodIn_of _ (by decide +kernel)) ggX6_count_X6_goes
set_option maxRecDepth 20000 in
theorem ggX6_count_X6_fitted : GoodIn wsX6_count wsX6_fitted := goodIn_r _ [15, 16, 17, 1, 2, 18, 19, 20, 21, 4, 3, 22, 23, 24, 25, 26, 27, 9, 28, 29, 30, 31, 32, 33, 34, 35, 36, 37, 38, 39, 40, 41, 42, 43, 44, 45, 46, 47, 48, 49, 50, 51, 52, 53, 54, 55, 56, 57, 58, 59] (by decide +kernel) (by decide +kernel)
set_option maxRecDepth 20000 in
theorem gX6_count_X6_fitted : GoodIn wsX6_count (wsV RX6 131 RX6 yX6_fitted wsX6_fitted) := goodIn_app (goodIn_of _ (by decide +kernel)) ggX6_count_X6_fitted
theorem dX6_count_0 : decode cX6_count 0 = .ok (.aload_n 0, 1) := by decide +kernel
theorem dX6_count_1 : decode cX6_count 1 = .ok (.iload_n 1, 1) := by decide +kernel
theorem dX6_count_2 : decode cX6_count 2 = .ok (.ifCond .lt 12, 3) := by decide +kernel
theorem dX6_count_5 : decode cX6_count 5 = .ok (.iload_n 1, 1) := by decide +kernel
theorem dX6_count_6 : decode cX6_count 6 = .ok (.iconst 4, 1) := by decide +kernel
theorem dX6_count_7 : decode cX6_count 7 = .ok (.if_icmp .gt 7, 3) := by decide +kernel
theorem dX6_count_10 : decode cX6_count 10 = .ok (.iconst 1, 1) := by decide +kernel
theorem dX6_count_11 : decode cX6_count 11 = .ok (.goto 4, 3) := by decide +kernel
theorem dX6_count_14 : decode cX6_count 14 = .ok (.iconst 0, 1) := by decide +kernel
theorem dX6_count_15 : decode cX6_count 15 = .ok (.iconst 1, 1) := by decide +kernel
theorem dX6_count_16 : decode cX6_count 16 = .ok (.invokevirtual 82, 3) := by decide +kernel
theorem dX6_count_19 : decode cX6_count 19 = .ok (.ifCond .ne 5, 3) := by decide +kernel
theorem dX6_count_22 : decode cX6_count 22 = .ok (.iconst 0, 1) := by decide +kernel
theorem dX6_count_23 : decode cX6_count 23 = .ok (.ireturn, 1) := by decide +kernel
theorem dX6_count_24 : decode cX6_count 24 = .ok (.iload_n 1, 1) := by decide +kernel
theorem dX6_count_25 : decode cX6_count 25 = .ok (.iconst 2, 1) := by decide +kernel
theorem dX6_count_26 : decode cX6_count 26 = .ok (.if_icmp .le 26, 3) := by decide +kernel
theorem dX6_count_29 : decode cX6_count 29 = .ok (.aload_n 0, 1) := by decide +kernel
theorem dX6_count_30 : decode cX6_count 30 = .ok (.iconst 1, 1) := by decide +kernel
theorem dX6_count_31 : decode cX6_count 31 = .ok (.invokevirtual 131, 3) := by decide +kernel
theorem dX6_count_34 : decode cX6_count 34 = .ok (.istore_n 2, 1) := by decide +kernel
theorem dX6_count_35 : decode cX6_count 35 = .ok (.iload_n 1, 1) := by decide +kernel
theorem dX6_count_36 : decode cX6_count 36 = .ok (.iconst 3, 1) := by decide +kernel
theorem dX6_count_37 : decode cX6_count 37 = .ok (.if_icmp .ne 10, 3) := by decide +kernel
theorem dX6_count_40 : decode cX6_count 40 = .ok (.aload_n 0, 1) := by decide +kernel
theorem dX6_count_41 : decode cX6_count 41 = .ok (.getfield 121, 3) := by decide +kernel
theorem dX6_count_44 : decode cX6_count 44 = .ok (.goto 7, 3) := by decide +kernel
theorem dX6_count_47 : decode cX6_count 47 = .ok (.aload_n 0, 1) := by decide +kernel
theorem dX6_count_48 : decode cX6_count 48 = .ok (.getfield 124, 3) := by decide +kernel
theorem dX6_count_51 : decode cX6_count 51 = .ok (.ireturn, 1) := by decide +kernel
theorem dX6_count_52 : decode cX6_count 52 = .ok (.iload_n 1, 1) := by decide +kernel
theorem dX6_count_53 : decode cX6_count 53 = .ok (.ifCond .ne 10, 3) := by decide +kernel
theorem dX6_count_56 : decode cX6_count 56 = .ok (.aload_n 0, 1) := by decide +kernel
theorem dX6_count_57 : decode cX6_count 57 = .ok (.getfield 72, 3) := by decide +kernel
theorem dX6_count_60 : decode cX6_count 60 = .ok (.goto 19, 3) := by decide +kernel
theorem dX6_count_63 : decode cX6_count 63 = .ok (.iload_n 1, 1) := by decide +kernel
theorem dX6_count_64 : decode cX6_count 64 = .ok (.iconst 1, 1) := by decide +kernel
theorem dX6_count_65 : decode cX6_count 65 = .ok (.if_icmp .ne 10, 3) := by decide +kernel
theorem dX6_count_68 : decode cX6_count 68 = .ok (.aload_n 0, 1) := by decide +kernel
theorem dX6_count_69 : decode cX6_count 69 = .ok (.getfield 75, 3) := by decide +kernel
theorem dX6_count_72 : decode cX6_count 72 = .ok (.goto 7, 3) := by decide +kernel
theorem dX6_count_75 : decode cX6_count 75 = .ok (.aload_n 0, 1) := by decide +kernel
theorem dX6_count_76 : decode cX6_count 76 = .ok (.getfield 90, 3) := by decide +kernel
theorem dX6_count_79 : decode cX6_count 79 = .ok (.ireturn, 1) := by decide +kernel
theorem dJ9_max_7cf53_0 : decode cJ9_max_7cf53 0 = .ok (.iload_n 0, 1) := by decide +kernel
theorem dJ9_max_7cf53_1 : decode cJ9_max_7cf53 1 = .ok (.iload_n 1, 1) := by decide +kernel
theorem dJ9_max_7cf53_2 : decode cJ9_max_7cf53 2 = .ok (.if_icmp .lt 7, 3) := by decide +kernel
theorem dJ9_max_7cf53_5 : decode cJ9_max_7cf53 5 = .ok (.iload_n 0, 1) := by decide +kernel
theorem dJ9_max_7cf53_6 : decode cJ9_max_7cf53 6 = .ok (.goto 4, 3) := by decide +kernel
theorem dJ9_max_7cf53_9 : decode cJ9_max_7cf53 9 = .ok (.iload_n 1, 1) := by decide +kernel
theorem dJ9_max_7cf53_10 : decode cJ9_max_7cf53 10 = .ok (.ireturn, 1) := by decide +kernel
theorem dJ9_min_7cf53_0 : decode cJ9_min_7cf53 0 = .ok (.iload_n 0, 1) := by decide +kernel
theorem dJ9_min_7cf53_1 : decode cJ9_min_7cf53 1 = .ok (.iload_n 1, 1) := by decide +kernel
theorem dJ9_min_7cf53_2 : decode cJ9_min_7cf53 2 = .ok (.if_icmp .gt 7, 3) := by decide +kernel
theorem dJ9_min_7cf53_5 : decode cJ9_min_7cf53 5 = .ok (.iload_n 0, 1) := by decide +kernel
theorem dJ9_min_7cf53_6 : decode cJ9_min_7cf53 6 = .ok (.goto 4, 3) := by decide +kernel
theorem dJ9_min_7cf53_9 : decode cJ9_min_7cf53 9 = .ok (.iload_n 1, 1) := by decide +kernel
theorem dJ9_min_7cf53_10 : decode cJ9_min_7cf53 10 = .ok (.ireturn, 1) := by decide +kernel
theorem dL_feed_0 : decode cL_feed 0 = .ok (.aload 6, 2) := by decide +kernel
theorem dL_feed_2 : decode cL_feed 2 = .ok (.iconst 0, 1) := by decide +kernel
theorem dL_feed_3 : decode cL_feed 3 = .ok (.aload_n 0, 1) := by decide +kernel
theorem dL_feed_4 : decode cL_feed 4 = .ok (.iload_n 1, 1) := by decide +kernel
theorem dL_feed_5 : decode cL_feed 5 = .ok (.iload_n 2, 1) := by decide +kernel
theorem dL_feed_6 : decode cL_feed 6 = .ok (.iload_n 3, 1) := by decide +kernel
theorem dL_feed_7 : decode cL_feed 7 = .ok (.iload 4, 2) := by decide +kernel
theorem dL_feed_9 : decode cL_feed 9 = .ok (.iload 5, 2) := by decide +kernel
theorem dL_feed_11 : decode cL_feed 11 = .ok (.invokevirtual 7, 3) := by decide +kernel
theorem dL_feed_14 : decode cL_feed 14 = .ok (.i2l, 1) := by decide +kernel
theorem dL_feed_15 : decode cL_feed 15 = .ok (.lastore, 1) := by decide +kernel
theorem dL_feed_16 : decode cL_feed 16 = .ok (.goto 11, 3) := by decide +kernel
theorem dL_feed_19 : decode cL_feed 19 = .ok (.astore 7, 2) := by decide +kernel
theorem dL_feed_21 : decode cL_feed 21 = .ok (.iconst 1, 1) := by decide +kernel
theorem dL_feed_22 : decode cL_feed 22 = .ok (.ireturn, 1) := by decide +kernel
theorem dL_feed_23 : decode cL_feed 23 = .ok (.astore 7, 2) := by decide +kernel
theorem dL_feed_25 : decode cL_feed 25 = .ok (.iconst 2, 1) := by decide +kernel
theorem dL_feed_26 : decode cL_feed 26 = .ok (.ireturn, 1) := by decide +kernel
theorem dL_feed_27 : decode cL_feed 27 = .ok (.iconst 0, 1) := by decide +kernel
theorem dL_feed_28 : decode cL_feed 28 = .ok (.ireturn, 1) := by decide +kernel
theorem dL_clear_0 : decode cL_clear 0 = .ok (.aload_n 2, 1) := by decide +kernel
theorem dL_clear_1 : decode cL_clear 1 = .ok (.iconst 0, 1) := by decide +kernel
theorem dL_clear_2 : decode cL_clear 2 = .ok (.aload_n 0, 1) := by decide +kernel
theorem dL_clear_3 : decode cL_clear 3 = .ok (.iload_n 1, 1) := by decide +kernel
theorem dL_clear_4 : decode cL_clear 4 = .ok (.invokevirtual 17, 3) := by decide +kernel
theorem dL_clear_7 : decode cL_clear 7 = .ok (.i2l, 1) := by decide +kernel
theorem dL_clear_8 : decode cL_clear 8 = .ok (.lastore, 1) := by decide +kernel
theorem dL_clear_9 : decode cL_clear 9 = .ok (.goto 6, 3) := by decide +kernel
theorem dL_clear_12 : decode cL_clear 12 = .ok (.astore_n 3, 1) := by decide +kernel
theorem dL_clear_13 : decode cL_clear 13 = .ok (.iconst 1, 1) := by decide +kernel
theorem dL_clear_14 : decode cL_clear 14 = .ok (.ireturn, 1) := by decide +kernel
theorem dL_clear_15 : decode cL_clear 15 = .ok (.iconst 0, 1) := by decide +kernel
theorem dL_clear_16 : decode cL_clear 16 = .ok (.ireturn, 1) := by decide +kernel
theorem dL_search_0 : decode cL_search 0 = .ok (.aload_n 3, 1) := by decide +kernel
theorem dL_search_1 : decode cL_search 1 = .ok (.iconst 0, 1) := by decide +kernel
theorem dL_search_2 : decode cL_search 2 = .ok (.aload_n 0, 1) := by decide +kernel
theorem dL_search_3 : decode cL_search 3 = .ok (.iload_n 1, 1) := by decide +kernel
theorem dL_search_4 : decode cL_search 4 = .ok (.iload_n 2, 1) := by decide +kernel
theorem dL_search_5 : decode cL_search 5 = .ok (.invokevirtual 21, 3) := by decide +kernel
theorem dL_search_8 : decode cL_search 8 = .ok (.i2l, 1) := by decide +kernel
theorem dL_search_9 : decode cL_search 9 = .ok (.lastore, 1) := by decide +kernel
theorem dL_search_10 : decode cL_search 10 = .ok (.goto 7, 3) := by decide +kernel
theorem dL_search_13 : decode cL_search 13 = .ok (.astore 4, 2) := by decide +kernel
theorem dL_search_15 : decode cL_search 15 = .ok (.iconst 1, 1) := by decide +kernel
theorem dL_search_16 : decode cL_search 16 = .ok (.ireturn, 1) := by decide +kernel
theorem dL_search_17 : decode cL_search 17 = .ok (.iconst 0, 1) := by decide +kernel
theorem dL_search_18 : decode cL_search 18 = .ok (.ireturn, 1) := by decide +kernel
theorem dL_found_0 : decode cL_found 0 = .ok (.aload_n 3, 1) := by decide +kernel
theorem dL_found_1 : decode cL_found 1 = .ok (.iconst 0, 1) := by decide +kernel
theorem dL_found_2 : decode cL_found 2 = .ok (.aload_n 0, 1) := by decide +kernel
theorem dL_found_3 : decode cL_found 3 = .ok (.iload_n 1, 1) := by decide +kernel
theorem dL_found_4 : decode cL_found 4 = .ok (.iload_n 2, 1) := by decide +kernel
theorem dL_found_5 : decode cL_found 5 = .ok (.invokevirtual 27, 3) := by decide +kernel
theorem dL_found_8 : decode cL_found 8 = .ok (.i2l, 1) := by decide +kernel
theorem dL_found_9 : decode cL_found 9 = .ok (.lastore, 1) := by decide +kernel
theorem dL_found_10 : decode cL_found 10 = .ok (.goto 11, 3) := by decide +kernel
theorem dL_found_13 : decode cL_found 13 = .ok (.astore 4, 2) := by decide +kernel
theorem dL_found_15 : decode cL_found 15 = .ok (.iconst 1, 1) := by decide +kernel
theorem dL_found_16 : decode cL_found 16 = .ok (.ireturn, 1) := by decide +kernel
theorem dL_found_17 : decode cL_found 17 = .ok (.astore 4, 2) := by decide +kernel
theorem dL_found_19 : decode cL_found 19 = .ok (.iconst 2, 1) := by decide +kernel
theorem dL_found_20 : decode cL_found 20 = .ok (.ireturn, 1) := by decide +kernel
theorem dL_found_21 : decode cL_found 21 = .ok (.iconst 0, 1) := by decide +kernel
theorem dL_found_22 : decode cL_found 22 = .ok (.ireturn, 1) := by decide +kernel
theorem dL_step_0 : decode cL_step 0 = .ok (.aload_n 3, 1) := by decide +kernel
theorem dL_step_1 : decode cL_step 1 = .ok (.iconst 0, 1) := by decide +kernel
theorem dL_step_2 : decode cL_step 2 = .ok (.aload_n 0, 1) := by decide +kernel
theorem dL_step_3 : decode cL_step 3 = .ok (.iload_n 1, 1) := by decide +kernel
theorem dL_step_4 : decode cL_step 4 = .ok (.iload_n 2, 1) := by decide +kernel
theorem dL_step_5 : decode cL_step 5 = .ok (.invokevirtual 30, 3) := by decide +kernel
theorem dL_step_8 : decode cL_step 8 = .ok (.i2l, 1) := by decide +kernel
theorem dL_step_9 : decode cL_step 9 = .ok (.lastore, 1) := by decide +kernel
theorem dL_step_10 : decode cL_step 10 = .ok (.goto 7, 3) := by decide +kernel
theorem dL_step_13 : decode cL_step 13 = .ok (.astore 4, 2) := by decide +kernel
theorem dL_step_15 : decode cL_step 15 = .ok (.iconst 1, 1) := by decide +kernel
theorem dL_step_16 : decode cL_step 16 = .ok (.ireturn, 1) := by decide +kernel
theorem dL_step_17 : decode cL_step 17 = .ok (.iconst 0, 1) := by decide +kernel
theorem dL_step_18 : decode cL_step 18 = .ok (.ireturn, 1) := by decide +kernel
theorem dL_score_0 : decode cL_score 0 = .ok (.aload 4, 2) := by decide +kernel
theorem dL_score_2 : decode cL_score 2 = .ok (.iconst 0, 1) := by decide +kernel
theorem dL_score_3 : decode cL_score 3 = .ok (.aload_n 0, 1) := by decide +kernel
theorem dL_score_4 : decode cL_score 4 = .ok (.iload_n 1, 1) := by decide +kernel
theorem dL_score_5 : decode cL_score 5 = .ok (.iload_n 2, 1) := by decide +kernel
theorem dL_score_6 : decode cL_score 6 = .ok (.iload_n 3, 1) := by decide +kernel
theorem dL_score_7 : decode cL_score 7 = .ok (.invokevirtual 33, 3) := by decide +kernel
theorem dL_score_10 : decode cL_score 10 = .ok (.i2l, 1) := by decide +kernel
theorem dL_score_11 : decode cL_score 11 = .ok (.lastore, 1) := by decide +kernel
theorem dL_score_12 : decode cL_score 12 = .ok (.goto 11, 3) := by decide +kernel
theorem dL_score_15 : decode cL_score 15 = .ok (.astore 5, 2) := by decide +kernel
theorem dL_score_17 : decode cL_score 17 = .ok (.iconst 1, 1) := by decide +kernel
theorem dL_score_18 : decode cL_score 18 = .ok (.ireturn, 1) := by decide +kernel
theorem dL_score_19 : decode cL_score 19 = .ok (.astore 5, 2) := by decide +kernel
theorem dL_score_21 : decode cL_score 21 = .ok (.iconst 2, 1) := by decide +kernel
theorem dL_score_22 : decode cL_score 22 = .ok (.ireturn, 1) := by decide +kernel
theorem dL_score_23 : decode cL_score 23 = .ok (.iconst 0, 1) := by decide +kernel
theorem dL_score_24 : decode cL_score 24 = .ok (.ireturn, 1) := by decide +kernel
theorem dL_gaps_0 : decode cL_gaps 0 = .ok (.aload_n 0, 1) := by decide +kernel
theorem dL_gaps_1 : decode cL_gaps 1 = .ok (.iload_n 1, 1) := by decide +kernel
theorem dL_gaps_2 : decode cL_gaps 2 = .ok (.iload_n 2, 1) := by decide +kernel
theorem dL_gaps_3 : decode cL_gaps 3 = .ok (.invokevirtual 37, 3) := by decide +kernel
theorem dL_gaps_6 : decode cL_gaps 6 = .ok (.goto 6, 3) := by decide +kernel
theorem dL_gaps_9 : decode cL_gaps 9 = .ok (.astore_n 3, 1) := by decide +kernel
theorem dL_gaps_10 : decode cL_gaps 10 = .ok (.iconst 1, 1) := by decide +kernel
theorem dL_gaps_11 : decode cL_gaps 11 = .ok (.ireturn, 1) := by decide +kernel
theorem dL_gaps_12 : decode cL_gaps 12 = .ok (.iconst 0, 1) := by decide +kernel
theorem dL_gaps_13 : decode cL_gaps 13 = .ok (.ireturn, 1) := by decide +kernel
theorem dL_fit_0 : decode cL_fit 0 = .ok (.aload_n 2, 1) := by decide +kernel
theorem dL_fit_1 : decode cL_fit 1 = .ok (.iconst 0, 1) := by decide +kernel
theorem dL_fit_2 : decode cL_fit 2 = .ok (.aload_n 0, 1) := by decide +kernel
theorem dL_fit_3 : decode cL_fit 3 = .ok (.iload_n 1, 1) := by decide +kernel
theorem dL_fit_4 : decode cL_fit 4 = .ok (.invokevirtual 41, 3) := by decide +kernel
theorem dL_fit_7 : decode cL_fit 7 = .ok (.i2l, 1) := by decide +kernel
theorem dL_fit_8 : decode cL_fit 8 = .ok (.lastore, 1) := by decide +kernel
theorem dL_fit_9 : decode cL_fit 9 = .ok (.goto 6, 3) := by decide +kernel
theorem dL_fit_12 : decode cL_fit 12 = .ok (.astore_n 3, 1) := by decide +kernel
theorem dL_fit_13 : decode cL_fit 13 = .ok (.iconst 1, 1) := by decide +kernel
theorem dL_fit_14 : decode cL_fit 14 = .ok (.ireturn, 1) := by decide +kernel
theorem dL_fit_15 : decode cL_fit 15 = .ok (.iconst 0, 1) := by decide +kernel
theorem dL_fit_16 : decode cL_fit 16 = .ok (.ireturn, 1) := by decide +kernel
theorem dL_count_0 : decode cL_count 0 = .ok (.aload_n 2, 1) := by decide +kernel
theorem dL_count_1 : decode cL_count 1 = .ok (.iconst 0, 1) := by decide +kernel
theorem dL_count_2 : decode cL_count 2 = .ok (.aload_n 0, 1) := by decide +kernel
theorem dL_count_3 : decode cL_count 3 = .ok (.iload_n 1, 1) := by decide +kernel
theorem dL_count_4 : decode cL_count 4 = .ok (.invokevirtual 44, 3) := by decide +kernel
theorem dL_count_7 : decode cL_count 7 = .ok (.i2l, 1) := by decide +kernel
theorem dL_count_8 : decode cL_count 8 = .ok (.lastore, 1) := by decide +kernel
theorem dL_count_9 : decode cL_count 9 = .ok (.goto 6, 3) := by decide +kernel
theorem dL_count_12 : decode cL_count 12 = .ok (.astore_n 3, 1) := by decide +kernel
theorem dL_count_13 : decode cL_count 13 = .ok (.iconst 1, 1) := by decide +kernel
theorem dL_count_14 : decode cL_count 14 = .ok (.ireturn, 1) := by decide +kernel
theorem dL_count_15 : decode cL_count 15 = .ok (.iconst 0, 1) := by decide +kernel
theorem dL_count_16 : decode cL_count 16 = .ok (.ireturn, 1) := by decide +kernel
theorem dL_law_0 : decode cL_law 0 = .ok (.new 8, 3) := by decide +kernel
theorem dL_law_3 : decode cL_law 3 = .ok (.dup, 1) := by decide +kernel
theorem dL_law_4 : decode cL_law 4 = .ok (.invokespecial 47, 3) := by decide +kernel
theorem dL_law_7 : decode cL_law 7 = .ok (.astore_n 1, 1) := by decide +kernel
theorem dL_law_8 : decode cL_law 8 = .ok (.new 48, 3) := by decide +kernel
theorem dL_law_11 : decode cL_law 11 = .ok (.dup, 1) := by decide +kernel
theorem dL_law_12 : decode cL_law 12 = .ok (.invokespecial 50, 3) := by decide +kernel
theorem dL_law_15 : decode cL_law 15 = .ok (.astore_n 2, 1) := by decide +kernel
theorem dL_law_16 : decode cL_law 16 = .ok (.iconst 1, 1) := by decide +kernel
theorem dL_law_17 : decode cL_law 17 = .ok (.newarray .long, 2) := by decide +kernel
theorem dL_law_19 : decode cL_law 19 = .ok (.astore_n 3, 1) := by decide +kernel
theorem dL_law_20 : decode cL_law 20 = .ok (.iconst 0, 1) := by decide +kernel
theorem dL_law_21 : decode cL_law 21 = .ok (.istore 4, 2) := by decide +kernel
theorem dL_law_23 : decode cL_law 23 = .ok (.iload 4, 2) := by decide +kernel
theorem dL_law_25 : decode cL_law 25 = .ok (.aload_n 0, 1) := by decide +kernel
theorem dL_law_26 : decode cL_law 26 = .ok (.arraylength, 1) := by decide +kernel
theorem dL_law_27 : decode cL_law 27 = .ok (.bipush 6, 2) := by decide +kernel
theorem dL_law_29 : decode cL_law 29 = .ok (.isub, 1) := by decide +kernel
theorem dL_law_30 : decode cL_law 30 = .ok (.if_icmp .gt 689, 3) := by decide +kernel
theorem dL_law_33 : decode cL_law 33 = .ok (.aload_n 0, 1) := by decide +kernel
theorem dL_law_34 : decode cL_law 34 = .ok (.iload 4, 2) := by decide +kernel
theorem dL_law_36 : decode cL_law 36 = .ok (.iaload, 1) := by decide +kernel
theorem dL_law_37 : decode cL_law 37 = .ok (.bipush 15, 2) := by decide +kernel
theorem dL_law_39 : decode cL_law 39 = .ok (.iand, 1) := by decide +kernel
theorem dL_law_40 : decode cL_law 40 = .ok (.tableswitch 673 0 9 #[56, 160, 216, 284, 352, 420, 433, 513, 561, 617], 56) := by decide +kernel
theorem dL_law_96 : decode cL_law 96 = .ok (.aload_n 1, 1) := by decide +kernel
theorem dL_law_97 : decode cL_law 97 = .ok (.aload_n 0, 1) := by decide +kernel
theorem dL_law_98 : decode cL_law 98 = .ok (.iload 4, 2) := by decide +kernel
theorem dL_law_100 : decode cL_law 100 = .ok (.iconst 1, 1) := by decide +kernel
theorem dL_law_101 : decode cL_law 101 = .ok (.iadd, 1) := by decide +kernel
theorem dL_law_102 : decode cL_law 102 = .ok (.iaload, 1) := by decide +kernel
theorem dL_law_103 : decode cL_law 103 = .ok (.aload_n 0, 1) := by decide +kernel
theorem dL_law_104 : decode cL_law 104 = .ok (.iload 4, 2) := by decide +kernel
theorem dL_law_106 : decode cL_law 106 = .ok (.iconst 2, 1) := by decide +kernel
theorem dL_law_107 : decode cL_law 107 = .ok (.iadd, 1) := by decide +kernel
theorem dL_law_108 : decode cL_law 108 = .ok (.iaload, 1) := by decide +kernel
theorem dL_law_109 : decode cL_law 109 = .ok (.aload_n 0, 1) := by decide +kernel
theorem dL_law_110 : decode cL_law 110 = .ok (.iload 4, 2) := by decide +kernel
theorem dL_law_112 : decode cL_law 112 = .ok (.iconst 3, 1) := by decide +kernel
theorem dL_law_113 : decode cL_law 113 = .ok (.iadd, 1) := by decide +kernel
theorem dL_law_114 : decode cL_law 114 = .ok (.iaload, 1) := by decide +kernel
theorem dL_law_115 : decode cL_law 115 = .ok (.aload_n 0, 1) := by decide +kernel
theorem dL_law_116 : decode cL_law 116 = .ok (.iload 4, 2) := by decide +kernel
theorem dL_law_118 : decode cL_law 118 = .ok (.iconst 4, 1) := by decide +kernel
theorem dL_law_119 : decode cL_law 119 = .ok (.iadd, 1) := by decide +kernel
theorem dL_law_120 : decode cL_law 120 = .ok (.iaload, 1) := by decide +kernel
theorem dL_law_121 : decode cL_law 121 = .ok (.aload_n 0, 1) := by decide +kernel
theorem dL_law_122 : decode cL_law 122 = .ok (.iload 4, 2) := by decide +kernel
theorem dL_law_124 : decode cL_law 124 = .ok (.iconst 5, 1) := by decide +kernel
theorem dL_law_125 : decode cL_law 125 = .ok (.iadd, 1) := by decide +kernel
theorem dL_law_126 : decode cL_law 126 = .ok (.iaload, 1) := by decide +kernel
theorem dL_law_127 : decode cL_law 127 = .ok (.aload_n 3, 1) := by decide +kernel
theorem dL_law_128 : decode cL_law 128 = .ok (.invokestatic 51, 3) := by decide +kernel
theorem dL_law_131 : decode cL_law 131 = .ok (.istore 5, 2) := by decide +kernel
theorem dL_law_133 : decode cL_law 133 = .ok (.aload_n 2, 1) := by decide +kernel
theorem dL_law_134 : decode cL_law 134 = .ok (.aload_n 0, 1) := by decide +kernel
theorem dL_law_135 : decode cL_law 135 = .ok (.iload 4, 2) := by decide +kernel
theorem dL_law_137 : decode cL_law 137 = .ok (.iconst 1, 1) := by decide +kernel
theorem dL_law_138 : decode cL_law 138 = .ok (.iadd, 1) := by decide +kernel
theorem dL_law_139 : decode cL_law 139 = .ok (.iaload, 1) := by decide +kernel
theorem dL_law_140 : decode cL_law 140 = .ok (.aload_n 0, 1) := by decide +kernel
theorem dL_law_141 : decode cL_law 141 = .ok (.iload 4, 2) := by decide +kernel
theorem dL_law_143 : decode cL_law 143 = .ok (.iconst 2, 1) := by decide +kernel
theorem dL_law_144 : decode cL_law 144 = .ok (.iadd, 1) := by decide +kernel
theorem dL_law_145 : decode cL_law 145 = .ok (.iaload, 1) := by decide +kernel
theorem dL_law_146 : decode cL_law 146 = .ok (.aload_n 0, 1) := by decide +kernel
theorem dL_law_147 : decode cL_law 147 = .ok (.iload 4, 2) := by decide +kernel
theorem dL_law_149 : decode cL_law 149 = .ok (.iconst 3, 1) := by decide +kernel
theorem dL_law_150 : decode cL_law 150 = .ok (.iadd, 1) := by decide +kernel
theorem dL_law_151 : decode cL_law 151 = .ok (.iaload, 1) := by decide +kernel
theorem dL_law_152 : decode cL_law 152 = .ok (.aload_n 0, 1) := by decide +kernel
theorem dL_law_153 : decode cL_law 153 = .ok (.iload 4, 2) := by decide +kernel
theorem dL_law_155 : decode cL_law 155 = .ok (.iconst 4, 1) := by decide +kernel
theorem dL_law_156 : decode cL_law 156 = .ok (.iadd, 1) := by decide +kernel
theorem dL_law_157 : decode cL_law 157 = .ok (.iaload, 1) := by decide +kernel
theorem dL_law_158 : decode cL_law 158 = .ok (.aload_n 0, 1) := by decide +kernel
theorem dL_law_159 : decode cL_law 159 = .ok (.iload 4, 2) := by decide +kernel
theorem dL_law_161 : decode cL_law 161 = .ok (.iconst 5, 1) := by decide +kernel
theorem dL_law_162 : decode cL_law 162 = .ok (.iadd, 1) := by decide +kernel
theorem dL_law_163 : decode cL_law 163 = .ok (.iaload, 1) := by decide +kernel
theorem dL_law_164 : decode cL_law 164 = .ok (.invokevirtual 56, 3) := by decide +kernel
theorem dL_law_167 : decode cL_law 167 = .ok (.istore 6, 2) := by decide +kernel
theorem dL_law_169 : decode cL_law 169 = .ok (.aload_n 2, 1) := by decide +kernel
theorem dL_law_170 : decode cL_law 170 = .ok (.invokevirtual 57, 3) := by decide +kernel
theorem dL_law_173 : decode cL_law 173 = .ok (.iload 5, 2) := by decide +kernel
theorem dL_law_175 : decode cL_law 175 = .ok (.if_icmp .eq 5, 3) := by decide +kernel
theorem dL_law_178 : decode cL_law 178 = .ok (.iconst 0, 1) := by decide +kernel
theorem dL_law_179 : decode cL_law 179 = .ok (.ireturn, 1) := by decide +kernel
theorem dL_law_180 : decode cL_law 180 = .ok (.iload 5, 2) := by decide +kernel
theorem dL_law_182 : decode cL_law 182 = .ok (.ifCond .ne 15, 3) := by decide +kernel
theorem dL_law_185 : decode cL_law 185 = .ok (.aload_n 3, 1) := by decide +kernel
theorem dL_law_186 : decode cL_law 186 = .ok (.iconst 0, 1) := by decide +kernel
theorem dL_law_187 : decode cL_law 187 = .ok (.laload, 1) := by decide +kernel
theorem dL_law_188 : decode cL_law 188 = .ok (.iload 6, 2) := by decide +kernel
theorem dL_law_190 : decode cL_law 190 = .ok (.i2l, 1) := by decide +kernel
theorem dL_law_191 : decode cL_law 191 = .ok (.lcmp, 1) := by decide +kernel
theorem dL_law_192 : decode cL_law 192 = .ok (.ifCond .eq 5, 3) := by decide +kernel
theorem dL_law_195 : decode cL_law 195 = .ok (.iconst 0, 1) := by decide +kernel
theorem dL_law_196 : decode cL_law 196 = .ok (.ireturn, 1) := by decide +kernel
theorem dL_law_197 : decode cL_law 197 = .ok (.goto 516, 3) := by decide +kernel
theorem dL_law_200 : decode cL_law 200 = .ok (.aload_n 1, 1) := by decide +kernel
theorem dL_law_201 : decode cL_law 201 = .ok (.aload_n 0, 1) := by decide +kernel
theorem dL_law_202 : decode cL_law 202 = .ok (.iload 4, 2) := by decide +kernel
theorem dL_law_204 : decode cL_law 204 = .ok (.iconst 1, 1) := by decide +kernel
theorem dL_law_205 : decode cL_law 205 = .ok (.iadd, 1) := by decide +kernel
theorem dL_law_206 : decode cL_law 206 = .ok (.iaload, 1) := by decide +kernel
theorem dL_law_207 : decode cL_law 207 = .ok (.aload_n 3, 1) := by decide +kernel
theorem dL_law_208 : decode cL_law 208 = .ok (.invokestatic 61, 3) := by decide +kernel
theorem dL_law_211 : decode cL_law 211 = .ok (.istore 5, 2) := by decide +kernel
theorem dL_law_213 : decode cL_law 213 = .ok (.aload_n 2, 1) := by decide +kernel
theorem dL_law_214 : decode cL_law 214 = .ok (.aload_n 0, 1) := by decide +kernel
theorem dL_law_215 : decode cL_law 215 = .ok (.iload 4, 2) := by decide +kernel
theorem dL_law_217 : decode cL_law 217 = .ok (.iconst 1, 1) := by decide +kernel
theorem dL_law_218 : decode cL_law 218 = .ok (.iadd, 1) := by decide +kernel
theorem dL_law_219 : decode cL_law 219 = .ok (.iaload, 1) := by decide +kernel
theorem dL_law_220 : decode cL_law 220 = .ok (.invokevirtual 64, 3) := by decide +kernel
theorem dL_law_223 : decode cL_law 223 = .ok (.istore 6, 2) := by decide +kernel
theorem dL_law_225 : decode cL_law 225 = .ok (.aload_n 2, 1) := by decide +kernel
theorem dL_law_226 : decode cL_law 226 = .ok (.invokevirtual 57, 3) := by decide +kernel
theorem dL_law_229 : decode cL_law 229 = .ok (.iload 5, 2) := by decide +kernel
theorem dL_law_231 : decode cL_law 231 = .ok (.if_icmp .eq 5, 3) := by decide +kernel
theorem dL_law_234 : decode cL_law 234 = .ok (.iconst 0, 1) := by decide +kernel
theorem dL_law_235 : decode cL_law 235 = .ok (.ireturn, 1) := by decide +kernel
theorem dL_law_236 : decode cL_law 236 = .ok (.iload 5, 2) := by decide +kernel
theorem dL_law_238 : decode cL_law 238 = .ok (.ifCond .ne 15, 3) := by decide +kernel
theorem dL_law_241 : decode cL_law 241 = .ok (.aload_n 3, 1) := by decide +kernel
theorem dL_law_242 : decode cL_law 242 = .ok (.iconst 0, 1) := by decide +kernel
theorem dL_law_243 : decode cL_law 243 = .ok (.laload, 1) := by decide +kernel
theorem dL_law_244 : decode cL_law 244 = .ok (.iload 6, 2) := by decide +kernel
theorem dL_law_246 : decode cL_law 246 = .ok (.i2l, 1) := by decide +kernel
theorem dL_law_247 : decode cL_law 247 = .ok (.lcmp, 1) := by decide +kernel
theorem dL_law_248 : decode cL_law 248 = .ok (.ifCond .eq 5, 3) := by decide +kernel
theorem dL_law_251 : decode cL_law 251 = .ok (.iconst 0, 1) := by decide +kernel
theorem dL_law_252 : decode cL_law 252 = .ok (.ireturn, 1) := by decide +kernel
theorem dL_law_253 : decode cL_law 253 = .ok (.goto 460, 3) := by decide +kernel
theorem dL_law_256 : decode cL_law 256 = .ok (.aload_n 1, 1) := by decide +kernel
theorem dL_law_257 : decode cL_law 257 = .ok (.aload_n 0, 1) := by decide +kernel
theorem dL_law_258 : decode cL_law 258 = .ok (.iload 4, 2) := by decide +kernel
theorem dL_law_260 : decode cL_law 260 = .ok (.iconst 1, 1) := by decide +kernel
theorem dL_law_261 : decode cL_law 261 = .ok (.iadd, 1) := by decide +kernel
theorem dL_law_262 : decode cL_law 262 = .ok (.iaload, 1) := by decide +kernel
theorem dL_law_263 : decode cL_law 263 = .ok (.aload_n 0, 1) := by decide +kernel
theorem dL_law_264 : decode cL_law 264 = .ok (.iload 4, 2) := by decide +kernel
theorem dL_law_266 : decode cL_law 266 = .ok (.iconst 2, 1) := by decide +kernel
theorem dL_law_267 : decode cL_law 267 = .ok (.iadd, 1) := by decide +kernel
theorem dL_law_268 : decode cL_law 268 = .ok (.iaload, 1) := by decide +kernel
theorem dL_law_269 : decode cL_law 269 = .ok (.aload_n 3, 1) := by decide +kernel
theorem dL_law_270 : decode cL_law 270 = .ok (.invokestatic 65, 3) := by decide +kernel
theorem dL_law_273 : decode cL_law 273 = .ok (.istore 5, 2) := by decide +kernel
theorem dL_law_275 : decode cL_law 275 = .ok (.aload_n 2, 1) := by decide +kernel
theorem dL_law_276 : decode cL_law 276 = .ok (.aload_n 0, 1) := by decide +kernel
theorem dL_law_277 : decode cL_law 277 = .ok (.iload 4, 2) := by decide +kernel
theorem dL_law_279 : decode cL_law 279 = .ok (.iconst 1, 1) := by decide +kernel
theorem dL_law_280 : decode cL_law 280 = .ok (.iadd, 1) := by decide +kernel
theorem dL_law_281 : decode cL_law 281 = .ok (.iaload, 1) := by decide +kernel
theorem dL_law_282 : decode cL_law 282 = .ok (.aload_n 0, 1) := by decide +kernel
theorem dL_law_283 : decode cL_law 283 = .ok (.iload 4, 2) := by decide +kernel
theorem dL_law_285 : decode cL_law 285 = .ok (.iconst 2, 1) := by decide +kernel
theorem dL_law_286 : decode cL_law 286 = .ok (.iadd, 1) := by decide +kernel
theorem dL_law_287 : decode cL_law 287 = .ok (.iaload, 1) := by decide +kernel
theorem dL_law_288 : decode cL_law 288 = .ok (.invokevirtual 68, 3) := by decide +kernel
theorem dL_law_291 : decode cL_law 291 = .ok (.istore 6, 2) := by decide +kernel
theorem dL_law_293 : decode cL_law 293 = .ok (.aload_n 2, 1) := by decide +kernel
theorem dL_law_294 : decode cL_law 294 = .ok (.invokevirtual 57, 3) := by decide +kernel
theorem dL_law_297 : decode cL_law 297 = .ok (.iload 5, 2) := by decide +kernel
theorem dL_law_299 : decode cL_law 299 = .ok (.if_icmp .eq 5, 3) := by decide +kernel
theorem dL_law_302 : decode cL_law 302 = .ok (.iconst 0, 1) := by decide +kernel
theorem dL_law_303 : decode cL_law 303 = .ok (.ireturn, 1) := by decide +kernel
theorem dL_law_304 : decode cL_law 304 = .ok (.iload 5, 2) := by decide +kernel
theorem dL_law_306 : decode cL_law 306 = .ok (.ifCond .ne 15, 3) := by decide +kernel
theorem dL_law_309 : decode cL_law 309 = .ok (.aload_n 3, 1) := by decide +kernel
theorem dL_law_310 : decode cL_law 310 = .ok (.iconst 0, 1) := by decide +kernel
theorem dL_law_311 : decode cL_law 311 = .ok (.laload, 1) := by decide +kernel
theorem dL_law_312 : decode cL_law 312 = .ok (.iload 6, 2) := by decide +kernel
theorem dL_law_314 : decode cL_law 314 = .ok (.i2l, 1) := by decide +kernel
theorem dL_law_315 : decode cL_law 315 = .ok (.lcmp, 1) := by decide +kernel
theorem dL_law_316 : decode cL_law 316 = .ok (.ifCond .eq 5, 3) := by decide +kernel
theorem dL_law_319 : decode cL_law 319 = .ok (.iconst 0, 1) := by decide +kernel
theorem dL_law_320 : decode cL_law 320 = .ok (.ireturn, 1) := by decide +kernel
theorem dL_law_321 : decode cL_law 321 = .ok (.goto 392, 3) := by decide +kernel
theorem dL_law_324 : decode cL_law 324 = .ok (.aload_n 1, 1) := by decide +kernel
theorem dL_law_325 : decode cL_law 325 = .ok (.aload_n 0, 1) := by decide +kernel
theorem dL_law_326 : decode cL_law 326 = .ok (.iload 4, 2) := by decide +kernel
theorem dL_law_328 : decode cL_law 328 = .ok (.iconst 1, 1) := by decide +kernel
theorem dL_law_329 : decode cL_law 329 = .ok (.iadd, 1) := by decide +kernel
theorem dL_law_330 : decode cL_law 330 = .ok (.iaload, 1) := by decide +kernel
theorem dL_law_331 : decode cL_law 331 = .ok (.aload_n 0, 1) := by decide +kernel
theorem dL_law_332 : decode cL_law 332 = .ok (.iload 4, 2) := by decide +kernel
theorem dL_law_334 : decode cL_law 334 = .ok (.iconst 2, 1) := by decide +kernel
theorem dL_law_335 : decode cL_law 335 = .ok (.iadd, 1) := by decide +kernel
theorem dL_law_336 : decode cL_law 336 = .ok (.iaload, 1) := by decide +kernel
theorem dL_law_337 : decode cL_law 337 = .ok (.aload_n 3, 1) := by decide +kernel
theorem dL_law_338 : decode cL_law 338 = .ok (.invokestatic 69, 3) := by decide +kernel
theorem dL_law_341 : decode cL_law 341 = .ok (.istore 5, 2) := by decide +kernel
theorem dL_law_343 : decode cL_law 343 = .ok (.aload_n 2, 1) := by decide +kernel
theorem dL_law_344 : decode cL_law 344 = .ok (.aload_n 0, 1) := by decide +kernel
theorem dL_law_345 : decode cL_law 345 = .ok (.iload 4, 2) := by decide +kernel
theorem dL_law_347 : decode cL_law 347 = .ok (.iconst 1, 1) := by decide +kernel
theorem dL_law_348 : decode cL_law 348 = .ok (.iadd, 1) := by decide +kernel
theorem dL_law_349 : decode cL_law 349 = .ok (.iaload, 1) := by decide +kernel
theorem dL_law_350 : decode cL_law 350 = .ok (.aload_n 0, 1) := by decide +kernel
theorem dL_law_351 : decode cL_law 351 = .ok (.iload 4, 2) := by decide +kernel
theorem dL_law_353 : decode cL_law 353 = .ok (.iconst 2, 1) := by decide +kernel
theorem dL_law_354 : decode cL_law 354 = .ok (.iadd, 1) := by decide +kernel
theorem dL_law_355 : decode cL_law 355 = .ok (.iaload, 1) := by decide +kernel
theorem dL_law_356 : decode cL_law 356 = .ok (.invokevirtual 71, 3) := by decide +kernel
theorem dL_law_359 : decode cL_law 359 = .ok (.istore 6, 2) := by decide +kernel
theorem dL_law_361 : decode cL_law 361 = .ok (.aload_n 2, 1) := by decide +kernel
theorem dL_law_362 : decode cL_law 362 = .ok (.invokevirtual 57, 3) := by decide +kernel
theorem dL_law_365 : decode cL_law 365 = .ok (.iload 5, 2) := by decide +kernel
theorem dL_law_367 : decode cL_law 367 = .ok (.if_icmp .eq 5, 3) := by decide +kernel
theorem dL_law_370 : decode cL_law 370 = .ok (.iconst 0, 1) := by decide +kernel
theorem dL_law_371 : decode cL_law 371 = .ok (.ireturn, 1) := by decide +kernel
theorem dL_law_372 : decode cL_law 372 = .ok (.iload 5, 2) := by decide +kernel
theorem dL_law_374 : decode cL_law 374 = .ok (.ifCond .ne 15, 3) := by decide +kernel
theorem dL_law_377 : decode cL_law 377 = .ok (.aload_n 3, 1) := by decide +kernel
theorem dL_law_378 : decode cL_law 378 = .ok (.iconst 0, 1) := by decide +kernel
theorem dL_law_379 : decode cL_law 379 = .ok (.laload, 1) := by decide +kernel
theorem dL_law_380 : decode cL_law 380 = .ok (.iload 6, 2) := by decide +kernel
theorem dL_law_382 : decode cL_law 382 = .ok (.i2l, 1) := by decide +kernel
theorem dL_law_383 : decode cL_law 383 = .ok (.lcmp, 1) := by decide +kernel
theorem dL_law_384 : decode cL_law 384 = .ok (.ifCond .eq 5, 3) := by decide +kernel
theorem dL_law_387 : decode cL_law 387 = .ok (.iconst 0, 1) := by decide +kernel
theorem dL_law_388 : decode cL_law 388 = .ok (.ireturn, 1) := by decide +kernel
theorem dL_law_389 : decode cL_law 389 = .ok (.goto 324, 3) := by decide +kernel
theorem dL_law_392 : decode cL_law 392 = .ok (.aload_n 1, 1) := by decide +kernel
theorem dL_law_393 : decode cL_law 393 = .ok (.aload_n 0, 1) := by decide +kernel
theorem dL_law_394 : decode cL_law 394 = .ok (.iload 4, 2) := by decide +kernel
theorem dL_law_396 : decode cL_law 396 = .ok (.iconst 1, 1) := by decide +kernel
theorem dL_law_397 : decode cL_law 397 = .ok (.iadd, 1) := by decide +kernel
theorem dL_law_398 : decode cL_law 398 = .ok (.iaload, 1) := by decide +kernel
theorem dL_law_399 : decode cL_law 399 = .ok (.aload_n 0, 1) := by decide +kernel
theorem dL_law_400 : decode cL_law 400 = .ok (.iload 4, 2) := by decide +kernel
theorem dL_law_402 : decode cL_law 402 = .ok (.iconst 2, 1) := by decide +kernel
theorem dL_law_403 : decode cL_law 403 = .ok (.iadd, 1) := by decide +kernel
theorem dL_law_404 : decode cL_law 404 = .ok (.iaload, 1) := by decide +kernel
theorem dL_law_405 : decode cL_law 405 = .ok (.aload_n 3, 1) := by decide +kernel
theorem dL_law_406 : decode cL_law 406 = .ok (.invokestatic 72, 3) := by decide +kernel
theorem dL_law_409 : decode cL_law 409 = .ok (.istore 5, 2) := by decide +kernel
theorem dL_law_411 : decode cL_law 411 = .ok (.aload_n 2, 1) := by decide +kernel
theorem dL_law_412 : decode cL_law 412 = .ok (.aload_n 0, 1) := by decide +kernel
theorem dL_law_413 : decode cL_law 413 = .ok (.iload 4, 2) := by decide +kernel
theorem dL_law_415 : decode cL_law 415 = .ok (.iconst 1, 1) := by decide +kernel
theorem dL_law_416 : decode cL_law 416 = .ok (.iadd, 1) := by decide +kernel
theorem dL_law_417 : decode cL_law 417 = .ok (.iaload, 1) := by decide +kernel
theorem dL_law_418 : decode cL_law 418 = .ok (.aload_n 0, 1) := by decide +kernel
theorem dL_law_419 : decode cL_law 419 = .ok (.iload 4, 2) := by decide +kernel
theorem dL_law_421 : decode cL_law 421 = .ok (.iconst 2, 1) := by decide +kernel
theorem dL_law_422 : decode cL_law 422 = .ok (.iadd, 1) := by decide +kernel
theorem dL_law_423 : decode cL_law 423 = .ok (.iaload, 1) := by decide +kernel
theorem dL_law_424 : decode cL_law 424 = .ok (.invokevirtual 74, 3) := by decide +kernel
theorem dL_law_427 : decode cL_law 427 = .ok (.istore 6, 2) := by decide +kernel
theorem dL_law_429 : decode cL_law 429 = .ok (.aload_n 2, 1) := by decide +kernel
theorem dL_law_430 : decode cL_law 430 = .ok (.invokevirtual 57, 3) := by decide +kernel
theorem dL_law_433 : decode cL_law 433 = .ok (.iload 5, 2) := by decide +kernel
theorem dL_law_435 : decode cL_law 435 = .ok (.if_icmp .eq 5, 3) := by decide +kernel
theorem dL_law_438 : decode cL_law 438 = .ok (.iconst 0, 1) := by decide +kernel
theorem dL_law_439 : decode cL_law 439 = .ok (.ireturn, 1) := by decide +kernel
theorem dL_law_440 : decode cL_law 440 = .ok (.iload 5, 2) := by decide +kernel
theorem dL_law_442 : decode cL_law 442 = .ok (.ifCond .ne 15, 3) := by decide +kernel
theorem dL_law_445 : decode cL_law 445 = .ok (.aload_n 3, 1) := by decide +kernel
theorem dL_law_446 : decode cL_law 446 = .ok (.iconst 0, 1) := by decide +kernel
theorem dL_law_447 : decode cL_law 447 = .ok (.laload, 1) := by decide +kernel
theorem dL_law_448 : decode cL_law 448 = .ok (.iload 6, 2) := by decide +kernel
theorem dL_law_450 : decode cL_law 450 = .ok (.i2l, 1) := by decide +kernel
theorem dL_law_451 : decode cL_law 451 = .ok (.lcmp, 1) := by decide +kernel
theorem dL_law_452 : decode cL_law 452 = .ok (.ifCond .eq 5, 3) := by decide +kernel
theorem dL_law_455 : decode cL_law 455 = .ok (.iconst 0, 1) := by decide +kernel
theorem dL_law_456 : decode cL_law 456 = .ok (.ireturn, 1) := by decide +kernel
theorem dL_law_457 : decode cL_law 457 = .ok (.goto 256, 3) := by decide +kernel
theorem dL_law_460 : decode cL_law 460 = .ok (.aload_n 1, 1) := by decide +kernel
theorem dL_law_461 : decode cL_law 461 = .ok (.invokevirtual 75, 3) := by decide +kernel
theorem dL_law_464 : decode cL_law 464 = .ok (.aload_n 2, 1) := by decide +kernel
theorem dL_law_465 : decode cL_law 465 = .ok (.invokevirtual 78, 3) := by decide +kernel
theorem dL_law_468 : decode cL_law 468 = .ok (.if_icmp .eq 245, 3) := by decide +kernel
theorem dL_law_471 : decode cL_law 471 = .ok (.iconst 0, 1) := by decide +kernel
theorem dL_law_472 : decode cL_law 472 = .ok (.ireturn, 1) := by decide +kernel
theorem dL_law_473 : decode cL_law 473 = .ok (.aload_n 1, 1) := by decide +kernel
theorem dL_law_474 : decode cL_law 474 = .ok (.aload_n 0, 1) := by decide +kernel
theorem dL_law_475 : decode cL_law 475 = .ok (.iload 4, 2) := by decide +kernel
theorem dL_law_477 : decode cL_law 477 = .ok (.iconst 1, 1) := by decide +kernel
theorem dL_law_478 : decode cL_law 478 = .ok (.iadd, 1) := by decide +kernel
theorem dL_law_479 : decode cL_law 479 = .ok (.iaload, 1) := by decide +kernel
theorem dL_law_480 : decode cL_law 480 = .ok (.aload_n 0, 1) := by decide +kernel
theorem dL_law_481 : decode cL_law 481 = .ok (.iload 4, 2) := by decide +kernel
theorem dL_law_483 : decode cL_law 483 = .ok (.iconst 2, 1) := by decide +kernel
theorem dL_law_484 : decode cL_law 484 = .ok (.iadd, 1) := by decide +kernel
theorem dL_law_485 : decode cL_law 485 = .ok (.iaload, 1) := by decide +kernel
theorem dL_law_486 : decode cL_law 486 = .ok (.aload_n 0, 1) := by decide +kernel
theorem dL_law_487 : decode cL_law 487 = .ok (.iload 4, 2) := by decide +kernel
theorem dL_law_489 : decode cL_law 489 = .ok (.iconst 3, 1) := by decide +kernel
theorem dL_law_490 : decode cL_law 490 = .ok (.iadd, 1) := by decide +kernel
theorem dL_law_491 : decode cL_law 491 = .ok (.iaload, 1) := by decide +kernel
theorem dL_law_492 : decode cL_law 492 = .ok (.aload_n 3, 1) := by decide +kernel
theorem dL_law_493 : decode cL_law 493 = .ok (.invokestatic 79, 3) := by decide +kernel
theorem dL_law_496 : decode cL_law 496 = .ok (.istore 5, 2) := by decide +kernel
theorem dL_law_498 : decode cL_law 498 = .ok (.aload_n 2, 1) := by decide +kernel
theorem dL_law_499 : decode cL_law 499 = .ok (.aload_n 0, 1) := by decide +kernel
theorem dL_law_500 : decode cL_law 500 = .ok (.iload 4, 2) := by decide +kernel
theorem dL_law_502 : decode cL_law 502 = .ok (.iconst 1, 1) := by decide +kernel
theorem dL_law_503 : decode cL_law 503 = .ok (.iadd, 1) := by decide +kernel
theorem dL_law_504 : decode cL_law 504 = .ok (.iaload, 1) := by decide +kernel
theorem dL_law_505 : decode cL_law 505 = .ok (.aload_n 0, 1) := by decide +kernel
theorem dL_law_506 : decode cL_law 506 = .ok (.iload 4, 2) := by decide +kernel
theorem dL_law_508 : decode cL_law 508 = .ok (.iconst 2, 1) := by decide +kernel
theorem dL_law_509 : decode cL_law 509 = .ok (.iadd, 1) := by decide +kernel
theorem dL_law_510 : decode cL_law 510 = .ok (.iaload, 1) := by decide +kernel
theorem dL_law_511 : decode cL_law 511 = .ok (.aload_n 0, 1) := by decide +kernel
theorem dL_law_512 : decode cL_law 512 = .ok (.iload 4, 2) := by decide +kernel
theorem dL_law_514 : decode cL_law 514 = .ok (.iconst 3, 1) := by decide +kernel
theorem dL_law_515 : decode cL_law 515 = .ok (.iadd, 1) := by decide +kernel
theorem dL_law_516 : decode cL_law 516 = .ok (.iaload, 1) := by decide +kernel
theorem dL_law_517 : decode cL_law 517 = .ok (.invokevirtual 82, 3) := by decide +kernel
theorem dL_law_520 : decode cL_law 520 = .ok (.istore 6, 2) := by decide +kernel
theorem dL_law_522 : decode cL_law 522 = .ok (.aload_n 2, 1) := by decide +kernel
theorem dL_law_523 : decode cL_law 523 = .ok (.invokevirtual 57, 3) := by decide +kernel
theorem dL_law_526 : decode cL_law 526 = .ok (.iload 5, 2) := by decide +kernel
theorem dL_law_528 : decode cL_law 528 = .ok (.if_icmp .eq 5, 3) := by decide +kernel
theorem dL_law_531 : decode cL_law 531 = .ok (.iconst 0, 1) := by decide +kernel
theorem dL_law_532 : decode cL_law 532 = .ok (.ireturn, 1) := by decide +kernel
theorem dL_law_533 : decode cL_law 533 = .ok (.iload 5, 2) := by decide +kernel
theorem dL_law_535 : decode cL_law 535 = .ok (.ifCond .ne 15, 3) := by decide +kernel
theorem dL_law_538 : decode cL_law 538 = .ok (.aload_n 3, 1) := by decide +kernel
theorem dL_law_539 : decode cL_law 539 = .ok (.iconst 0, 1) := by decide +kernel
theorem dL_law_540 : decode cL_law 540 = .ok (.laload, 1) := by decide +kernel
theorem dL_law_541 : decode cL_law 541 = .ok (.iload 6, 2) := by decide +kernel
theorem dL_law_543 : decode cL_law 543 = .ok (.i2l, 1) := by decide +kernel
theorem dL_law_544 : decode cL_law 544 = .ok (.lcmp, 1) := by decide +kernel
theorem dL_law_545 : decode cL_law 545 = .ok (.ifCond .eq 5, 3) := by decide +kernel
theorem dL_law_548 : decode cL_law 548 = .ok (.iconst 0, 1) := by decide +kernel
theorem dL_law_549 : decode cL_law 549 = .ok (.ireturn, 1) := by decide +kernel
theorem dL_law_550 : decode cL_law 550 = .ok (.goto 163, 3) := by decide +kernel
theorem dL_law_553 : decode cL_law 553 = .ok (.aload_n 1, 1) := by decide +kernel
theorem dL_law_554 : decode cL_law 554 = .ok (.aload_n 0, 1) := by decide +kernel
theorem dL_law_555 : decode cL_law 555 = .ok (.iload 4, 2) := by decide +kernel
theorem dL_law_557 : decode cL_law 557 = .ok (.iconst 1, 1) := by decide +kernel
