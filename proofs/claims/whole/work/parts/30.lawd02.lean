theorem d_Law_law_259 : decode b_Law_law 259 = .ok (.iadd, 1) := by decide +kernel
theorem d_Law_law_260 : decode b_Law_law 260 = .ok (.iaload, 1) := by decide +kernel
theorem d_Law_law_261 : decode b_Law_law 261 = .ok (.aload_n 0, 1) := by decide +kernel
theorem d_Law_law_262 : decode b_Law_law 262 = .ok (.iload 4, 2) := by decide +kernel
theorem d_Law_law_264 : decode b_Law_law 264 = .ok (.iconst 2, 1) := by decide +kernel
theorem d_Law_law_265 : decode b_Law_law 265 = .ok (.iadd, 1) := by decide +kernel
theorem d_Law_law_266 : decode b_Law_law 266 = .ok (.iaload, 1) := by decide +kernel
theorem d_Law_law_267 : decode b_Law_law 267 = .ok (.i2l, 1) := by decide +kernel
theorem d_Law_law_268 : decode b_Law_law 268 = .ok (.bipush 32, 2) := by decide +kernel
theorem d_Law_law_270 : decode b_Law_law 270 = .ok (.lshl, 1) := by decide +kernel
theorem d_Law_law_271 : decode b_Law_law 271 = .ok (.aload_n 0, 1) := by decide +kernel
theorem d_Law_law_272 : decode b_Law_law 272 = .ok (.iload 4, 2) := by decide +kernel
theorem d_Law_law_274 : decode b_Law_law 274 = .ok (.iconst 3, 1) := by decide +kernel
theorem d_Law_law_275 : decode b_Law_law 275 = .ok (.iadd, 1) := by decide +kernel
theorem d_Law_law_276 : decode b_Law_law 276 = .ok (.iaload, 1) := by decide +kernel
theorem d_Law_law_277 : decode b_Law_law 277 = .ok (.i2l, 1) := by decide +kernel
theorem d_Law_law_278 : decode b_Law_law 278 = .ok (.ldc2_w 77, 3) := by decide +kernel
theorem d_Law_law_281 : decode b_Law_law 281 = .ok (.land, 1) := by decide +kernel
theorem d_Law_law_282 : decode b_Law_law 282 = .ok (.lor, 1) := by decide +kernel
theorem d_Law_law_283 : decode b_Law_law 283 = .ok (.aload_n 0, 1) := by decide +kernel
theorem d_Law_law_284 : decode b_Law_law 284 = .ok (.iload 4, 2) := by decide +kernel
theorem d_Law_law_286 : decode b_Law_law 286 = .ok (.iconst 4, 1) := by decide +kernel
theorem d_Law_law_287 : decode b_Law_law 287 = .ok (.iadd, 1) := by decide +kernel
theorem d_Law_law_288 : decode b_Law_law 288 = .ok (.iaload, 1) := by decide +kernel
theorem d_Law_law_289 : decode b_Law_law 289 = .ok (.invokevirtual 82, 3) := by decide +kernel
theorem d_Law_law_292 : decode b_Law_law 292 = .ok (.istore 6, 2) := by decide +kernel
theorem d_Law_law_294 : decode b_Law_law 294 = .ok (.aload_n 2, 1) := by decide +kernel
theorem d_Law_law_295 : decode b_Law_law 295 = .ok (.invokevirtual 69, 3) := by decide +kernel
theorem d_Law_law_298 : decode b_Law_law 298 = .ok (.iload 5, 2) := by decide +kernel
theorem d_Law_law_300 : decode b_Law_law 300 = .ok (.if_icmp .eq 5, 3) := by decide +kernel
theorem d_Law_law_303 : decode b_Law_law 303 = .ok (.iconst 0, 1) := by decide +kernel
theorem d_Law_law_304 : decode b_Law_law 304 = .ok (.ireturn, 1) := by decide +kernel
theorem d_Law_law_305 : decode b_Law_law 305 = .ok (.iload 5, 2) := by decide +kernel
theorem d_Law_law_307 : decode b_Law_law 307 = .ok (.ifCond .ne 15, 3) := by decide +kernel
theorem d_Law_law_310 : decode b_Law_law 310 = .ok (.aload_n 3, 1) := by decide +kernel
theorem d_Law_law_311 : decode b_Law_law 311 = .ok (.iconst 0, 1) := by decide +kernel
theorem d_Law_law_312 : decode b_Law_law 312 = .ok (.laload, 1) := by decide +kernel
theorem d_Law_law_313 : decode b_Law_law 313 = .ok (.iload 6, 2) := by decide +kernel
theorem d_Law_law_315 : decode b_Law_law 315 = .ok (.i2l, 1) := by decide +kernel
theorem d_Law_law_316 : decode b_Law_law 316 = .ok (.lcmp, 1) := by decide +kernel
theorem d_Law_law_317 : decode b_Law_law 317 = .ok (.ifCond .eq 5, 3) := by decide +kernel
theorem d_Law_law_320 : decode b_Law_law 320 = .ok (.iconst 0, 1) := by decide +kernel
theorem d_Law_law_321 : decode b_Law_law 321 = .ok (.ireturn, 1) := by decide +kernel
theorem d_Law_law_322 : decode b_Law_law 322 = .ok (.goto 733, 3) := by decide +kernel
theorem d_Law_law_325 : decode b_Law_law 325 = .ok (.aload_n 1, 1) := by decide +kernel
theorem d_Law_law_326 : decode b_Law_law 326 = .ok (.aload_n 0, 1) := by decide +kernel
theorem d_Law_law_327 : decode b_Law_law 327 = .ok (.iload 4, 2) := by decide +kernel
theorem d_Law_law_329 : decode b_Law_law 329 = .ok (.iconst 1, 1) := by decide +kernel
theorem d_Law_law_330 : decode b_Law_law 330 = .ok (.iadd, 1) := by decide +kernel
theorem d_Law_law_331 : decode b_Law_law 331 = .ok (.iaload, 1) := by decide +kernel
theorem d_Law_law_332 : decode b_Law_law 332 = .ok (.aload_n 0, 1) := by decide +kernel
theorem d_Law_law_333 : decode b_Law_law 333 = .ok (.iload 4, 2) := by decide +kernel
theorem d_Law_law_335 : decode b_Law_law 335 = .ok (.iconst 2, 1) := by decide +kernel
theorem d_Law_law_336 : decode b_Law_law 336 = .ok (.iadd, 1) := by decide +kernel
theorem d_Law_law_337 : decode b_Law_law 337 = .ok (.iaload, 1) := by decide +kernel
theorem d_Law_law_338 : decode b_Law_law 338 = .ok (.aload_n 3, 1) := by decide +kernel
theorem d_Law_law_339 : decode b_Law_law 339 = .ok (.invokestatic 83, 3) := by decide +kernel
theorem d_Law_law_342 : decode b_Law_law 342 = .ok (.istore 5, 2) := by decide +kernel
theorem d_Law_law_344 : decode b_Law_law 344 = .ok (.aload_n 2, 1) := by decide +kernel
theorem d_Law_law_345 : decode b_Law_law 345 = .ok (.aload_n 0, 1) := by decide +kernel
