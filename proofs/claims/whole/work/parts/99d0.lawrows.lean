/-! the law's instructions (printed by wip/gen/g99d.py) -/
theorem dl_0 : decode code 0 = .ok (.new 7, 3) := by decide +kernel
theorem dl_3 : decode code 3 = .ok (.dup, 1) := by decide +kernel
theorem dl_4 : decode code 4 = .ok (.invokespecial 9, 3) := by decide +kernel
theorem dl_7 : decode code 7 = .ok (.astore_n 1, 1) := by decide +kernel
theorem dl_8 : decode code 8 = .ok (.new 10, 3) := by decide +kernel
theorem dl_11 : decode code 11 = .ok (.dup, 1) := by decide +kernel
theorem dl_12 : decode code 12 = .ok (.invokespecial 12, 3) := by decide +kernel
theorem dl_15 : decode code 15 = .ok (.astore_n 2, 1) := by decide +kernel
theorem dl_16 : decode code 16 = .ok (.iconst 0, 1) := by decide +kernel
theorem dl_17 : decode code 17 = .ok (.istore_n 3, 1) := by decide +kernel
theorem dl_18 : decode code 18 = .ok (.iload_n 3, 1) := by decide +kernel
theorem dl_19 : decode code 19 = .ok (.aload_n 0, 1) := by decide +kernel
theorem dl_20 : decode code 20 = .ok (.arraylength, 1) := by decide +kernel
theorem dl_21 : decode code 21 = .ok (.bipush 6, 2) := by decide +kernel
theorem dl_23 : decode code 23 = .ok (.isub, 1) := by decide +kernel
theorem dl_24 : decode code 24 = .ok (.if_icmp .gt 1533, 3) := by decide +kernel
theorem dl_27 : decode code 27 = .ok (.aload_n 0, 1) := by decide +kernel
theorem dl_28 : decode code 28 = .ok (.iload_n 3, 1) := by decide +kernel
theorem dl_29 : decode code 29 = .ok (.iaload, 1) := by decide +kernel
theorem dl_30 : decode code 30 = .ok (.bipush 63, 2) := by decide +kernel
theorem dl_32 : decode code 32 = .ok (.iand, 1) := by decide +kernel
theorem dl_33 : decode code 33 = .ok (.tableswitch 1518 0 45 #[199, 232, 255, 298, 321, 384, 407, 450, 483, 506, 529, 552, 585, 598, 631, 644, 667, 690, 733, 766, 789, 832, 855, 888, 922, 945, 968, 991, 1024, 1047, 1080, 1103, 1136, 1159, 1182, 1205, 1228, 1271, 1304, 1337, 1350, 1383, 1416, 1449, 1482, 1505], 199) := by decide +kernel
theorem dl_232 : decode code 232 = .ok (.aload_n 1, 1) := by decide +kernel
theorem dl_233 : decode code 233 = .ok (.aload_n 0, 1) := by decide +kernel
theorem dl_234 : decode code 234 = .ok (.iload_n 3, 1) := by decide +kernel
theorem dl_235 : decode code 235 = .ok (.iconst 1, 1) := by decide +kernel
theorem dl_236 : decode code 236 = .ok (.iadd, 1) := by decide +kernel
theorem dl_237 : decode code 237 = .ok (.iaload, 1) := by decide +kernel
theorem dl_238 : decode code 238 = .ok (.aload_n 0, 1) := by decide +kernel
theorem dl_239 : decode code 239 = .ok (.iload_n 3, 1) := by decide +kernel
theorem dl_240 : decode code 240 = .ok (.iconst 2, 1) := by decide +kernel
theorem dl_241 : decode code 241 = .ok (.iadd, 1) := by decide +kernel
theorem dl_242 : decode code 242 = .ok (.iaload, 1) := by decide +kernel
theorem dl_243 : decode code 243 = .ok (.invokevirtual 13, 3) := by decide +kernel
theorem dl_246 : decode code 246 = .ok (.aload_n 2, 1) := by decide +kernel
theorem dl_247 : decode code 247 = .ok (.aload_n 0, 1) := by decide +kernel
theorem dl_248 : decode code 248 = .ok (.iload_n 3, 1) := by decide +kernel
theorem dl_249 : decode code 249 = .ok (.iconst 1, 1) := by decide +kernel
theorem dl_250 : decode code 250 = .ok (.iadd, 1) := by decide +kernel
theorem dl_251 : decode code 251 = .ok (.iaload, 1) := by decide +kernel
theorem dl_252 : decode code 252 = .ok (.aload_n 0, 1) := by decide +kernel
theorem dl_253 : decode code 253 = .ok (.iload_n 3, 1) := by decide +kernel
theorem dl_254 : decode code 254 = .ok (.iconst 2, 1) := by decide +kernel
theorem dl_255 : decode code 255 = .ok (.iadd, 1) := by decide +kernel
theorem dl_256 : decode code 256 = .ok (.iaload, 1) := by decide +kernel
theorem dl_257 : decode code 257 = .ok (.invokevirtual 17, 3) := by decide +kernel
theorem dl_260 : decode code 260 = .ok (.if_icmp .eq 1291, 3) := by decide +kernel
theorem dl_263 : decode code 263 = .ok (.iconst 0, 1) := by decide +kernel
theorem dl_264 : decode code 264 = .ok (.ireturn, 1) := by decide +kernel
theorem dl_265 : decode code 265 = .ok (.aload_n 1, 1) := by decide +kernel
theorem dl_266 : decode code 266 = .ok (.aload_n 0, 1) := by decide +kernel
theorem dl_267 : decode code 267 = .ok (.iload_n 3, 1) := by decide +kernel
theorem dl_268 : decode code 268 = .ok (.iconst 1, 1) := by decide +kernel
theorem dl_269 : decode code 269 = .ok (.iadd, 1) := by decide +kernel
theorem dl_270 : decode code 270 = .ok (.iaload, 1) := by decide +kernel
theorem dl_271 : decode code 271 = .ok (.invokevirtual 18, 3) := by decide +kernel
theorem dl_274 : decode code 274 = .ok (.aload_n 2, 1) := by decide +kernel
theorem dl_275 : decode code 275 = .ok (.aload_n 0, 1) := by decide +kernel
theorem dl_276 : decode code 276 = .ok (.iload_n 3, 1) := by decide +kernel
theorem dl_277 : decode code 277 = .ok (.iconst 1, 1) := by decide +kernel
theorem dl_278 : decode code 278 = .ok (.iadd, 1) := by decide +kernel
theorem dl_279 : decode code 279 = .ok (.iaload, 1) := by decide +kernel
theorem dl_280 : decode code 280 = .ok (.invokevirtual 22, 3) := by decide +kernel
theorem dl_283 : decode code 283 = .ok (.if_icmp .eq 1268, 3) := by decide +kernel
theorem dl_286 : decode code 286 = .ok (.iconst 0, 1) := by decide +kernel
theorem dl_287 : decode code 287 = .ok (.ireturn, 1) := by decide +kernel
theorem dl_288 : decode code 288 = .ok (.aload_n 1, 1) := by decide +kernel
theorem dl_289 : decode code 289 = .ok (.aload_n 0, 1) := by decide +kernel
theorem dl_290 : decode code 290 = .ok (.iload_n 3, 1) := by decide +kernel
theorem dl_291 : decode code 291 = .ok (.iconst 1, 1) := by decide +kernel
theorem dl_292 : decode code 292 = .ok (.iadd, 1) := by decide +kernel
theorem dl_293 : decode code 293 = .ok (.iaload, 1) := by decide +kernel
theorem dl_294 : decode code 294 = .ok (.aload_n 0, 1) := by decide +kernel
theorem dl_295 : decode code 295 = .ok (.iload_n 3, 1) := by decide +kernel
theorem dl_296 : decode code 296 = .ok (.iconst 2, 1) := by decide +kernel
theorem dl_297 : decode code 297 = .ok (.iadd, 1) := by decide +kernel
theorem dl_298 : decode code 298 = .ok (.iaload, 1) := by decide +kernel
theorem dl_299 : decode code 299 = .ok (.aload_n 0, 1) := by decide +kernel
theorem dl_300 : decode code 300 = .ok (.iload_n 3, 1) := by decide +kernel
theorem dl_301 : decode code 301 = .ok (.iconst 3, 1) := by decide +kernel
theorem dl_302 : decode code 302 = .ok (.iadd, 1) := by decide +kernel
theorem dl_303 : decode code 303 = .ok (.iaload, 1) := by decide +kernel
theorem dl_304 : decode code 304 = .ok (.invokevirtual 23, 3) := by decide +kernel
theorem dl_307 : decode code 307 = .ok (.aload_n 2, 1) := by decide +kernel
theorem dl_308 : decode code 308 = .ok (.aload_n 0, 1) := by decide +kernel
theorem dl_309 : decode code 309 = .ok (.iload_n 3, 1) := by decide +kernel
theorem dl_310 : decode code 310 = .ok (.iconst 1, 1) := by decide +kernel
theorem dl_311 : decode code 311 = .ok (.iadd, 1) := by decide +kernel
theorem dl_312 : decode code 312 = .ok (.iaload, 1) := by decide +kernel
theorem dl_313 : decode code 313 = .ok (.aload_n 0, 1) := by decide +kernel
theorem dl_314 : decode code 314 = .ok (.iload_n 3, 1) := by decide +kernel
theorem dl_315 : decode code 315 = .ok (.iconst 2, 1) := by decide +kernel
theorem dl_316 : decode code 316 = .ok (.iadd, 1) := by decide +kernel
theorem dl_317 : decode code 317 = .ok (.iaload, 1) := by decide +kernel
theorem dl_318 : decode code 318 = .ok (.aload_n 0, 1) := by decide +kernel
theorem dl_319 : decode code 319 = .ok (.iload_n 3, 1) := by decide +kernel
theorem dl_320 : decode code 320 = .ok (.iconst 3, 1) := by decide +kernel
theorem dl_321 : decode code 321 = .ok (.iadd, 1) := by decide +kernel
theorem dl_322 : decode code 322 = .ok (.iaload, 1) := by decide +kernel
theorem dl_323 : decode code 323 = .ok (.invokevirtual 27, 3) := by decide +kernel
theorem dl_326 : decode code 326 = .ok (.if_icmp .eq 1225, 3) := by decide +kernel
theorem dl_329 : decode code 329 = .ok (.iconst 0, 1) := by decide +kernel
theorem dl_330 : decode code 330 = .ok (.ireturn, 1) := by decide +kernel
theorem dl_331 : decode code 331 = .ok (.aload_n 1, 1) := by decide +kernel
theorem dl_332 : decode code 332 = .ok (.aload_n 0, 1) := by decide +kernel
theorem dl_333 : decode code 333 = .ok (.iload_n 3, 1) := by decide +kernel
theorem dl_334 : decode code 334 = .ok (.iconst 1, 1) := by decide +kernel
theorem dl_335 : decode code 335 = .ok (.iadd, 1) := by decide +kernel
theorem dl_336 : decode code 336 = .ok (.iaload, 1) := by decide +kernel
theorem dl_337 : decode code 337 = .ok (.invokevirtual 28, 3) := by decide +kernel
theorem dl_340 : decode code 340 = .ok (.aload_n 2, 1) := by decide +kernel
theorem dl_341 : decode code 341 = .ok (.aload_n 0, 1) := by decide +kernel
theorem dl_342 : decode code 342 = .ok (.iload_n 3, 1) := by decide +kernel
theorem dl_343 : decode code 343 = .ok (.iconst 1, 1) := by decide +kernel
theorem dl_344 : decode code 344 = .ok (.iadd, 1) := by decide +kernel
theorem dl_345 : decode code 345 = .ok (.iaload, 1) := by decide +kernel
theorem dl_346 : decode code 346 = .ok (.invokevirtual 31, 3) := by decide +kernel
theorem dl_349 : decode code 349 = .ok (.if_icmp .eq 1202, 3) := by decide +kernel
theorem dl_352 : decode code 352 = .ok (.iconst 0, 1) := by decide +kernel
theorem dl_353 : decode code 353 = .ok (.ireturn, 1) := by decide +kernel
theorem dl_354 : decode code 354 = .ok (.aload_n 1, 1) := by decide +kernel
theorem dl_355 : decode code 355 = .ok (.aload_n 0, 1) := by decide +kernel
theorem dl_356 : decode code 356 = .ok (.iload_n 3, 1) := by decide +kernel
theorem dl_357 : decode code 357 = .ok (.iconst 1, 1) := by decide +kernel
theorem dl_358 : decode code 358 = .ok (.iadd, 1) := by decide +kernel
theorem dl_359 : decode code 359 = .ok (.iaload, 1) := by decide +kernel
theorem dl_360 : decode code 360 = .ok (.aload_n 0, 1) := by decide +kernel
theorem dl_361 : decode code 361 = .ok (.iload_n 3, 1) := by decide +kernel
theorem dl_362 : decode code 362 = .ok (.iconst 2, 1) := by decide +kernel
theorem dl_363 : decode code 363 = .ok (.iadd, 1) := by decide +kernel
theorem dl_364 : decode code 364 = .ok (.iaload, 1) := by decide +kernel
theorem dl_365 : decode code 365 = .ok (.aload_n 0, 1) := by decide +kernel
theorem dl_366 : decode code 366 = .ok (.iload_n 3, 1) := by decide +kernel
theorem dl_367 : decode code 367 = .ok (.iconst 3, 1) := by decide +kernel
theorem dl_368 : decode code 368 = .ok (.iadd, 1) := by decide +kernel
theorem dl_369 : decode code 369 = .ok (.iaload, 1) := by decide +kernel
theorem dl_370 : decode code 370 = .ok (.aload_n 0, 1) := by decide +kernel
theorem dl_371 : decode code 371 = .ok (.iload_n 3, 1) := by decide +kernel
theorem dl_372 : decode code 372 = .ok (.iconst 4, 1) := by decide +kernel
theorem dl_373 : decode code 373 = .ok (.iadd, 1) := by decide +kernel
theorem dl_374 : decode code 374 = .ok (.iaload, 1) := by decide +kernel
theorem dl_375 : decode code 375 = .ok (.aload_n 0, 1) := by decide +kernel
theorem dl_376 : decode code 376 = .ok (.iload_n 3, 1) := by decide +kernel
theorem dl_377 : decode code 377 = .ok (.iconst 5, 1) := by decide +kernel
theorem dl_378 : decode code 378 = .ok (.iadd, 1) := by decide +kernel
theorem dl_379 : decode code 379 = .ok (.iaload, 1) := by decide +kernel
theorem dl_380 : decode code 380 = .ok (.invokevirtual 32, 3) := by decide +kernel
theorem dl_383 : decode code 383 = .ok (.aload_n 2, 1) := by decide +kernel
theorem dl_384 : decode code 384 = .ok (.aload_n 0, 1) := by decide +kernel
theorem dl_385 : decode code 385 = .ok (.iload_n 3, 1) := by decide +kernel
theorem dl_386 : decode code 386 = .ok (.iconst 1, 1) := by decide +kernel
theorem dl_387 : decode code 387 = .ok (.iadd, 1) := by decide +kernel
theorem dl_388 : decode code 388 = .ok (.iaload, 1) := by decide +kernel
theorem dl_389 : decode code 389 = .ok (.aload_n 0, 1) := by decide +kernel
theorem dl_390 : decode code 390 = .ok (.iload_n 3, 1) := by decide +kernel
theorem dl_391 : decode code 391 = .ok (.iconst 2, 1) := by decide +kernel
theorem dl_392 : decode code 392 = .ok (.iadd, 1) := by decide +kernel
theorem dl_393 : decode code 393 = .ok (.iaload, 1) := by decide +kernel
theorem dl_394 : decode code 394 = .ok (.aload_n 0, 1) := by decide +kernel
theorem dl_395 : decode code 395 = .ok (.iload_n 3, 1) := by decide +kernel
theorem dl_396 : decode code 396 = .ok (.iconst 3, 1) := by decide +kernel
theorem dl_397 : decode code 397 = .ok (.iadd, 1) := by decide +kernel
theorem dl_398 : decode code 398 = .ok (.iaload, 1) := by decide +kernel
theorem dl_399 : decode code 399 = .ok (.aload_n 0, 1) := by decide +kernel
theorem dl_400 : decode code 400 = .ok (.iload_n 3, 1) := by decide +kernel
theorem dl_401 : decode code 401 = .ok (.iconst 4, 1) := by decide +kernel
theorem dl_402 : decode code 402 = .ok (.iadd, 1) := by decide +kernel
theorem dl_403 : decode code 403 = .ok (.iaload, 1) := by decide +kernel
theorem dl_404 : decode code 404 = .ok (.aload_n 0, 1) := by decide +kernel
theorem dl_405 : decode code 405 = .ok (.iload_n 3, 1) := by decide +kernel
theorem dl_406 : decode code 406 = .ok (.iconst 5, 1) := by decide +kernel
theorem dl_407 : decode code 407 = .ok (.iadd, 1) := by decide +kernel
theorem dl_408 : decode code 408 = .ok (.iaload, 1) := by decide +kernel
theorem dl_409 : decode code 409 = .ok (.invokevirtual 36, 3) := by decide +kernel
theorem dl_412 : decode code 412 = .ok (.if_icmp .eq 1139, 3) := by decide +kernel
theorem dl_415 : decode code 415 = .ok (.iconst 0, 1) := by decide +kernel
theorem dl_416 : decode code 416 = .ok (.ireturn, 1) := by decide +kernel
theorem dl_417 : decode code 417 = .ok (.aload_n 1, 1) := by decide +kernel
theorem dl_418 : decode code 418 = .ok (.aload_n 0, 1) := by decide +kernel
theorem dl_419 : decode code 419 = .ok (.iload_n 3, 1) := by decide +kernel
