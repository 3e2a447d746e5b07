theorem d_LW_0 : decode code 0 = .ok (.new 7, 3) := by decide +kernel
theorem d_LW_3 : decode code 3 = .ok (.dup, 1) := by decide +kernel
theorem d_LW_4 : decode code 4 = .ok (.invokespecial 9, 3) := by decide +kernel
theorem d_LW_7 : decode code 7 = .ok (.astore_n 1, 1) := by decide +kernel
theorem d_LW_8 : decode code 8 = .ok (.new 10, 3) := by decide +kernel
theorem d_LW_11 : decode code 11 = .ok (.dup, 1) := by decide +kernel
theorem d_LW_12 : decode code 12 = .ok (.invokespecial 12, 3) := by decide +kernel
theorem d_LW_15 : decode code 15 = .ok (.astore_n 2, 1) := by decide +kernel
theorem d_LW_16 : decode code 16 = .ok (.iconst 0, 1) := by decide +kernel
theorem d_LW_17 : decode code 17 = .ok (.istore_n 3, 1) := by decide +kernel
theorem d_LW_18 : decode code 18 = .ok (.iload_n 3, 1) := by decide +kernel
theorem d_LW_19 : decode code 19 = .ok (.aload_n 0, 1) := by decide +kernel
theorem d_LW_20 : decode code 20 = .ok (.arraylength, 1) := by decide +kernel
theorem d_LW_21 : decode code 21 = .ok (.bipush 6, 2) := by decide +kernel
theorem d_LW_23 : decode code 23 = .ok (.isub, 1) := by decide +kernel
theorem d_LW_24 : decode code 24 = .ok (.if_icmp .gt 1383, 3) := by decide +kernel
theorem d_LW_27 : decode code 27 = .ok (.aload_n 0, 1) := by decide +kernel
theorem d_LW_28 : decode code 28 = .ok (.iload_n 3, 1) := by decide +kernel
theorem d_LW_29 : decode code 29 = .ok (.iaload, 1) := by decide +kernel
theorem d_LW_30 : decode code 30 = .ok (.bipush 63, 2) := by decide +kernel
theorem d_LW_32 : decode code 32 = .ok (.iand, 1) := by decide +kernel
theorem d_LW_33 : decode code 33 = .ok (.tableswitch 1368 0 39 #[175, 198, 211, 224, 237, 280, 323, 366, 409, 442, 485, 518, 541, 554, 577, 600, 633, 656, 689, 712, 735, 768, 811, 834, 857, 880, 914, 937, 970, 983, 1006, 1050, 1083, 1126, 1149, 1202, 1245, 1308, 1331, 1354], 175) := by decide +kernel
theorem d_LW_208 : decode code 208 = .ok (.aload_n 1, 1) := by decide +kernel
theorem d_LW_209 : decode code 209 = .ok (.aload_n 0, 1) := by decide +kernel
theorem d_LW_210 : decode code 210 = .ok (.iload_n 3, 1) := by decide +kernel
theorem d_LW_211 : decode code 211 = .ok (.iconst 1, 1) := by decide +kernel
theorem d_LW_212 : decode code 212 = .ok (.iadd, 1) := by decide +kernel
theorem d_LW_213 : decode code 213 = .ok (.iaload, 1) := by decide +kernel
theorem d_LW_214 : decode code 214 = .ok (.invokevirtual 13, 3) := by decide +kernel
theorem d_LW_217 : decode code 217 = .ok (.aload_n 2, 1) := by decide +kernel
theorem d_LW_218 : decode code 218 = .ok (.aload_n 0, 1) := by decide +kernel
theorem d_LW_219 : decode code 219 = .ok (.iload_n 3, 1) := by decide +kernel
theorem d_LW_220 : decode code 220 = .ok (.iconst 1, 1) := by decide +kernel
theorem d_LW_221 : decode code 221 = .ok (.iadd, 1) := by decide +kernel
theorem d_LW_222 : decode code 222 = .ok (.iaload, 1) := by decide +kernel
theorem d_LW_223 : decode code 223 = .ok (.invokevirtual 17, 3) := by decide +kernel
theorem d_LW_226 : decode code 226 = .ok (.if_icmp .eq 1175, 3) := by decide +kernel
theorem d_LW_229 : decode code 229 = .ok (.iconst 0, 1) := by decide +kernel
theorem d_LW_230 : decode code 230 = .ok (.ireturn, 1) := by decide +kernel
theorem d_LW_231 : decode code 231 = .ok (.aload_n 1, 1) := by decide +kernel
theorem d_LW_232 : decode code 232 = .ok (.invokevirtual 18, 3) := by decide +kernel
theorem d_LW_235 : decode code 235 = .ok (.aload_n 2, 1) := by decide +kernel
theorem d_LW_236 : decode code 236 = .ok (.invokevirtual 22, 3) := by decide +kernel
theorem d_LW_239 : decode code 239 = .ok (.if_icmp .eq 1162, 3) := by decide +kernel
theorem d_LW_242 : decode code 242 = .ok (.iconst 0, 1) := by decide +kernel
theorem d_LW_243 : decode code 243 = .ok (.ireturn, 1) := by decide +kernel
theorem d_LW_244 : decode code 244 = .ok (.aload_n 1, 1) := by decide +kernel
theorem d_LW_245 : decode code 245 = .ok (.invokevirtual 23, 3) := by decide +kernel
theorem d_LW_248 : decode code 248 = .ok (.aload_n 2, 1) := by decide +kernel
theorem d_LW_249 : decode code 249 = .ok (.invokevirtual 26, 3) := by decide +kernel
theorem d_LW_252 : decode code 252 = .ok (.if_icmp .eq 1149, 3) := by decide +kernel
theorem d_LW_255 : decode code 255 = .ok (.iconst 0, 1) := by decide +kernel
theorem d_LW_256 : decode code 256 = .ok (.ireturn, 1) := by decide +kernel
theorem d_LW_257 : decode code 257 = .ok (.aload_n 1, 1) := by decide +kernel
theorem d_LW_258 : decode code 258 = .ok (.invokevirtual 27, 3) := by decide +kernel
theorem d_LW_261 : decode code 261 = .ok (.aload_n 2, 1) := by decide +kernel
theorem d_LW_262 : decode code 262 = .ok (.invokevirtual 30, 3) := by decide +kernel
theorem d_LW_265 : decode code 265 = .ok (.if_icmp .eq 1136, 3) := by decide +kernel
theorem d_LW_268 : decode code 268 = .ok (.iconst 0, 1) := by decide +kernel
theorem d_LW_269 : decode code 269 = .ok (.ireturn, 1) := by decide +kernel
theorem d_LW_270 : decode code 270 = .ok (.aload_n 1, 1) := by decide +kernel
theorem d_LW_271 : decode code 271 = .ok (.aload_n 0, 1) := by decide +kernel
theorem d_LW_272 : decode code 272 = .ok (.iload_n 3, 1) := by decide +kernel
theorem d_LW_273 : decode code 273 = .ok (.iconst 1, 1) := by decide +kernel
theorem d_LW_274 : decode code 274 = .ok (.iadd, 1) := by decide +kernel
theorem d_LW_275 : decode code 275 = .ok (.iaload, 1) := by decide +kernel
theorem d_LW_276 : decode code 276 = .ok (.aload_n 0, 1) := by decide +kernel
theorem d_LW_277 : decode code 277 = .ok (.iload_n 3, 1) := by decide +kernel
theorem d_LW_278 : decode code 278 = .ok (.iconst 2, 1) := by decide +kernel
theorem d_LW_279 : decode code 279 = .ok (.iadd, 1) := by decide +kernel
theorem d_LW_280 : decode code 280 = .ok (.iaload, 1) := by decide +kernel
theorem d_LW_281 : decode code 281 = .ok (.aload_n 0, 1) := by decide +kernel
theorem d_LW_282 : decode code 282 = .ok (.iload_n 3, 1) := by decide +kernel
theorem d_LW_283 : decode code 283 = .ok (.iconst 3, 1) := by decide +kernel
theorem d_LW_284 : decode code 284 = .ok (.iadd, 1) := by decide +kernel
theorem d_LW_285 : decode code 285 = .ok (.iaload, 1) := by decide +kernel
theorem d_LW_286 : decode code 286 = .ok (.invokevirtual 31, 3) := by decide +kernel
theorem d_LW_289 : decode code 289 = .ok (.aload_n 2, 1) := by decide +kernel
theorem d_LW_290 : decode code 290 = .ok (.aload_n 0, 1) := by decide +kernel
theorem d_LW_291 : decode code 291 = .ok (.iload_n 3, 1) := by decide +kernel
theorem d_LW_292 : decode code 292 = .ok (.iconst 1, 1) := by decide +kernel
theorem d_LW_293 : decode code 293 = .ok (.iadd, 1) := by decide +kernel
theorem d_LW_294 : decode code 294 = .ok (.iaload, 1) := by decide +kernel
theorem d_LW_295 : decode code 295 = .ok (.aload_n 0, 1) := by decide +kernel
theorem d_LW_296 : decode code 296 = .ok (.iload_n 3, 1) := by decide +kernel
theorem d_LW_297 : decode code 297 = .ok (.iconst 2, 1) := by decide +kernel
theorem d_LW_298 : decode code 298 = .ok (.iadd, 1) := by decide +kernel
theorem d_LW_299 : decode code 299 = .ok (.iaload, 1) := by decide +kernel
theorem d_LW_300 : decode code 300 = .ok (.aload_n 0, 1) := by decide +kernel
theorem d_LW_301 : decode code 301 = .ok (.iload_n 3, 1) := by decide +kernel
theorem d_LW_302 : decode code 302 = .ok (.iconst 3, 1) := by decide +kernel
theorem d_LW_303 : decode code 303 = .ok (.iadd, 1) := by decide +kernel
theorem d_LW_304 : decode code 304 = .ok (.iaload, 1) := by decide +kernel
theorem d_LW_305 : decode code 305 = .ok (.invokevirtual 35, 3) := by decide +kernel
theorem d_LW_308 : decode code 308 = .ok (.if_icmp .eq 1093, 3) := by decide +kernel
theorem d_LW_311 : decode code 311 = .ok (.iconst 0, 1) := by decide +kernel
theorem d_LW_312 : decode code 312 = .ok (.ireturn, 1) := by decide +kernel
theorem d_LW_313 : decode code 313 = .ok (.aload_n 1, 1) := by decide +kernel
theorem d_LW_314 : decode code 314 = .ok (.aload_n 0, 1) := by decide +kernel
theorem d_LW_315 : decode code 315 = .ok (.iload_n 3, 1) := by decide +kernel
theorem d_LW_316 : decode code 316 = .ok (.iconst 1, 1) := by decide +kernel
theorem d_LW_317 : decode code 317 = .ok (.iadd, 1) := by decide +kernel
theorem d_LW_318 : decode code 318 = .ok (.iaload, 1) := by decide +kernel
theorem d_LW_319 : decode code 319 = .ok (.aload_n 0, 1) := by decide +kernel
theorem d_LW_320 : decode code 320 = .ok (.iload_n 3, 1) := by decide +kernel
theorem d_LW_321 : decode code 321 = .ok (.iconst 2, 1) := by decide +kernel
theorem d_LW_322 : decode code 322 = .ok (.iadd, 1) := by decide +kernel
theorem d_LW_323 : decode code 323 = .ok (.iaload, 1) := by decide +kernel
theorem d_LW_324 : decode code 324 = .ok (.aload_n 0, 1) := by decide +kernel
theorem d_LW_325 : decode code 325 = .ok (.iload_n 3, 1) := by decide +kernel
theorem d_LW_326 : decode code 326 = .ok (.iconst 3, 1) := by decide +kernel
theorem d_LW_327 : decode code 327 = .ok (.iadd, 1) := by decide +kernel
theorem d_LW_328 : decode code 328 = .ok (.iaload, 1) := by decide +kernel
theorem d_LW_329 : decode code 329 = .ok (.invokevirtual 36, 3) := by decide +kernel
theorem d_LW_332 : decode code 332 = .ok (.aload_n 2, 1) := by decide +kernel
theorem d_LW_333 : decode code 333 = .ok (.aload_n 0, 1) := by decide +kernel
theorem d_LW_334 : decode code 334 = .ok (.iload_n 3, 1) := by decide +kernel
theorem d_LW_335 : decode code 335 = .ok (.iconst 1, 1) := by decide +kernel
theorem d_LW_336 : decode code 336 = .ok (.iadd, 1) := by decide +kernel
theorem d_LW_337 : decode code 337 = .ok (.iaload, 1) := by decide +kernel
theorem d_LW_338 : decode code 338 = .ok (.aload_n 0, 1) := by decide +kernel
theorem d_LW_339 : decode code 339 = .ok (.iload_n 3, 1) := by decide +kernel
theorem d_LW_340 : decode code 340 = .ok (.iconst 2, 1) := by decide +kernel
theorem d_LW_341 : decode code 341 = .ok (.iadd, 1) := by decide +kernel
theorem d_LW_342 : decode code 342 = .ok (.iaload, 1) := by decide +kernel
theorem d_LW_343 : decode code 343 = .ok (.aload_n 0, 1) := by decide +kernel
theorem d_LW_344 : decode code 344 = .ok (.iload_n 3, 1) := by decide +kernel
theorem d_LW_345 : decode code 345 = .ok (.iconst 3, 1) := by decide +kernel
theorem d_LW_346 : decode code 346 = .ok (.iadd, 1) := by decide +kernel
theorem d_LW_347 : decode code 347 = .ok (.iaload, 1) := by decide +kernel
theorem d_LW_348 : decode code 348 = .ok (.invokevirtual 39, 3) := by decide +kernel
theorem d_LW_351 : decode code 351 = .ok (.if_icmp .eq 1050, 3) := by decide +kernel
theorem d_LW_354 : decode code 354 = .ok (.iconst 0, 1) := by decide +kernel
theorem d_LW_355 : decode code 355 = .ok (.ireturn, 1) := by decide +kernel
theorem d_LW_356 : decode code 356 = .ok (.aload_n 1, 1) := by decide +kernel
theorem d_LW_357 : decode code 357 = .ok (.aload_n 0, 1) := by decide +kernel
theorem d_LW_358 : decode code 358 = .ok (.iload_n 3, 1) := by decide +kernel
theorem d_LW_359 : decode code 359 = .ok (.iconst 1, 1) := by decide +kernel
theorem d_LW_360 : decode code 360 = .ok (.iadd, 1) := by decide +kernel
theorem d_LW_361 : decode code 361 = .ok (.iaload, 1) := by decide +kernel
theorem d_LW_362 : decode code 362 = .ok (.aload_n 0, 1) := by decide +kernel
theorem d_LW_363 : decode code 363 = .ok (.iload_n 3, 1) := by decide +kernel
theorem d_LW_364 : decode code 364 = .ok (.iconst 2, 1) := by decide +kernel
theorem d_LW_365 : decode code 365 = .ok (.iadd, 1) := by decide +kernel
theorem d_LW_366 : decode code 366 = .ok (.iaload, 1) := by decide +kernel
theorem d_LW_367 : decode code 367 = .ok (.aload_n 0, 1) := by decide +kernel
theorem d_LW_368 : decode code 368 = .ok (.iload_n 3, 1) := by decide +kernel
theorem d_LW_369 : decode code 369 = .ok (.iconst 3, 1) := by decide +kernel
theorem d_LW_370 : decode code 370 = .ok (.iadd, 1) := by decide +kernel
theorem d_LW_371 : decode code 371 = .ok (.iaload, 1) := by decide +kernel
theorem d_LW_372 : decode code 372 = .ok (.invokevirtual 40, 3) := by decide +kernel
theorem d_LW_375 : decode code 375 = .ok (.aload_n 2, 1) := by decide +kernel
theorem d_LW_376 : decode code 376 = .ok (.aload_n 0, 1) := by decide +kernel
theorem d_LW_377 : decode code 377 = .ok (.iload_n 3, 1) := by decide +kernel
theorem d_LW_378 : decode code 378 = .ok (.iconst 1, 1) := by decide +kernel
theorem d_LW_379 : decode code 379 = .ok (.iadd, 1) := by decide +kernel
theorem d_LW_380 : decode code 380 = .ok (.iaload, 1) := by decide +kernel
theorem d_LW_381 : decode code 381 = .ok (.aload_n 0, 1) := by decide +kernel
theorem d_LW_382 : decode code 382 = .ok (.iload_n 3, 1) := by decide +kernel
theorem d_LW_383 : decode code 383 = .ok (.iconst 2, 1) := by decide +kernel
theorem d_LW_384 : decode code 384 = .ok (.iadd, 1) := by decide +kernel
theorem d_LW_385 : decode code 385 = .ok (.iaload, 1) := by decide +kernel
theorem d_LW_386 : decode code 386 = .ok (.aload_n 0, 1) := by decide +kernel
theorem d_LW_387 : decode code 387 = .ok (.iload_n 3, 1) := by decide +kernel
theorem d_LW_388 : decode code 388 = .ok (.iconst 3, 1) := by decide +kernel
theorem d_LW_389 : decode code 389 = .ok (.iadd, 1) := by decide +kernel
theorem d_LW_390 : decode code 390 = .ok (.iaload, 1) := by decide +kernel
theorem d_LW_391 : decode code 391 = .ok (.invokevirtual 43, 3) := by decide +kernel
theorem d_LW_394 : decode code 394 = .ok (.if_icmp .eq 1007, 3) := by decide +kernel
theorem d_LW_397 : decode code 397 = .ok (.iconst 0, 1) := by decide +kernel
theorem d_LW_398 : decode code 398 = .ok (.ireturn, 1) := by decide +kernel
theorem d_LW_399 : decode code 399 = .ok (.aload_n 1, 1) := by decide +kernel
theorem d_LW_400 : decode code 400 = .ok (.aload_n 0, 1) := by decide +kernel
theorem d_LW_401 : decode code 401 = .ok (.iload_n 3, 1) := by decide +kernel
theorem d_LW_402 : decode code 402 = .ok (.iconst 1, 1) := by decide +kernel
theorem d_LW_403 : decode code 403 = .ok (.iadd, 1) := by decide +kernel
theorem d_LW_404 : decode code 404 = .ok (.iaload, 1) := by decide +kernel
theorem d_LW_405 : decode code 405 = .ok (.aload_n 0, 1) := by decide +kernel
theorem d_LW_406 : decode code 406 = .ok (.iload_n 3, 1) := by decide +kernel
theorem d_LW_407 : decode code 407 = .ok (.iconst 2, 1) := by decide +kernel
theorem d_LW_408 : decode code 408 = .ok (.iadd, 1) := by decide +kernel
theorem d_LW_409 : decode code 409 = .ok (.iaload, 1) := by decide +kernel
theorem d_LW_410 : decode code 410 = .ok (.aload_n 0, 1) := by decide +kernel
theorem d_LW_411 : decode code 411 = .ok (.iload_n 3, 1) := by decide +kernel
theorem d_LW_412 : decode code 412 = .ok (.iconst 3, 1) := by decide +kernel
theorem d_LW_413 : decode code 413 = .ok (.iadd, 1) := by decide +kernel
theorem d_LW_414 : decode code 414 = .ok (.iaload, 1) := by decide +kernel
theorem d_LW_415 : decode code 415 = .ok (.invokevirtual 44, 3) := by decide +kernel
theorem d_LW_418 : decode code 418 = .ok (.aload_n 2, 1) := by decide +kernel
theorem d_LW_419 : decode code 419 = .ok (.aload_n 0, 1) := by decide +kernel
theorem d_LW_420 : decode code 420 = .ok (.iload_n 3, 1) := by decide +kernel
theorem d_LW_421 : decode code 421 = .ok (.iconst 1, 1) := by decide +kernel
theorem d_LW_422 : decode code 422 = .ok (.iadd, 1) := by decide +kernel
theorem d_LW_423 : decode code 423 = .ok (.iaload, 1) := by decide +kernel
theorem d_LW_424 : decode code 424 = .ok (.aload_n 0, 1) := by decide +kernel
theorem d_LW_425 : decode code 425 = .ok (.iload_n 3, 1) := by decide +kernel
theorem d_LW_426 : decode code 426 = .ok (.iconst 2, 1) := by decide +kernel
theorem d_LW_427 : decode code 427 = .ok (.iadd, 1) := by decide +kernel
theorem d_LW_428 : decode code 428 = .ok (.iaload, 1) := by decide +kernel
theorem d_LW_429 : decode code 429 = .ok (.aload_n 0, 1) := by decide +kernel
theorem d_LW_430 : decode code 430 = .ok (.iload_n 3, 1) := by decide +kernel
theorem d_LW_431 : decode code 431 = .ok (.iconst 3, 1) := by decide +kernel
theorem d_LW_432 : decode code 432 = .ok (.iadd, 1) := by decide +kernel
theorem d_LW_433 : decode code 433 = .ok (.iaload, 1) := by decide +kernel
theorem d_LW_434 : decode code 434 = .ok (.invokevirtual 47, 3) := by decide +kernel
theorem d_LW_437 : decode code 437 = .ok (.if_icmp .eq 964, 3) := by decide +kernel
theorem d_LW_440 : decode code 440 = .ok (.iconst 0, 1) := by decide +kernel
theorem d_LW_441 : decode code 441 = .ok (.ireturn, 1) := by decide +kernel
theorem d_LW_442 : decode code 442 = .ok (.aload_n 1, 1) := by decide +kernel
theorem d_LW_443 : decode code 443 = .ok (.aload_n 0, 1) := by decide +kernel
theorem d_LW_444 : decode code 444 = .ok (.iload_n 3, 1) := by decide +kernel
theorem d_LW_445 : decode code 445 = .ok (.iconst 1, 1) := by decide +kernel
theorem d_LW_446 : decode code 446 = .ok (.iadd, 1) := by decide +kernel
theorem d_LW_447 : decode code 447 = .ok (.iaload, 1) := by decide +kernel
theorem d_LW_448 : decode code 448 = .ok (.aload_n 0, 1) := by decide +kernel
theorem d_LW_449 : decode code 449 = .ok (.iload_n 3, 1) := by decide +kernel
theorem d_LW_450 : decode code 450 = .ok (.iconst 2, 1) := by decide +kernel
theorem d_LW_451 : decode code 451 = .ok (.iadd, 1) := by decide +kernel
theorem d_LW_452 : decode code 452 = .ok (.iaload, 1) := by decide +kernel
theorem d_LW_453 : decode code 453 = .ok (.invokevirtual 48, 3) := by decide +kernel
theorem d_LW_456 : decode code 456 = .ok (.aload_n 2, 1) := by decide +kernel
theorem d_LW_457 : decode code 457 = .ok (.aload_n 0, 1) := by decide +kernel
theorem d_LW_458 : decode code 458 = .ok (.iload_n 3, 1) := by decide +kernel
theorem d_LW_459 : decode code 459 = .ok (.iconst 1, 1) := by decide +kernel
theorem d_LW_460 : decode code 460 = .ok (.iadd, 1) := by decide +kernel
theorem d_LW_461 : decode code 461 = .ok (.iaload, 1) := by decide +kernel
theorem d_LW_462 : decode code 462 = .ok (.aload_n 0, 1) := by decide +kernel
theorem d_LW_463 : decode code 463 = .ok (.iload_n 3, 1) := by decide +kernel
theorem d_LW_464 : decode code 464 = .ok (.iconst 2, 1) := by decide +kernel
theorem d_LW_465 : decode code 465 = .ok (.iadd, 1) := by decide +kernel
theorem d_LW_466 : decode code 466 = .ok (.iaload, 1) := by decide +kernel
theorem d_LW_467 : decode code 467 = .ok (.invokevirtual 52, 3) := by decide +kernel
theorem d_LW_470 : decode code 470 = .ok (.if_icmp .eq 931, 3) := by decide +kernel
theorem d_LW_473 : decode code 473 = .ok (.iconst 0, 1) := by decide +kernel
theorem d_LW_474 : decode code 474 = .ok (.ireturn, 1) := by decide +kernel
theorem d_LW_475 : decode code 475 = .ok (.aload_n 1, 1) := by decide +kernel
theorem d_LW_476 : decode code 476 = .ok (.aload_n 0, 1) := by decide +kernel
theorem d_LW_477 : decode code 477 = .ok (.iload_n 3, 1) := by decide +kernel
theorem d_LW_478 : decode code 478 = .ok (.iconst 1, 1) := by decide +kernel
theorem d_LW_479 : decode code 479 = .ok (.iadd, 1) := by decide +kernel
theorem d_LW_480 : decode code 480 = .ok (.iaload, 1) := by decide +kernel
theorem d_LW_481 : decode code 481 = .ok (.aload_n 0, 1) := by decide +kernel
theorem d_LW_482 : decode code 482 = .ok (.iload_n 3, 1) := by decide +kernel
theorem d_LW_483 : decode code 483 = .ok (.iconst 2, 1) := by decide +kernel
theorem d_LW_484 : decode code 484 = .ok (.iadd, 1) := by decide +kernel
theorem d_LW_485 : decode code 485 = .ok (.iaload, 1) := by decide +kernel
theorem d_LW_486 : decode code 486 = .ok (.aload_n 0, 1) := by decide +kernel
theorem d_LW_487 : decode code 487 = .ok (.iload_n 3, 1) := by decide +kernel
theorem d_LW_488 : decode code 488 = .ok (.iconst 3, 1) := by decide +kernel
theorem d_LW_489 : decode code 489 = .ok (.iadd, 1) := by decide +kernel
theorem d_LW_490 : decode code 490 = .ok (.iaload, 1) := by decide +kernel
theorem d_LW_491 : decode code 491 = .ok (.invokevirtual 53, 3) := by decide +kernel
theorem d_LW_494 : decode code 494 = .ok (.aload_n 2, 1) := by decide +kernel
theorem d_LW_495 : decode code 495 = .ok (.aload_n 0, 1) := by decide +kernel
theorem d_LW_496 : decode code 496 = .ok (.iload_n 3, 1) := by decide +kernel
theorem d_LW_497 : decode code 497 = .ok (.iconst 1, 1) := by decide +kernel
theorem d_LW_498 : decode code 498 = .ok (.iadd, 1) := by decide +kernel
theorem d_LW_499 : decode code 499 = .ok (.iaload, 1) := by decide +kernel
theorem d_LW_500 : decode code 500 = .ok (.aload_n 0, 1) := by decide +kernel
theorem d_LW_501 : decode code 501 = .ok (.iload_n 3, 1) := by decide +kernel
theorem d_LW_502 : decode code 502 = .ok (.iconst 2, 1) := by decide +kernel
theorem d_LW_503 : decode code 503 = .ok (.iadd, 1) := by decide +kernel
theorem d_LW_504 : decode code 504 = .ok (.iaload, 1) := by decide +kernel
theorem d_LW_505 : decode code 505 = .ok (.aload_n 0, 1) := by decide +kernel
theorem d_LW_506 : decode code 506 = .ok (.iload_n 3, 1) := by decide +kernel
theorem d_LW_507 : decode code 507 = .ok (.iconst 3, 1) := by decide +kernel
theorem d_LW_508 : decode code 508 = .ok (.iadd, 1) := by decide +kernel
theorem d_LW_509 : decode code 509 = .ok (.iaload, 1) := by decide +kernel
theorem d_LW_510 : decode code 510 = .ok (.invokevirtual 56, 3) := by decide +kernel
theorem d_LW_513 : decode code 513 = .ok (.if_icmp .eq 888, 3) := by decide +kernel
theorem d_LW_516 : decode code 516 = .ok (.iconst 0, 1) := by decide +kernel
theorem d_LW_517 : decode code 517 = .ok (.ireturn, 1) := by decide +kernel
theorem d_LW_518 : decode code 518 = .ok (.aload_n 1, 1) := by decide +kernel
theorem d_LW_519 : decode code 519 = .ok (.aload_n 0, 1) := by decide +kernel
theorem d_LW_520 : decode code 520 = .ok (.iload_n 3, 1) := by decide +kernel
theorem d_LW_521 : decode code 521 = .ok (.iconst 1, 1) := by decide +kernel
theorem d_LW_522 : decode code 522 = .ok (.iadd, 1) := by decide +kernel
theorem d_LW_523 : decode code 523 = .ok (.iaload, 1) := by decide +kernel
theorem d_LW_524 : decode code 524 = .ok (.aload_n 0, 1) := by decide +kernel
theorem d_LW_525 : decode code 525 = .ok (.iload_n 3, 1) := by decide +kernel
theorem d_LW_526 : decode code 526 = .ok (.iconst 2, 1) := by decide +kernel
theorem d_LW_527 : decode code 527 = .ok (.iadd, 1) := by decide +kernel
theorem d_LW_528 : decode code 528 = .ok (.iaload, 1) := by decide +kernel
theorem d_LW_529 : decode code 529 = .ok (.invokevirtual 57, 3) := by decide +kernel
theorem d_LW_532 : decode code 532 = .ok (.aload_n 2, 1) := by decide +kernel
theorem d_LW_533 : decode code 533 = .ok (.aload_n 0, 1) := by decide +kernel
theorem d_LW_534 : decode code 534 = .ok (.iload_n 3, 1) := by decide +kernel
theorem d_LW_535 : decode code 535 = .ok (.iconst 1, 1) := by decide +kernel
theorem d_LW_536 : decode code 536 = .ok (.iadd, 1) := by decide +kernel
theorem d_LW_537 : decode code 537 = .ok (.iaload, 1) := by decide +kernel
theorem d_LW_538 : decode code 538 = .ok (.aload_n 0, 1) := by decide +kernel
theorem d_LW_539 : decode code 539 = .ok (.iload_n 3, 1) := by decide +kernel
theorem d_LW_540 : decode code 540 = .ok (.iconst 2, 1) := by decide +kernel
theorem d_LW_541 : decode code 541 = .ok (.iadd, 1) := by decide +kernel
theorem d_LW_542 : decode code 542 = .ok (.iaload, 1) := by decide +kernel
theorem d_LW_543 : decode code 543 = .ok (.invokevirtual 60, 3) := by decide +kernel
theorem d_LW_546 : decode code 546 = .ok (.if_icmp .eq 855, 3) := by decide +kernel
theorem d_LW_549 : decode code 549 = .ok (.iconst 0, 1) := by decide +kernel
theorem d_LW_550 : decode code 550 = .ok (.ireturn, 1) := by decide +kernel
theorem d_LW_551 : decode code 551 = .ok (.aload_n 1, 1) := by decide +kernel
theorem d_LW_552 : decode code 552 = .ok (.aload_n 0, 1) := by decide +kernel
theorem d_LW_553 : decode code 553 = .ok (.iload_n 3, 1) := by decide +kernel
theorem d_LW_554 : decode code 554 = .ok (.iconst 1, 1) := by decide +kernel
theorem d_LW_555 : decode code 555 = .ok (.iadd, 1) := by decide +kernel
theorem d_LW_556 : decode code 556 = .ok (.iaload, 1) := by decide +kernel
theorem d_LW_557 : decode code 557 = .ok (.invokevirtual 61, 3) := by decide +kernel
theorem d_LW_560 : decode code 560 = .ok (.aload_n 2, 1) := by decide +kernel
theorem d_LW_561 : decode code 561 = .ok (.aload_n 0, 1) := by decide +kernel
theorem d_LW_562 : decode code 562 = .ok (.iload_n 3, 1) := by decide +kernel
theorem d_LW_563 : decode code 563 = .ok (.iconst 1, 1) := by decide +kernel
theorem d_LW_564 : decode code 564 = .ok (.iadd, 1) := by decide +kernel
theorem d_LW_565 : decode code 565 = .ok (.iaload, 1) := by decide +kernel
theorem d_LW_566 : decode code 566 = .ok (.invokevirtual 64, 3) := by decide +kernel
theorem d_LW_569 : decode code 569 = .ok (.if_icmp .eq 832, 3) := by decide +kernel
theorem d_LW_572 : decode code 572 = .ok (.iconst 0, 1) := by decide +kernel
theorem d_LW_573 : decode code 573 = .ok (.ireturn, 1) := by decide +kernel
theorem d_LW_574 : decode code 574 = .ok (.aload_n 1, 1) := by decide +kernel
theorem d_LW_575 : decode code 575 = .ok (.invokevirtual 65, 3) := by decide +kernel
theorem d_LW_578 : decode code 578 = .ok (.aload_n 2, 1) := by decide +kernel
theorem d_LW_579 : decode code 579 = .ok (.invokevirtual 68, 3) := by decide +kernel
theorem d_LW_582 : decode code 582 = .ok (.if_icmp .eq 819, 3) := by decide +kernel
theorem d_LW_585 : decode code 585 = .ok (.iconst 0, 1) := by decide +kernel
theorem d_LW_586 : decode code 586 = .ok (.ireturn, 1) := by decide +kernel
theorem d_LW_587 : decode code 587 = .ok (.aload_n 1, 1) := by decide +kernel
theorem d_LW_588 : decode code 588 = .ok (.aload_n 0, 1) := by decide +kernel
theorem d_LW_589 : decode code 589 = .ok (.iload_n 3, 1) := by decide +kernel
theorem d_LW_590 : decode code 590 = .ok (.iconst 1, 1) := by decide +kernel
theorem d_LW_591 : decode code 591 = .ok (.iadd, 1) := by decide +kernel
theorem d_LW_592 : decode code 592 = .ok (.iaload, 1) := by decide +kernel
theorem d_LW_593 : decode code 593 = .ok (.invokevirtual 69, 3) := by decide +kernel
