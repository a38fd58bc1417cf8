/-! soundness -/
theorem d0_0 : decode (mC M0) 0 = .ok (.new 8, 3) := by decide +kernel
theorem d0_3 : decode (mC M0) 3 = .ok (.dup, 1) := by decide +kernel
theorem d0_4 : decode (mC M0) 4 = .ok (.invokespecial 15, 3) := by decide +kernel
theorem d0_7 : decode (mC M0) 7 = .ok (.astore_n 1, 1) := by decide +kernel
theorem d0_8 : decode (mC M0) 8 = .ok (.new 16, 3) := by decide +kernel
theorem d0_11 : decode (mC M0) 11 = .ok (.dup, 1) := by decide +kernel
theorem d0_12 : decode (mC M0) 12 = .ok (.invokespecial 18, 3) := by decide +kernel
theorem d0_15 : decode (mC M0) 15 = .ok (.astore_n 2, 1) := by decide +kernel
theorem d0_16 : decode (mC M0) 16 = .ok (.iconst 1, 1) := by decide +kernel
theorem d0_17 : decode (mC M0) 17 = .ok (.newarray .long, 2) := by decide +kernel
theorem d0_19 : decode (mC M0) 19 = .ok (.astore_n 3, 1) := by decide +kernel
theorem d0_20 : decode (mC M0) 20 = .ok (.iconst 0, 1) := by decide +kernel
theorem d0_21 : decode (mC M0) 21 = .ok (.istore 4, 2) := by decide +kernel
theorem d0_23 : decode (mC M0) 23 = .ok (.iload 4, 2) := by decide +kernel
theorem d0_25 : decode (mC M0) 25 = .ok (.aload_n 0, 1) := by decide +kernel
theorem d0_26 : decode (mC M0) 26 = .ok (.arraylength, 1) := by decide +kernel
theorem d0_27 : decode (mC M0) 27 = .ok (.bipush 8, 2) := by decide +kernel
theorem d0_29 : decode (mC M0) 29 = .ok (.isub, 1) := by decide +kernel
theorem d0_30 : decode (mC M0) 30 = .ok (.if_icmp .gt 2214, 3) := by decide +kernel
theorem d0_33 : decode (mC M0) 33 = .ok (.aload_n 0, 1) := by decide +kernel
theorem d0_34 : decode (mC M0) 34 = .ok (.iload 4, 2) := by decide +kernel
theorem d0_36 : decode (mC M0) 36 = .ok (.iaload, 1) := by decide +kernel
theorem d0_37 : decode (mC M0) 37 = .ok (.bipush 63, 2) := by decide +kernel
theorem d0_39 : decode (mC M0) 39 = .ok (.iand, 1) := by decide +kernel
theorem d0_40 : decode (mC M0) 40 = .ok (.tableswitch 2198 0 46 #[204, 277, 302, 315, 328, 353, 378, 415, 452, 513, 550, 611, 672, 709, 770, 819, 880, 929, 978, 1015, 1052, 1101, 1162, 1199, 1260, 1297, 1384, 1485, 1522, 1571, 1584, 1621, 1658, 1671, 1708, 1745, 1782, 1795, 1820, 1845, 1932, 1969, 2030, 2091, 2104, 2160, 2185], 204) := by decide +kernel
theorem d0_244 : decode (mC M0) 244 = .ok (.aload_n 1, 1) := by decide +kernel
theorem d0_245 : decode (mC M0) 245 = .ok (.aload_n 0, 1) := by decide +kernel
theorem d0_246 : decode (mC M0) 246 = .ok (.iload 4, 2) := by decide +kernel
theorem d0_248 : decode (mC M0) 248 = .ok (.iconst 1, 1) := by decide +kernel
theorem d0_249 : decode (mC M0) 249 = .ok (.iadd, 1) := by decide +kernel
theorem d0_250 : decode (mC M0) 250 = .ok (.iaload, 1) := by decide +kernel
theorem d0_251 : decode (mC M0) 251 = .ok (.aload_n 0, 1) := by decide +kernel
theorem d0_252 : decode (mC M0) 252 = .ok (.iload 4, 2) := by decide +kernel
theorem d0_254 : decode (mC M0) 254 = .ok (.iconst 2, 1) := by decide +kernel
theorem d0_255 : decode (mC M0) 255 = .ok (.iadd, 1) := by decide +kernel
theorem d0_256 : decode (mC M0) 256 = .ok (.iaload, 1) := by decide +kernel
theorem d0_257 : decode (mC M0) 257 = .ok (.aload_n 0, 1) := by decide +kernel
theorem d0_258 : decode (mC M0) 258 = .ok (.iload 4, 2) := by decide +kernel
theorem d0_260 : decode (mC M0) 260 = .ok (.iconst 3, 1) := by decide +kernel
theorem d0_261 : decode (mC M0) 261 = .ok (.iadd, 1) := by decide +kernel
theorem d0_262 : decode (mC M0) 262 = .ok (.iaload, 1) := by decide +kernel
theorem d0_263 : decode (mC M0) 263 = .ok (.aload_n 0, 1) := by decide +kernel
theorem d0_264 : decode (mC M0) 264 = .ok (.iload 4, 2) := by decide +kernel
theorem d0_266 : decode (mC M0) 266 = .ok (.iconst 4, 1) := by decide +kernel
theorem d0_267 : decode (mC M0) 267 = .ok (.iadd, 1) := by decide +kernel
theorem d0_268 : decode (mC M0) 268 = .ok (.iaload, 1) := by decide +kernel
theorem d0_269 : decode (mC M0) 269 = .ok (.aload_n 0, 1) := by decide +kernel
theorem d0_270 : decode (mC M0) 270 = .ok (.iload 4, 2) := by decide +kernel
theorem d0_272 : decode (mC M0) 272 = .ok (.iconst 5, 1) := by decide +kernel
theorem d0_273 : decode (mC M0) 273 = .ok (.iadd, 1) := by decide +kernel
theorem d0_274 : decode (mC M0) 274 = .ok (.iaload, 1) := by decide +kernel
theorem d0_275 : decode (mC M0) 275 = .ok (.invokevirtual 19, 3) := by decide +kernel
theorem d0_278 : decode (mC M0) 278 = .ok (.aload_n 2, 1) := by decide +kernel
theorem d0_279 : decode (mC M0) 279 = .ok (.aload_n 0, 1) := by decide +kernel
theorem d0_280 : decode (mC M0) 280 = .ok (.iload 4, 2) := by decide +kernel
theorem d0_282 : decode (mC M0) 282 = .ok (.iconst 1, 1) := by decide +kernel
theorem d0_283 : decode (mC M0) 283 = .ok (.iadd, 1) := by decide +kernel
theorem d0_284 : decode (mC M0) 284 = .ok (.iaload, 1) := by decide +kernel
theorem d0_285 : decode (mC M0) 285 = .ok (.aload_n 0, 1) := by decide +kernel
theorem d0_286 : decode (mC M0) 286 = .ok (.iload 4, 2) := by decide +kernel
theorem d0_288 : decode (mC M0) 288 = .ok (.iconst 2, 1) := by decide +kernel
theorem d0_289 : decode (mC M0) 289 = .ok (.iadd, 1) := by decide +kernel
theorem d0_290 : decode (mC M0) 290 = .ok (.iaload, 1) := by decide +kernel
theorem d0_291 : decode (mC M0) 291 = .ok (.aload_n 0, 1) := by decide +kernel
theorem d0_292 : decode (mC M0) 292 = .ok (.iload 4, 2) := by decide +kernel
theorem d0_294 : decode (mC M0) 294 = .ok (.iconst 3, 1) := by decide +kernel
theorem d0_295 : decode (mC M0) 295 = .ok (.iadd, 1) := by decide +kernel
theorem d0_296 : decode (mC M0) 296 = .ok (.iaload, 1) := by decide +kernel
theorem d0_297 : decode (mC M0) 297 = .ok (.aload_n 0, 1) := by decide +kernel
theorem d0_298 : decode (mC M0) 298 = .ok (.iload 4, 2) := by decide +kernel
theorem d0_300 : decode (mC M0) 300 = .ok (.iconst 4, 1) := by decide +kernel
theorem d0_301 : decode (mC M0) 301 = .ok (.iadd, 1) := by decide +kernel
theorem d0_302 : decode (mC M0) 302 = .ok (.iaload, 1) := by decide +kernel
theorem d0_303 : decode (mC M0) 303 = .ok (.aload_n 0, 1) := by decide +kernel
theorem d0_304 : decode (mC M0) 304 = .ok (.iload 4, 2) := by decide +kernel
theorem d0_306 : decode (mC M0) 306 = .ok (.iconst 5, 1) := by decide +kernel
theorem d0_307 : decode (mC M0) 307 = .ok (.iadd, 1) := by decide +kernel
theorem d0_308 : decode (mC M0) 308 = .ok (.iaload, 1) := by decide +kernel
theorem d0_309 : decode (mC M0) 309 = .ok (.invokevirtual 23, 3) := by decide +kernel
theorem d0_312 : decode (mC M0) 312 = .ok (.if_icmp .eq 1926, 3) := by decide +kernel
theorem d0_315 : decode (mC M0) 315 = .ok (.iconst 0, 1) := by decide +kernel
theorem d0_316 : decode (mC M0) 316 = .ok (.ireturn, 1) := by decide +kernel
theorem d0_317 : decode (mC M0) 317 = .ok (.aload_n 1, 1) := by decide +kernel
theorem d0_318 : decode (mC M0) 318 = .ok (.aload_n 0, 1) := by decide +kernel
theorem d0_319 : decode (mC M0) 319 = .ok (.iload 4, 2) := by decide +kernel
theorem d0_321 : decode (mC M0) 321 = .ok (.iconst 1, 1) := by decide +kernel
theorem d0_322 : decode (mC M0) 322 = .ok (.iadd, 1) := by decide +kernel
theorem d0_323 : decode (mC M0) 323 = .ok (.iaload, 1) := by decide +kernel
theorem d0_324 : decode (mC M0) 324 = .ok (.invokevirtual 24, 3) := by decide +kernel
theorem d0_327 : decode (mC M0) 327 = .ok (.aload_n 2, 1) := by decide +kernel
theorem d0_328 : decode (mC M0) 328 = .ok (.aload_n 0, 1) := by decide +kernel
theorem d0_329 : decode (mC M0) 329 = .ok (.iload 4, 2) := by decide +kernel
theorem d0_331 : decode (mC M0) 331 = .ok (.iconst 1, 1) := by decide +kernel
theorem d0_332 : decode (mC M0) 332 = .ok (.iadd, 1) := by decide +kernel
theorem d0_333 : decode (mC M0) 333 = .ok (.iaload, 1) := by decide +kernel
theorem d0_334 : decode (mC M0) 334 = .ok (.invokevirtual 27, 3) := by decide +kernel
theorem d0_337 : decode (mC M0) 337 = .ok (.if_icmp .eq 1901, 3) := by decide +kernel
theorem d0_340 : decode (mC M0) 340 = .ok (.iconst 0, 1) := by decide +kernel
theorem d0_341 : decode (mC M0) 341 = .ok (.ireturn, 1) := by decide +kernel
theorem d0_342 : decode (mC M0) 342 = .ok (.aload_n 1, 1) := by decide +kernel
theorem d0_343 : decode (mC M0) 343 = .ok (.invokevirtual 28, 3) := by decide +kernel
theorem d0_346 : decode (mC M0) 346 = .ok (.aload_n 2, 1) := by decide +kernel
theorem d0_347 : decode (mC M0) 347 = .ok (.invokevirtual 32, 3) := by decide +kernel
theorem d0_350 : decode (mC M0) 350 = .ok (.if_icmp .eq 1888, 3) := by decide +kernel
theorem d0_353 : decode (mC M0) 353 = .ok (.iconst 0, 1) := by decide +kernel
theorem d0_354 : decode (mC M0) 354 = .ok (.ireturn, 1) := by decide +kernel
theorem d0_355 : decode (mC M0) 355 = .ok (.aload_n 1, 1) := by decide +kernel
theorem d0_356 : decode (mC M0) 356 = .ok (.invokevirtual 33, 3) := by decide +kernel
theorem d0_359 : decode (mC M0) 359 = .ok (.aload_n 2, 1) := by decide +kernel
theorem d0_360 : decode (mC M0) 360 = .ok (.invokevirtual 36, 3) := by decide +kernel
theorem d0_363 : decode (mC M0) 363 = .ok (.if_icmp .eq 1875, 3) := by decide +kernel
theorem d0_366 : decode (mC M0) 366 = .ok (.iconst 0, 1) := by decide +kernel
theorem d0_367 : decode (mC M0) 367 = .ok (.ireturn, 1) := by decide +kernel
theorem d0_368 : decode (mC M0) 368 = .ok (.aload_n 1, 1) := by decide +kernel
theorem d0_369 : decode (mC M0) 369 = .ok (.aload_n 0, 1) := by decide +kernel
theorem d0_370 : decode (mC M0) 370 = .ok (.iload 4, 2) := by decide +kernel
theorem d0_372 : decode (mC M0) 372 = .ok (.iconst 1, 1) := by decide +kernel
theorem d0_373 : decode (mC M0) 373 = .ok (.iadd, 1) := by decide +kernel
theorem d0_374 : decode (mC M0) 374 = .ok (.iaload, 1) := by decide +kernel
theorem d0_375 : decode (mC M0) 375 = .ok (.invokevirtual 37, 3) := by decide +kernel
theorem d0_378 : decode (mC M0) 378 = .ok (.aload_n 2, 1) := by decide +kernel
theorem d0_379 : decode (mC M0) 379 = .ok (.aload_n 0, 1) := by decide +kernel
theorem d0_380 : decode (mC M0) 380 = .ok (.iload 4, 2) := by decide +kernel
theorem d0_382 : decode (mC M0) 382 = .ok (.iconst 1, 1) := by decide +kernel
theorem d0_383 : decode (mC M0) 383 = .ok (.iadd, 1) := by decide +kernel
theorem d0_384 : decode (mC M0) 384 = .ok (.iaload, 1) := by decide +kernel
theorem d0_385 : decode (mC M0) 385 = .ok (.invokevirtual 40, 3) := by decide +kernel
theorem d0_388 : decode (mC M0) 388 = .ok (.if_icmp .eq 1850, 3) := by decide +kernel
theorem d0_391 : decode (mC M0) 391 = .ok (.iconst 0, 1) := by decide +kernel
theorem d0_392 : decode (mC M0) 392 = .ok (.ireturn, 1) := by decide +kernel
theorem d0_393 : decode (mC M0) 393 = .ok (.aload_n 1, 1) := by decide +kernel
theorem d0_394 : decode (mC M0) 394 = .ok (.aload_n 0, 1) := by decide +kernel
theorem d0_395 : decode (mC M0) 395 = .ok (.iload 4, 2) := by decide +kernel
theorem d0_397 : decode (mC M0) 397 = .ok (.iconst 1, 1) := by decide +kernel
theorem d0_398 : decode (mC M0) 398 = .ok (.iadd, 1) := by decide +kernel
theorem d0_399 : decode (mC M0) 399 = .ok (.iaload, 1) := by decide +kernel
theorem d0_400 : decode (mC M0) 400 = .ok (.invokevirtual 41, 3) := by decide +kernel
theorem d0_403 : decode (mC M0) 403 = .ok (.aload_n 2, 1) := by decide +kernel
theorem d0_404 : decode (mC M0) 404 = .ok (.aload_n 0, 1) := by decide +kernel
theorem d0_405 : decode (mC M0) 405 = .ok (.iload 4, 2) := by decide +kernel
theorem d0_407 : decode (mC M0) 407 = .ok (.iconst 1, 1) := by decide +kernel
theorem d0_408 : decode (mC M0) 408 = .ok (.iadd, 1) := by decide +kernel
theorem d0_409 : decode (mC M0) 409 = .ok (.iaload, 1) := by decide +kernel
theorem d0_410 : decode (mC M0) 410 = .ok (.invokevirtual 44, 3) := by decide +kernel
theorem d0_413 : decode (mC M0) 413 = .ok (.if_icmp .eq 1825, 3) := by decide +kernel
theorem d0_416 : decode (mC M0) 416 = .ok (.iconst 0, 1) := by decide +kernel
theorem d0_417 : decode (mC M0) 417 = .ok (.ireturn, 1) := by decide +kernel
theorem d0_418 : decode (mC M0) 418 = .ok (.aload_n 1, 1) := by decide +kernel
theorem d0_419 : decode (mC M0) 419 = .ok (.aload_n 0, 1) := by decide +kernel
theorem d0_420 : decode (mC M0) 420 = .ok (.iload 4, 2) := by decide +kernel
theorem d0_422 : decode (mC M0) 422 = .ok (.iconst 1, 1) := by decide +kernel
theorem d0_423 : decode (mC M0) 423 = .ok (.iadd, 1) := by decide +kernel
theorem d0_424 : decode (mC M0) 424 = .ok (.iaload, 1) := by decide +kernel
theorem d0_425 : decode (mC M0) 425 = .ok (.aload_n 0, 1) := by decide +kernel
theorem d0_426 : decode (mC M0) 426 = .ok (.iload 4, 2) := by decide +kernel
theorem d0_428 : decode (mC M0) 428 = .ok (.iconst 2, 1) := by decide +kernel
theorem d0_429 : decode (mC M0) 429 = .ok (.iadd, 1) := by decide +kernel
theorem d0_430 : decode (mC M0) 430 = .ok (.iaload, 1) := by decide +kernel
theorem d0_431 : decode (mC M0) 431 = .ok (.invokevirtual 45, 3) := by decide +kernel
theorem d0_434 : decode (mC M0) 434 = .ok (.aload_n 2, 1) := by decide +kernel
theorem d0_435 : decode (mC M0) 435 = .ok (.aload_n 0, 1) := by decide +kernel
theorem d0_436 : decode (mC M0) 436 = .ok (.iload 4, 2) := by decide +kernel
theorem d0_438 : decode (mC M0) 438 = .ok (.iconst 1, 1) := by decide +kernel
theorem d0_439 : decode (mC M0) 439 = .ok (.iadd, 1) := by decide +kernel
theorem d0_440 : decode (mC M0) 440 = .ok (.iaload, 1) := by decide +kernel
theorem d0_441 : decode (mC M0) 441 = .ok (.aload_n 0, 1) := by decide +kernel
theorem d0_442 : decode (mC M0) 442 = .ok (.iload 4, 2) := by decide +kernel
theorem d0_444 : decode (mC M0) 444 = .ok (.iconst 2, 1) := by decide +kernel
theorem d0_445 : decode (mC M0) 445 = .ok (.iadd, 1) := by decide +kernel
theorem d0_446 : decode (mC M0) 446 = .ok (.iaload, 1) := by decide +kernel
theorem d0_447 : decode (mC M0) 447 = .ok (.invokevirtual 49, 3) := by decide +kernel
theorem d0_450 : decode (mC M0) 450 = .ok (.if_icmp .eq 1788, 3) := by decide +kernel
theorem d0_453 : decode (mC M0) 453 = .ok (.iconst 0, 1) := by decide +kernel
theorem d0_454 : decode (mC M0) 454 = .ok (.ireturn, 1) := by decide +kernel
theorem d0_455 : decode (mC M0) 455 = .ok (.aload_n 1, 1) := by decide +kernel
theorem d0_456 : decode (mC M0) 456 = .ok (.aload_n 0, 1) := by decide +kernel
theorem d0_457 : decode (mC M0) 457 = .ok (.iload 4, 2) := by decide +kernel
theorem d0_459 : decode (mC M0) 459 = .ok (.iconst 1, 1) := by decide +kernel
theorem d0_460 : decode (mC M0) 460 = .ok (.iadd, 1) := by decide +kernel
theorem d0_461 : decode (mC M0) 461 = .ok (.iaload, 1) := by decide +kernel
theorem d0_462 : decode (mC M0) 462 = .ok (.aload_n 0, 1) := by decide +kernel
theorem d0_463 : decode (mC M0) 463 = .ok (.iload 4, 2) := by decide +kernel
theorem d0_465 : decode (mC M0) 465 = .ok (.iconst 2, 1) := by decide +kernel
theorem d0_466 : decode (mC M0) 466 = .ok (.iadd, 1) := by decide +kernel
theorem d0_467 : decode (mC M0) 467 = .ok (.iaload, 1) := by decide +kernel
theorem d0_468 : decode (mC M0) 468 = .ok (.invokevirtual 50, 3) := by decide +kernel
theorem d0_471 : decode (mC M0) 471 = .ok (.aload_n 2, 1) := by decide +kernel
theorem d0_472 : decode (mC M0) 472 = .ok (.aload_n 0, 1) := by decide +kernel
theorem d0_473 : decode (mC M0) 473 = .ok (.iload 4, 2) := by decide +kernel
theorem d0_475 : decode (mC M0) 475 = .ok (.iconst 1, 1) := by decide +kernel
theorem d0_476 : decode (mC M0) 476 = .ok (.iadd, 1) := by decide +kernel
theorem d0_477 : decode (mC M0) 477 = .ok (.iaload, 1) := by decide +kernel
theorem d0_478 : decode (mC M0) 478 = .ok (.aload_n 0, 1) := by decide +kernel
theorem d0_479 : decode (mC M0) 479 = .ok (.iload 4, 2) := by decide +kernel
theorem d0_481 : decode (mC M0) 481 = .ok (.iconst 2, 1) := by decide +kernel
theorem d0_482 : decode (mC M0) 482 = .ok (.iadd, 1) := by decide +kernel
theorem d0_483 : decode (mC M0) 483 = .ok (.iaload, 1) := by decide +kernel
theorem d0_484 : decode (mC M0) 484 = .ok (.invokevirtual 53, 3) := by decide +kernel
theorem d0_487 : decode (mC M0) 487 = .ok (.if_icmp .eq 1751, 3) := by decide +kernel
theorem d0_490 : decode (mC M0) 490 = .ok (.iconst 0, 1) := by decide +kernel
theorem d0_491 : decode (mC M0) 491 = .ok (.ireturn, 1) := by decide +kernel
theorem d0_492 : decode (mC M0) 492 = .ok (.aload_n 1, 1) := by decide +kernel
theorem d0_493 : decode (mC M0) 493 = .ok (.aload_n 0, 1) := by decide +kernel
theorem d0_494 : decode (mC M0) 494 = .ok (.iload 4, 2) := by decide +kernel
theorem d0_496 : decode (mC M0) 496 = .ok (.iconst 1, 1) := by decide +kernel
theorem d0_497 : decode (mC M0) 497 = .ok (.iadd, 1) := by decide +kernel
theorem d0_498 : decode (mC M0) 498 = .ok (.iaload, 1) := by decide +kernel
theorem d0_499 : decode (mC M0) 499 = .ok (.aload_n 0, 1) := by decide +kernel
theorem d0_500 : decode (mC M0) 500 = .ok (.iload 4, 2) := by decide +kernel
theorem d0_502 : decode (mC M0) 502 = .ok (.iconst 2, 1) := by decide +kernel
theorem d0_503 : decode (mC M0) 503 = .ok (.iadd, 1) := by decide +kernel
theorem d0_504 : decode (mC M0) 504 = .ok (.iaload, 1) := by decide +kernel
theorem d0_505 : decode (mC M0) 505 = .ok (.aload_n 0, 1) := by decide +kernel
theorem d0_506 : decode (mC M0) 506 = .ok (.iload 4, 2) := by decide +kernel
theorem d0_508 : decode (mC M0) 508 = .ok (.iconst 3, 1) := by decide +kernel
theorem d0_509 : decode (mC M0) 509 = .ok (.iadd, 1) := by decide +kernel
theorem d0_510 : decode (mC M0) 510 = .ok (.iaload, 1) := by decide +kernel
theorem d0_511 : decode (mC M0) 511 = .ok (.aload_n 0, 1) := by decide +kernel
theorem d0_512 : decode (mC M0) 512 = .ok (.iload 4, 2) := by decide +kernel
theorem d0_514 : decode (mC M0) 514 = .ok (.iconst 4, 1) := by decide +kernel
theorem d0_515 : decode (mC M0) 515 = .ok (.iadd, 1) := by decide +kernel
theorem d0_516 : decode (mC M0) 516 = .ok (.iaload, 1) := by decide +kernel
theorem d0_517 : decode (mC M0) 517 = .ok (.invokevirtual 54, 3) := by decide +kernel
theorem d0_520 : decode (mC M0) 520 = .ok (.aload_n 2, 1) := by decide +kernel
theorem d0_521 : decode (mC M0) 521 = .ok (.aload_n 0, 1) := by decide +kernel
theorem d0_522 : decode (mC M0) 522 = .ok (.iload 4, 2) := by decide +kernel
theorem d0_524 : decode (mC M0) 524 = .ok (.iconst 1, 1) := by decide +kernel
theorem d0_525 : decode (mC M0) 525 = .ok (.iadd, 1) := by decide +kernel
theorem d0_526 : decode (mC M0) 526 = .ok (.iaload, 1) := by decide +kernel
theorem d0_527 : decode (mC M0) 527 = .ok (.aload_n 0, 1) := by decide +kernel
theorem d0_528 : decode (mC M0) 528 = .ok (.iload 4, 2) := by decide +kernel
theorem d0_530 : decode (mC M0) 530 = .ok (.iconst 2, 1) := by decide +kernel
theorem d0_531 : decode (mC M0) 531 = .ok (.iadd, 1) := by decide +kernel
theorem d0_532 : decode (mC M0) 532 = .ok (.iaload, 1) := by decide +kernel
theorem d0_533 : decode (mC M0) 533 = .ok (.aload_n 0, 1) := by decide +kernel
theorem d0_534 : decode (mC M0) 534 = .ok (.iload 4, 2) := by decide +kernel
theorem d0_536 : decode (mC M0) 536 = .ok (.iconst 3, 1) := by decide +kernel
theorem d0_537 : decode (mC M0) 537 = .ok (.iadd, 1) := by decide +kernel
theorem d0_538 : decode (mC M0) 538 = .ok (.iaload, 1) := by decide +kernel
theorem d0_539 : decode (mC M0) 539 = .ok (.aload_n 0, 1) := by decide +kernel
theorem d0_540 : decode (mC M0) 540 = .ok (.iload 4, 2) := by decide +kernel
theorem d0_542 : decode (mC M0) 542 = .ok (.iconst 4, 1) := by decide +kernel
theorem d0_543 : decode (mC M0) 543 = .ok (.iadd, 1) := by decide +kernel
theorem d0_544 : decode (mC M0) 544 = .ok (.iaload, 1) := by decide +kernel
theorem d0_545 : decode (mC M0) 545 = .ok (.invokevirtual 58, 3) := by decide +kernel
theorem d0_548 : decode (mC M0) 548 = .ok (.if_icmp .eq 1690, 3) := by decide +kernel
theorem d0_551 : decode (mC M0) 551 = .ok (.iconst 0, 1) := by decide +kernel
theorem d0_552 : decode (mC M0) 552 = .ok (.ireturn, 1) := by decide +kernel
theorem d0_553 : decode (mC M0) 553 = .ok (.aload_n 1, 1) := by decide +kernel
theorem d0_554 : decode (mC M0) 554 = .ok (.aload_n 0, 1) := by decide +kernel
theorem d0_555 : decode (mC M0) 555 = .ok (.iload 4, 2) := by decide +kernel
theorem d0_557 : decode (mC M0) 557 = .ok (.iconst 1, 1) := by decide +kernel
theorem d0_558 : decode (mC M0) 558 = .ok (.iadd, 1) := by decide +kernel
theorem d0_559 : decode (mC M0) 559 = .ok (.iaload, 1) := by decide +kernel
theorem d0_560 : decode (mC M0) 560 = .ok (.aload_n 0, 1) := by decide +kernel
theorem d0_561 : decode (mC M0) 561 = .ok (.iload 4, 2) := by decide +kernel
theorem d0_563 : decode (mC M0) 563 = .ok (.iconst 2, 1) := by decide +kernel
theorem d0_564 : decode (mC M0) 564 = .ok (.iadd, 1) := by decide +kernel
theorem d0_565 : decode (mC M0) 565 = .ok (.iaload, 1) := by decide +kernel
theorem d0_566 : decode (mC M0) 566 = .ok (.invokevirtual 59, 3) := by decide +kernel
theorem d0_569 : decode (mC M0) 569 = .ok (.aload_n 2, 1) := by decide +kernel
theorem d0_570 : decode (mC M0) 570 = .ok (.aload_n 0, 1) := by decide +kernel
theorem d0_571 : decode (mC M0) 571 = .ok (.iload 4, 2) := by decide +kernel
theorem d0_573 : decode (mC M0) 573 = .ok (.iconst 1, 1) := by decide +kernel
theorem d0_574 : decode (mC M0) 574 = .ok (.iadd, 1) := by decide +kernel
theorem d0_575 : decode (mC M0) 575 = .ok (.iaload, 1) := by decide +kernel
theorem d0_576 : decode (mC M0) 576 = .ok (.aload_n 0, 1) := by decide +kernel
theorem d0_577 : decode (mC M0) 577 = .ok (.iload 4, 2) := by decide +kernel
theorem d0_579 : decode (mC M0) 579 = .ok (.iconst 2, 1) := by decide +kernel
theorem d0_580 : decode (mC M0) 580 = .ok (.iadd, 1) := by decide +kernel
theorem d0_581 : decode (mC M0) 581 = .ok (.iaload, 1) := by decide +kernel
theorem d0_582 : decode (mC M0) 582 = .ok (.invokevirtual 62, 3) := by decide +kernel
theorem d0_585 : decode (mC M0) 585 = .ok (.if_icmp .eq 1653, 3) := by decide +kernel
theorem d0_588 : decode (mC M0) 588 = .ok (.iconst 0, 1) := by decide +kernel
theorem d0_589 : decode (mC M0) 589 = .ok (.ireturn, 1) := by decide +kernel
theorem d0_590 : decode (mC M0) 590 = .ok (.aload_n 1, 1) := by decide +kernel
theorem d0_591 : decode (mC M0) 591 = .ok (.aload_n 0, 1) := by decide +kernel
theorem d0_592 : decode (mC M0) 592 = .ok (.iload 4, 2) := by decide +kernel
theorem d0_594 : decode (mC M0) 594 = .ok (.iconst 1, 1) := by decide +kernel
theorem d0_595 : decode (mC M0) 595 = .ok (.iadd, 1) := by decide +kernel
theorem d0_596 : decode (mC M0) 596 = .ok (.iaload, 1) := by decide +kernel
theorem d0_597 : decode (mC M0) 597 = .ok (.aload_n 0, 1) := by decide +kernel
theorem d0_598 : decode (mC M0) 598 = .ok (.iload 4, 2) := by decide +kernel
theorem d0_600 : decode (mC M0) 600 = .ok (.iconst 2, 1) := by decide +kernel
theorem d0_601 : decode (mC M0) 601 = .ok (.iadd, 1) := by decide +kernel
theorem d0_602 : decode (mC M0) 602 = .ok (.iaload, 1) := by decide +kernel
theorem d0_603 : decode (mC M0) 603 = .ok (.aload_n 0, 1) := by decide +kernel
theorem d0_604 : decode (mC M0) 604 = .ok (.iload 4, 2) := by decide +kernel
theorem d0_606 : decode (mC M0) 606 = .ok (.iconst 3, 1) := by decide +kernel
theorem d0_607 : decode (mC M0) 607 = .ok (.iadd, 1) := by decide +kernel
theorem d0_608 : decode (mC M0) 608 = .ok (.iaload, 1) := by decide +kernel
theorem d0_609 : decode (mC M0) 609 = .ok (.aload_n 0, 1) := by decide +kernel
theorem d0_610 : decode (mC M0) 610 = .ok (.iload 4, 2) := by decide +kernel
theorem d0_612 : decode (mC M0) 612 = .ok (.iconst 4, 1) := by decide +kernel
theorem d0_613 : decode (mC M0) 613 = .ok (.iadd, 1) := by decide +kernel
theorem d0_614 : decode (mC M0) 614 = .ok (.iaload, 1) := by decide +kernel
theorem d0_615 : decode (mC M0) 615 = .ok (.invokevirtual 63, 3) := by decide +kernel
theorem d0_618 : decode (mC M0) 618 = .ok (.aload_n 2, 1) := by decide +kernel
theorem d0_619 : decode (mC M0) 619 = .ok (.aload_n 0, 1) := by decide +kernel
theorem d0_620 : decode (mC M0) 620 = .ok (.iload 4, 2) := by decide +kernel
theorem d0_622 : decode (mC M0) 622 = .ok (.iconst 1, 1) := by decide +kernel
theorem d0_623 : decode (mC M0) 623 = .ok (.iadd, 1) := by decide +kernel
theorem d0_624 : decode (mC M0) 624 = .ok (.iaload, 1) := by decide +kernel
theorem d0_625 : decode (mC M0) 625 = .ok (.aload_n 0, 1) := by decide +kernel
theorem d0_626 : decode (mC M0) 626 = .ok (.iload 4, 2) := by decide +kernel
theorem d0_628 : decode (mC M0) 628 = .ok (.iconst 2, 1) := by decide +kernel
theorem d0_629 : decode (mC M0) 629 = .ok (.iadd, 1) := by decide +kernel
theorem d0_630 : decode (mC M0) 630 = .ok (.iaload, 1) := by decide +kernel
theorem d0_631 : decode (mC M0) 631 = .ok (.aload_n 0, 1) := by decide +kernel
theorem d0_632 : decode (mC M0) 632 = .ok (.iload 4, 2) := by decide +kernel
theorem d0_634 : decode (mC M0) 634 = .ok (.iconst 3, 1) := by decide +kernel
theorem d0_635 : decode (mC M0) 635 = .ok (.iadd, 1) := by decide +kernel
theorem d0_636 : decode (mC M0) 636 = .ok (.iaload, 1) := by decide +kernel
theorem d0_637 : decode (mC M0) 637 = .ok (.aload_n 0, 1) := by decide +kernel
theorem d0_638 : decode (mC M0) 638 = .ok (.iload 4, 2) := by decide +kernel
theorem d0_640 : decode (mC M0) 640 = .ok (.iconst 4, 1) := by decide +kernel
theorem d0_641 : decode (mC M0) 641 = .ok (.iadd, 1) := by decide +kernel
theorem d0_642 : decode (mC M0) 642 = .ok (.iaload, 1) := by decide +kernel
theorem d0_643 : decode (mC M0) 643 = .ok (.invokevirtual 66, 3) := by decide +kernel
theorem d0_646 : decode (mC M0) 646 = .ok (.if_icmp .eq 1592, 3) := by decide +kernel
theorem d0_649 : decode (mC M0) 649 = .ok (.iconst 0, 1) := by decide +kernel
theorem d0_650 : decode (mC M0) 650 = .ok (.ireturn, 1) := by decide +kernel
theorem d0_651 : decode (mC M0) 651 = .ok (.aload_n 1, 1) := by decide +kernel
theorem d0_652 : decode (mC M0) 652 = .ok (.aload_n 0, 1) := by decide +kernel
theorem d0_653 : decode (mC M0) 653 = .ok (.iload 4, 2) := by decide +kernel
theorem d0_655 : decode (mC M0) 655 = .ok (.iconst 1, 1) := by decide +kernel
theorem d0_656 : decode (mC M0) 656 = .ok (.iadd, 1) := by decide +kernel
theorem d0_657 : decode (mC M0) 657 = .ok (.iaload, 1) := by decide +kernel
theorem d0_658 : decode (mC M0) 658 = .ok (.aload_n 0, 1) := by decide +kernel
theorem d0_659 : decode (mC M0) 659 = .ok (.iload 4, 2) := by decide +kernel
theorem d0_661 : decode (mC M0) 661 = .ok (.iconst 2, 1) := by decide +kernel
theorem d0_662 : decode (mC M0) 662 = .ok (.iadd, 1) := by decide +kernel
theorem d0_663 : decode (mC M0) 663 = .ok (.iaload, 1) := by decide +kernel
theorem d0_664 : decode (mC M0) 664 = .ok (.aload_n 0, 1) := by decide +kernel
theorem d0_665 : decode (mC M0) 665 = .ok (.iload 4, 2) := by decide +kernel
theorem d0_667 : decode (mC M0) 667 = .ok (.iconst 3, 1) := by decide +kernel
theorem d0_668 : decode (mC M0) 668 = .ok (.iadd, 1) := by decide +kernel
theorem d0_669 : decode (mC M0) 669 = .ok (.iaload, 1) := by decide +kernel
theorem d0_670 : decode (mC M0) 670 = .ok (.aload_n 0, 1) := by decide +kernel
theorem d0_671 : decode (mC M0) 671 = .ok (.iload 4, 2) := by decide +kernel
theorem d0_673 : decode (mC M0) 673 = .ok (.iconst 4, 1) := by decide +kernel
theorem d0_674 : decode (mC M0) 674 = .ok (.iadd, 1) := by decide +kernel
theorem d0_675 : decode (mC M0) 675 = .ok (.iaload, 1) := by decide +kernel
theorem d0_676 : decode (mC M0) 676 = .ok (.invokevirtual 67, 3) := by decide +kernel
theorem d0_679 : decode (mC M0) 679 = .ok (.aload_n 2, 1) := by decide +kernel
theorem d0_680 : decode (mC M0) 680 = .ok (.aload_n 0, 1) := by decide +kernel
theorem d0_681 : decode (mC M0) 681 = .ok (.iload 4, 2) := by decide +kernel
theorem d0_683 : decode (mC M0) 683 = .ok (.iconst 1, 1) := by decide +kernel
theorem d0_684 : decode (mC M0) 684 = .ok (.iadd, 1) := by decide +kernel
theorem d0_685 : decode (mC M0) 685 = .ok (.iaload, 1) := by decide +kernel
theorem d0_686 : decode (mC M0) 686 = .ok (.aload_n 0, 1) := by decide +kernel
theorem d0_687 : decode (mC M0) 687 = .ok (.iload 4, 2) := by decide +kernel
theorem d0_689 : decode (mC M0) 689 = .ok (.iconst 2, 1) := by decide +kernel
theorem d0_690 : decode (mC M0) 690 = .ok (.iadd, 1) := by decide +kernel
theorem d0_691 : decode (mC M0) 691 = .ok (.iaload, 1) := by decide +kernel
theorem d0_692 : decode (mC M0) 692 = .ok (.aload_n 0, 1) := by decide +kernel
theorem d0_693 : decode (mC M0) 693 = .ok (.iload 4, 2) := by decide +kernel
theorem d0_695 : decode (mC M0) 695 = .ok (.iconst 3, 1) := by decide +kernel
theorem d0_696 : decode (mC M0) 696 = .ok (.iadd, 1) := by decide +kernel
theorem d0_697 : decode (mC M0) 697 = .ok (.iaload, 1) := by decide +kernel
theorem d0_698 : decode (mC M0) 698 = .ok (.aload_n 0, 1) := by decide +kernel
theorem d0_699 : decode (mC M0) 699 = .ok (.iload 4, 2) := by decide +kernel
theorem d0_701 : decode (mC M0) 701 = .ok (.iconst 4, 1) := by decide +kernel
theorem d0_702 : decode (mC M0) 702 = .ok (.iadd, 1) := by decide +kernel
theorem d0_703 : decode (mC M0) 703 = .ok (.iaload, 1) := by decide +kernel
theorem d0_704 : decode (mC M0) 704 = .ok (.invokevirtual 70, 3) := by decide +kernel
theorem d0_707 : decode (mC M0) 707 = .ok (.if_icmp .eq 1531, 3) := by decide +kernel
theorem d0_710 : decode (mC M0) 710 = .ok (.iconst 0, 1) := by decide +kernel
theorem d0_711 : decode (mC M0) 711 = .ok (.ireturn, 1) := by decide +kernel
theorem d0_712 : decode (mC M0) 712 = .ok (.aload_n 1, 1) := by decide +kernel
theorem d0_713 : decode (mC M0) 713 = .ok (.aload_n 0, 1) := by decide +kernel
theorem d0_714 : decode (mC M0) 714 = .ok (.iload 4, 2) := by decide +kernel
theorem d0_716 : decode (mC M0) 716 = .ok (.iconst 1, 1) := by decide +kernel
theorem d0_717 : decode (mC M0) 717 = .ok (.iadd, 1) := by decide +kernel
theorem d0_718 : decode (mC M0) 718 = .ok (.iaload, 1) := by decide +kernel
theorem d0_719 : decode (mC M0) 719 = .ok (.aload_n 0, 1) := by decide +kernel
theorem d0_720 : decode (mC M0) 720 = .ok (.iload 4, 2) := by decide +kernel
theorem d0_722 : decode (mC M0) 722 = .ok (.iconst 2, 1) := by decide +kernel
theorem d0_723 : decode (mC M0) 723 = .ok (.iadd, 1) := by decide +kernel
theorem d0_724 : decode (mC M0) 724 = .ok (.iaload, 1) := by decide +kernel
theorem d0_725 : decode (mC M0) 725 = .ok (.invokevirtual 71, 3) := by decide +kernel
theorem d0_728 : decode (mC M0) 728 = .ok (.aload_n 2, 1) := by decide +kernel
theorem d0_729 : decode (mC M0) 729 = .ok (.aload_n 0, 1) := by decide +kernel
theorem d0_730 : decode (mC M0) 730 = .ok (.iload 4, 2) := by decide +kernel
theorem d0_732 : decode (mC M0) 732 = .ok (.iconst 1, 1) := by decide +kernel
theorem d0_733 : decode (mC M0) 733 = .ok (.iadd, 1) := by decide +kernel
theorem d0_734 : decode (mC M0) 734 = .ok (.iaload, 1) := by decide +kernel
theorem d0_735 : decode (mC M0) 735 = .ok (.aload_n 0, 1) := by decide +kernel
theorem d0_736 : decode (mC M0) 736 = .ok (.iload 4, 2) := by decide +kernel
theorem d0_738 : decode (mC M0) 738 = .ok (.iconst 2, 1) := by decide +kernel
theorem d0_739 : decode (mC M0) 739 = .ok (.iadd, 1) := by decide +kernel
theorem d0_740 : decode (mC M0) 740 = .ok (.iaload, 1) := by decide +kernel
theorem d0_741 : decode (mC M0) 741 = .ok (.invokevirtual 74, 3) := by decide +kernel
theorem d0_744 : decode (mC M0) 744 = .ok (.if_icmp .eq 1494, 3) := by decide +kernel
theorem d0_747 : decode (mC M0) 747 = .ok (.iconst 0, 1) := by decide +kernel
theorem d0_748 : decode (mC M0) 748 = .ok (.ireturn, 1) := by decide +kernel
theorem d0_749 : decode (mC M0) 749 = .ok (.aload_n 1, 1) := by decide +kernel
theorem d0_750 : decode (mC M0) 750 = .ok (.aload_n 0, 1) := by decide +kernel
theorem d0_751 : decode (mC M0) 751 = .ok (.iload 4, 2) := by decide +kernel
theorem d0_753 : decode (mC M0) 753 = .ok (.iconst 1, 1) := by decide +kernel
theorem d0_754 : decode (mC M0) 754 = .ok (.iadd, 1) := by decide +kernel
theorem d0_755 : decode (mC M0) 755 = .ok (.iaload, 1) := by decide +kernel
theorem d0_756 : decode (mC M0) 756 = .ok (.aload_n 0, 1) := by decide +kernel
theorem d0_757 : decode (mC M0) 757 = .ok (.iload 4, 2) := by decide +kernel
theorem d0_759 : decode (mC M0) 759 = .ok (.iconst 2, 1) := by decide +kernel
theorem d0_760 : decode (mC M0) 760 = .ok (.iadd, 1) := by decide +kernel
theorem d0_761 : decode (mC M0) 761 = .ok (.iaload, 1) := by decide +kernel
theorem d0_762 : decode (mC M0) 762 = .ok (.aload_n 0, 1) := by decide +kernel
theorem d0_763 : decode (mC M0) 763 = .ok (.iload 4, 2) := by decide +kernel
theorem d0_765 : decode (mC M0) 765 = .ok (.iconst 3, 1) := by decide +kernel
theorem d0_766 : decode (mC M0) 766 = .ok (.iadd, 1) := by decide +kernel
theorem d0_767 : decode (mC M0) 767 = .ok (.iaload, 1) := by decide +kernel
theorem d0_768 : decode (mC M0) 768 = .ok (.aload_n 0, 1) := by decide +kernel
theorem d0_769 : decode (mC M0) 769 = .ok (.iload 4, 2) := by decide +kernel
theorem d0_771 : decode (mC M0) 771 = .ok (.iconst 4, 1) := by decide +kernel
theorem d0_772 : decode (mC M0) 772 = .ok (.iadd, 1) := by decide +kernel
theorem d0_773 : decode (mC M0) 773 = .ok (.iaload, 1) := by decide +kernel
theorem d0_774 : decode (mC M0) 774 = .ok (.invokevirtual 75, 3) := by decide +kernel
theorem d0_777 : decode (mC M0) 777 = .ok (.aload_n 2, 1) := by decide +kernel
theorem d0_778 : decode (mC M0) 778 = .ok (.aload_n 0, 1) := by decide +kernel
theorem d0_779 : decode (mC M0) 779 = .ok (.iload 4, 2) := by decide +kernel
theorem d0_781 : decode (mC M0) 781 = .ok (.iconst 1, 1) := by decide +kernel
theorem d0_782 : decode (mC M0) 782 = .ok (.iadd, 1) := by decide +kernel
theorem d0_783 : decode (mC M0) 783 = .ok (.iaload, 1) := by decide +kernel
theorem d0_784 : decode (mC M0) 784 = .ok (.aload_n 0, 1) := by decide +kernel
theorem d0_785 : decode (mC M0) 785 = .ok (.iload 4, 2) := by decide +kernel
theorem d0_787 : decode (mC M0) 787 = .ok (.iconst 2, 1) := by decide +kernel
theorem d0_788 : decode (mC M0) 788 = .ok (.iadd, 1) := by decide +kernel
theorem d0_789 : decode (mC M0) 789 = .ok (.iaload, 1) := by decide +kernel
theorem d0_790 : decode (mC M0) 790 = .ok (.aload_n 0, 1) := by decide +kernel
theorem d0_791 : decode (mC M0) 791 = .ok (.iload 4, 2) := by decide +kernel
theorem d0_793 : decode (mC M0) 793 = .ok (.iconst 3, 1) := by decide +kernel
theorem d0_794 : decode (mC M0) 794 = .ok (.iadd, 1) := by decide +kernel
theorem d0_795 : decode (mC M0) 795 = .ok (.iaload, 1) := by decide +kernel
theorem d0_796 : decode (mC M0) 796 = .ok (.aload_n 0, 1) := by decide +kernel
theorem d0_797 : decode (mC M0) 797 = .ok (.iload 4, 2) := by decide +kernel
theorem d0_799 : decode (mC M0) 799 = .ok (.iconst 4, 1) := by decide +kernel
theorem d0_800 : decode (mC M0) 800 = .ok (.iadd, 1) := by decide +kernel
theorem d0_801 : decode (mC M0) 801 = .ok (.iaload, 1) := by decide +kernel
theorem d0_802 : decode (mC M0) 802 = .ok (.invokevirtual 78, 3) := by decide +kernel
theorem d0_805 : decode (mC M0) 805 = .ok (.if_icmp .eq 1433, 3) := by decide +kernel
theorem d0_808 : decode (mC M0) 808 = .ok (.iconst 0, 1) := by decide +kernel
theorem d0_809 : decode (mC M0) 809 = .ok (.ireturn, 1) := by decide +kernel
theorem d0_810 : decode (mC M0) 810 = .ok (.aload_n 1, 1) := by decide +kernel
theorem d0_811 : decode (mC M0) 811 = .ok (.aload_n 0, 1) := by decide +kernel
theorem d0_812 : decode (mC M0) 812 = .ok (.iload 4, 2) := by decide +kernel
theorem d0_814 : decode (mC M0) 814 = .ok (.iconst 1, 1) := by decide +kernel
theorem d0_815 : decode (mC M0) 815 = .ok (.iadd, 1) := by decide +kernel
theorem d0_816 : decode (mC M0) 816 = .ok (.iaload, 1) := by decide +kernel
theorem d0_817 : decode (mC M0) 817 = .ok (.aload_n 0, 1) := by decide +kernel
theorem d0_818 : decode (mC M0) 818 = .ok (.iload 4, 2) := by decide +kernel
theorem d0_820 : decode (mC M0) 820 = .ok (.iconst 2, 1) := by decide +kernel
theorem d0_821 : decode (mC M0) 821 = .ok (.iadd, 1) := by decide +kernel
theorem d0_822 : decode (mC M0) 822 = .ok (.iaload, 1) := by decide +kernel
theorem d0_823 : decode (mC M0) 823 = .ok (.aload_n 0, 1) := by decide +kernel
theorem d0_824 : decode (mC M0) 824 = .ok (.iload 4, 2) := by decide +kernel
theorem d0_826 : decode (mC M0) 826 = .ok (.iconst 3, 1) := by decide +kernel
theorem d0_827 : decode (mC M0) 827 = .ok (.iadd, 1) := by decide +kernel
theorem d0_828 : decode (mC M0) 828 = .ok (.iaload, 1) := by decide +kernel
theorem d0_829 : decode (mC M0) 829 = .ok (.invokevirtual 79, 3) := by decide +kernel
theorem d0_832 : decode (mC M0) 832 = .ok (.aload_n 2, 1) := by decide +kernel
theorem d0_833 : decode (mC M0) 833 = .ok (.aload_n 0, 1) := by decide +kernel
theorem d0_834 : decode (mC M0) 834 = .ok (.iload 4, 2) := by decide +kernel
theorem d0_836 : decode (mC M0) 836 = .ok (.iconst 1, 1) := by decide +kernel
theorem d0_837 : decode (mC M0) 837 = .ok (.iadd, 1) := by decide +kernel
theorem d0_838 : decode (mC M0) 838 = .ok (.iaload, 1) := by decide +kernel
theorem d0_839 : decode (mC M0) 839 = .ok (.aload_n 0, 1) := by decide +kernel
theorem d0_840 : decode (mC M0) 840 = .ok (.iload 4, 2) := by decide +kernel
theorem d0_842 : decode (mC M0) 842 = .ok (.iconst 2, 1) := by decide +kernel
theorem d0_843 : decode (mC M0) 843 = .ok (.iadd, 1) := by decide +kernel
theorem d0_844 : decode (mC M0) 844 = .ok (.iaload, 1) := by decide +kernel
theorem d0_845 : decode (mC M0) 845 = .ok (.aload_n 0, 1) := by decide +kernel
theorem d0_846 : decode (mC M0) 846 = .ok (.iload 4, 2) := by decide +kernel
theorem d0_848 : decode (mC M0) 848 = .ok (.iconst 3, 1) := by decide +kernel
theorem d0_849 : decode (mC M0) 849 = .ok (.iadd, 1) := by decide +kernel
theorem d0_850 : decode (mC M0) 850 = .ok (.iaload, 1) := by decide +kernel
theorem d0_851 : decode (mC M0) 851 = .ok (.invokevirtual 83, 3) := by decide +kernel
theorem d0_854 : decode (mC M0) 854 = .ok (.if_icmp .eq 1384, 3) := by decide +kernel
theorem d0_857 : decode (mC M0) 857 = .ok (.iconst 0, 1) := by decide +kernel
theorem d0_858 : decode (mC M0) 858 = .ok (.ireturn, 1) := by decide +kernel
theorem d0_859 : decode (mC M0) 859 = .ok (.aload_n 1, 1) := by decide +kernel
theorem d0_860 : decode (mC M0) 860 = .ok (.aload_n 0, 1) := by decide +kernel
theorem d0_861 : decode (mC M0) 861 = .ok (.iload 4, 2) := by decide +kernel
theorem d0_863 : decode (mC M0) 863 = .ok (.iconst 1, 1) := by decide +kernel
theorem d0_864 : decode (mC M0) 864 = .ok (.iadd, 1) := by decide +kernel
theorem d0_865 : decode (mC M0) 865 = .ok (.iaload, 1) := by decide +kernel
theorem d0_866 : decode (mC M0) 866 = .ok (.aload_n 0, 1) := by decide +kernel
theorem d0_867 : decode (mC M0) 867 = .ok (.iload 4, 2) := by decide +kernel
theorem d0_869 : decode (mC M0) 869 = .ok (.iconst 2, 1) := by decide +kernel
theorem d0_870 : decode (mC M0) 870 = .ok (.iadd, 1) := by decide +kernel
theorem d0_871 : decode (mC M0) 871 = .ok (.iaload, 1) := by decide +kernel
theorem d0_872 : decode (mC M0) 872 = .ok (.aload_n 0, 1) := by decide +kernel
theorem d0_873 : decode (mC M0) 873 = .ok (.iload 4, 2) := by decide +kernel
theorem d0_875 : decode (mC M0) 875 = .ok (.iconst 3, 1) := by decide +kernel
theorem d0_876 : decode (mC M0) 876 = .ok (.iadd, 1) := by decide +kernel
theorem d0_877 : decode (mC M0) 877 = .ok (.iaload, 1) := by decide +kernel
theorem d0_878 : decode (mC M0) 878 = .ok (.aload_n 0, 1) := by decide +kernel
theorem d0_879 : decode (mC M0) 879 = .ok (.iload 4, 2) := by decide +kernel
theorem d0_881 : decode (mC M0) 881 = .ok (.iconst 4, 1) := by decide +kernel
theorem d0_882 : decode (mC M0) 882 = .ok (.iadd, 1) := by decide +kernel
theorem d0_883 : decode (mC M0) 883 = .ok (.iaload, 1) := by decide +kernel
theorem d0_884 : decode (mC M0) 884 = .ok (.invokevirtual 84, 3) := by decide +kernel
theorem d0_887 : decode (mC M0) 887 = .ok (.aload_n 2, 1) := by decide +kernel
theorem d0_888 : decode (mC M0) 888 = .ok (.aload_n 0, 1) := by decide +kernel
theorem d0_889 : decode (mC M0) 889 = .ok (.iload 4, 2) := by decide +kernel
theorem d0_891 : decode (mC M0) 891 = .ok (.iconst 1, 1) := by decide +kernel
theorem d0_892 : decode (mC M0) 892 = .ok (.iadd, 1) := by decide +kernel
theorem d0_893 : decode (mC M0) 893 = .ok (.iaload, 1) := by decide +kernel
theorem d0_894 : decode (mC M0) 894 = .ok (.aload_n 0, 1) := by decide +kernel
theorem d0_895 : decode (mC M0) 895 = .ok (.iload 4, 2) := by decide +kernel
theorem d0_897 : decode (mC M0) 897 = .ok (.iconst 2, 1) := by decide +kernel
theorem d0_898 : decode (mC M0) 898 = .ok (.iadd, 1) := by decide +kernel
theorem d0_899 : decode (mC M0) 899 = .ok (.iaload, 1) := by decide +kernel
theorem d0_900 : decode (mC M0) 900 = .ok (.aload_n 0, 1) := by decide +kernel
theorem d0_901 : decode (mC M0) 901 = .ok (.iload 4, 2) := by decide +kernel
theorem d0_903 : decode (mC M0) 903 = .ok (.iconst 3, 1) := by decide +kernel
theorem d0_904 : decode (mC M0) 904 = .ok (.iadd, 1) := by decide +kernel
theorem d0_905 : decode (mC M0) 905 = .ok (.iaload, 1) := by decide +kernel
theorem d0_906 : decode (mC M0) 906 = .ok (.aload_n 0, 1) := by decide +kernel
theorem d0_907 : decode (mC M0) 907 = .ok (.iload 4, 2) := by decide +kernel
theorem d0_909 : decode (mC M0) 909 = .ok (.iconst 4, 1) := by decide +kernel
theorem d0_910 : decode (mC M0) 910 = .ok (.iadd, 1) := by decide +kernel
theorem d0_911 : decode (mC M0) 911 = .ok (.iaload, 1) := by decide +kernel
theorem d0_912 : decode (mC M0) 912 = .ok (.invokevirtual 87, 3) := by decide +kernel
theorem d0_915 : decode (mC M0) 915 = .ok (.if_icmp .eq 1323, 3) := by decide +kernel
theorem d0_918 : decode (mC M0) 918 = .ok (.iconst 0, 1) := by decide +kernel
theorem d0_919 : decode (mC M0) 919 = .ok (.ireturn, 1) := by decide +kernel
theorem d0_920 : decode (mC M0) 920 = .ok (.aload_n 1, 1) := by decide +kernel
theorem d0_921 : decode (mC M0) 921 = .ok (.aload_n 0, 1) := by decide +kernel
theorem d0_922 : decode (mC M0) 922 = .ok (.iload 4, 2) := by decide +kernel
theorem d0_924 : decode (mC M0) 924 = .ok (.iconst 1, 1) := by decide +kernel
theorem d0_925 : decode (mC M0) 925 = .ok (.iadd, 1) := by decide +kernel
theorem d0_926 : decode (mC M0) 926 = .ok (.iaload, 1) := by decide +kernel
theorem d0_927 : decode (mC M0) 927 = .ok (.aload_n 0, 1) := by decide +kernel
theorem d0_928 : decode (mC M0) 928 = .ok (.iload 4, 2) := by decide +kernel
theorem d0_930 : decode (mC M0) 930 = .ok (.iconst 2, 1) := by decide +kernel
theorem d0_931 : decode (mC M0) 931 = .ok (.iadd, 1) := by decide +kernel
theorem d0_932 : decode (mC M0) 932 = .ok (.iaload, 1) := by decide +kernel
theorem d0_933 : decode (mC M0) 933 = .ok (.aload_n 0, 1) := by decide +kernel
theorem d0_934 : decode (mC M0) 934 = .ok (.iload 4, 2) := by decide +kernel
theorem d0_936 : decode (mC M0) 936 = .ok (.iconst 3, 1) := by decide +kernel
theorem d0_937 : decode (mC M0) 937 = .ok (.iadd, 1) := by decide +kernel
theorem d0_938 : decode (mC M0) 938 = .ok (.iaload, 1) := by decide +kernel
theorem d0_939 : decode (mC M0) 939 = .ok (.invokevirtual 88, 3) := by decide +kernel
theorem d0_942 : decode (mC M0) 942 = .ok (.aload_n 2, 1) := by decide +kernel
theorem d0_943 : decode (mC M0) 943 = .ok (.aload_n 0, 1) := by decide +kernel
theorem d0_944 : decode (mC M0) 944 = .ok (.iload 4, 2) := by decide +kernel
theorem d0_946 : decode (mC M0) 946 = .ok (.iconst 1, 1) := by decide +kernel
theorem d0_947 : decode (mC M0) 947 = .ok (.iadd, 1) := by decide +kernel
theorem d0_948 : decode (mC M0) 948 = .ok (.iaload, 1) := by decide +kernel
theorem d0_949 : decode (mC M0) 949 = .ok (.aload_n 0, 1) := by decide +kernel
theorem d0_950 : decode (mC M0) 950 = .ok (.iload 4, 2) := by decide +kernel
theorem d0_952 : decode (mC M0) 952 = .ok (.iconst 2, 1) := by decide +kernel
theorem d0_953 : decode (mC M0) 953 = .ok (.iadd, 1) := by decide +kernel
theorem d0_954 : decode (mC M0) 954 = .ok (.iaload, 1) := by decide +kernel
theorem d0_955 : decode (mC M0) 955 = .ok (.aload_n 0, 1) := by decide +kernel
theorem d0_956 : decode (mC M0) 956 = .ok (.iload 4, 2) := by decide +kernel
theorem d0_958 : decode (mC M0) 958 = .ok (.iconst 3, 1) := by decide +kernel
theorem d0_959 : decode (mC M0) 959 = .ok (.iadd, 1) := by decide +kernel
theorem d0_960 : decode (mC M0) 960 = .ok (.iaload, 1) := by decide +kernel
theorem d0_961 : decode (mC M0) 961 = .ok (.invokevirtual 91, 3) := by decide +kernel
theorem d0_964 : decode (mC M0) 964 = .ok (.if_icmp .eq 1274, 3) := by decide +kernel
theorem d0_967 : decode (mC M0) 967 = .ok (.iconst 0, 1) := by decide +kernel
theorem d0_968 : decode (mC M0) 968 = .ok (.ireturn, 1) := by decide +kernel
theorem d0_969 : decode (mC M0) 969 = .ok (.aload_n 1, 1) := by decide +kernel
theorem d0_970 : decode (mC M0) 970 = .ok (.aload_n 0, 1) := by decide +kernel
theorem d0_971 : decode (mC M0) 971 = .ok (.iload 4, 2) := by decide +kernel
theorem d0_973 : decode (mC M0) 973 = .ok (.iconst 1, 1) := by decide +kernel
theorem d0_974 : decode (mC M0) 974 = .ok (.iadd, 1) := by decide +kernel
theorem d0_975 : decode (mC M0) 975 = .ok (.iaload, 1) := by decide +kernel
theorem d0_976 : decode (mC M0) 976 = .ok (.aload_n 0, 1) := by decide +kernel
theorem d0_977 : decode (mC M0) 977 = .ok (.iload 4, 2) := by decide +kernel
theorem d0_979 : decode (mC M0) 979 = .ok (.iconst 2, 1) := by decide +kernel
theorem d0_980 : decode (mC M0) 980 = .ok (.iadd, 1) := by decide +kernel
theorem d0_981 : decode (mC M0) 981 = .ok (.iaload, 1) := by decide +kernel
theorem d0_982 : decode (mC M0) 982 = .ok (.aload_n 0, 1) := by decide +kernel
theorem d0_983 : decode (mC M0) 983 = .ok (.iload 4, 2) := by decide +kernel
theorem d0_985 : decode (mC M0) 985 = .ok (.iconst 3, 1) := by decide +kernel
theorem d0_986 : decode (mC M0) 986 = .ok (.iadd, 1) := by decide +kernel
theorem d0_987 : decode (mC M0) 987 = .ok (.iaload, 1) := by decide +kernel
theorem d0_988 : decode (mC M0) 988 = .ok (.invokevirtual 92, 3) := by decide +kernel
theorem d0_991 : decode (mC M0) 991 = .ok (.aload_n 2, 1) := by decide +kernel
theorem d0_992 : decode (mC M0) 992 = .ok (.aload_n 0, 1) := by decide +kernel
theorem d0_993 : decode (mC M0) 993 = .ok (.iload 4, 2) := by decide +kernel
theorem d0_995 : decode (mC M0) 995 = .ok (.iconst 1, 1) := by decide +kernel
theorem d0_996 : decode (mC M0) 996 = .ok (.iadd, 1) := by decide +kernel
theorem d0_997 : decode (mC M0) 997 = .ok (.iaload, 1) := by decide +kernel
theorem d0_998 : decode (mC M0) 998 = .ok (.aload_n 0, 1) := by decide +kernel
theorem d0_999 : decode (mC M0) 999 = .ok (.iload 4, 2) := by decide +kernel
theorem d0_1001 : decode (mC M0) 1001 = .ok (.iconst 2, 1) := by decide +kernel
theorem d0_1002 : decode (mC M0) 1002 = .ok (.iadd, 1) := by decide +kernel
theorem d0_1003 : decode (mC M0) 1003 = .ok (.iaload, 1) := by decide +kernel
theorem d0_1004 : decode (mC M0) 1004 = .ok (.aload_n 0, 1) := by decide +kernel
theorem d0_1005 : decode (mC M0) 1005 = .ok (.iload 4, 2) := by decide +kernel
theorem d0_1007 : decode (mC M0) 1007 = .ok (.iconst 3, 1) := by decide +kernel
theorem d0_1008 : decode (mC M0) 1008 = .ok (.iadd, 1) := by decide +kernel
theorem d0_1009 : decode (mC M0) 1009 = .ok (.iaload, 1) := by decide +kernel
theorem d0_1010 : decode (mC M0) 1010 = .ok (.invokevirtual 95, 3) := by decide +kernel
theorem d0_1013 : decode (mC M0) 1013 = .ok (.if_icmp .eq 1225, 3) := by decide +kernel
theorem d0_1016 : decode (mC M0) 1016 = .ok (.iconst 0, 1) := by decide +kernel
theorem d0_1017 : decode (mC M0) 1017 = .ok (.ireturn, 1) := by decide +kernel
theorem d0_1018 : decode (mC M0) 1018 = .ok (.aload_n 1, 1) := by decide +kernel
theorem d0_1019 : decode (mC M0) 1019 = .ok (.aload_n 0, 1) := by decide +kernel
theorem d0_1020 : decode (mC M0) 1020 = .ok (.iload 4, 2) := by decide +kernel
theorem d0_1022 : decode (mC M0) 1022 = .ok (.iconst 1, 1) := by decide +kernel
theorem d0_1023 : decode (mC M0) 1023 = .ok (.iadd, 1) := by decide +kernel
theorem d0_1024 : decode (mC M0) 1024 = .ok (.iaload, 1) := by decide +kernel
theorem d0_1025 : decode (mC M0) 1025 = .ok (.aload_n 0, 1) := by decide +kernel
theorem d0_1026 : decode (mC M0) 1026 = .ok (.iload 4, 2) := by decide +kernel
theorem d0_1028 : decode (mC M0) 1028 = .ok (.iconst 2, 1) := by decide +kernel
theorem d0_1029 : decode (mC M0) 1029 = .ok (.iadd, 1) := by decide +kernel
theorem d0_1030 : decode (mC M0) 1030 = .ok (.iaload, 1) := by decide +kernel
theorem d0_1031 : decode (mC M0) 1031 = .ok (.invokevirtual 96, 3) := by decide +kernel
theorem d0_1034 : decode (mC M0) 1034 = .ok (.aload_n 2, 1) := by decide +kernel
theorem d0_1035 : decode (mC M0) 1035 = .ok (.aload_n 0, 1) := by decide +kernel
theorem d0_1036 : decode (mC M0) 1036 = .ok (.iload 4, 2) := by decide +kernel
theorem d0_1038 : decode (mC M0) 1038 = .ok (.iconst 1, 1) := by decide +kernel
theorem d0_1039 : decode (mC M0) 1039 = .ok (.iadd, 1) := by decide +kernel
theorem d0_1040 : decode (mC M0) 1040 = .ok (.iaload, 1) := by decide +kernel
theorem d0_1041 : decode (mC M0) 1041 = .ok (.aload_n 0, 1) := by decide +kernel
theorem d0_1042 : decode (mC M0) 1042 = .ok (.iload 4, 2) := by decide +kernel
theorem d0_1044 : decode (mC M0) 1044 = .ok (.iconst 2, 1) := by decide +kernel
theorem d0_1045 : decode (mC M0) 1045 = .ok (.iadd, 1) := by decide +kernel
theorem d0_1046 : decode (mC M0) 1046 = .ok (.iaload, 1) := by decide +kernel
theorem d0_1047 : decode (mC M0) 1047 = .ok (.invokevirtual 99, 3) := by decide +kernel
theorem d0_1050 : decode (mC M0) 1050 = .ok (.if_icmp .eq 1188, 3) := by decide +kernel
theorem d0_1053 : decode (mC M0) 1053 = .ok (.iconst 0, 1) := by decide +kernel
theorem d0_1054 : decode (mC M0) 1054 = .ok (.ireturn, 1) := by decide +kernel
theorem d0_1055 : decode (mC M0) 1055 = .ok (.aload_n 1, 1) := by decide +kernel
theorem d0_1056 : decode (mC M0) 1056 = .ok (.aload_n 0, 1) := by decide +kernel
theorem d0_1057 : decode (mC M0) 1057 = .ok (.iload 4, 2) := by decide +kernel
theorem d0_1059 : decode (mC M0) 1059 = .ok (.iconst 1, 1) := by decide +kernel
theorem d0_1060 : decode (mC M0) 1060 = .ok (.iadd, 1) := by decide +kernel
theorem d0_1061 : decode (mC M0) 1061 = .ok (.iaload, 1) := by decide +kernel
theorem d0_1062 : decode (mC M0) 1062 = .ok (.aload_n 0, 1) := by decide +kernel
theorem d0_1063 : decode (mC M0) 1063 = .ok (.iload 4, 2) := by decide +kernel
theorem d0_1065 : decode (mC M0) 1065 = .ok (.iconst 2, 1) := by decide +kernel
theorem d0_1066 : decode (mC M0) 1066 = .ok (.iadd, 1) := by decide +kernel
theorem d0_1067 : decode (mC M0) 1067 = .ok (.iaload, 1) := by decide +kernel
theorem d0_1068 : decode (mC M0) 1068 = .ok (.invokevirtual 100, 3) := by decide +kernel
theorem d0_1071 : decode (mC M0) 1071 = .ok (.aload_n 2, 1) := by decide +kernel
theorem d0_1072 : decode (mC M0) 1072 = .ok (.aload_n 0, 1) := by decide +kernel
theorem d0_1073 : decode (mC M0) 1073 = .ok (.iload 4, 2) := by decide +kernel
theorem d0_1075 : decode (mC M0) 1075 = .ok (.iconst 1, 1) := by decide +kernel
theorem d0_1076 : decode (mC M0) 1076 = .ok (.iadd, 1) := by decide +kernel
theorem d0_1077 : decode (mC M0) 1077 = .ok (.iaload, 1) := by decide +kernel
theorem d0_1078 : decode (mC M0) 1078 = .ok (.aload_n 0, 1) := by decide +kernel
theorem d0_1079 : decode (mC M0) 1079 = .ok (.iload 4, 2) := by decide +kernel
theorem d0_1081 : decode (mC M0) 1081 = .ok (.iconst 2, 1) := by decide +kernel
theorem d0_1082 : decode (mC M0) 1082 = .ok (.iadd, 1) := by decide +kernel
theorem d0_1083 : decode (mC M0) 1083 = .ok (.iaload, 1) := by decide +kernel
theorem d0_1084 : decode (mC M0) 1084 = .ok (.invokevirtual 103, 3) := by decide +kernel
theorem d0_1087 : decode (mC M0) 1087 = .ok (.if_icmp .eq 1151, 3) := by decide +kernel
theorem d0_1090 : decode (mC M0) 1090 = .ok (.iconst 0, 1) := by decide +kernel
theorem d0_1091 : decode (mC M0) 1091 = .ok (.ireturn, 1) := by decide +kernel
theorem d0_1092 : decode (mC M0) 1092 = .ok (.aload_n 1, 1) := by decide +kernel
theorem d0_1093 : decode (mC M0) 1093 = .ok (.aload_n 0, 1) := by decide +kernel
theorem d0_1094 : decode (mC M0) 1094 = .ok (.iload 4, 2) := by decide +kernel
theorem d0_1096 : decode (mC M0) 1096 = .ok (.iconst 1, 1) := by decide +kernel
theorem d0_1097 : decode (mC M0) 1097 = .ok (.iadd, 1) := by decide +kernel
theorem d0_1098 : decode (mC M0) 1098 = .ok (.iaload, 1) := by decide +kernel
theorem d0_1099 : decode (mC M0) 1099 = .ok (.aload_n 0, 1) := by decide +kernel
theorem d0_1100 : decode (mC M0) 1100 = .ok (.iload 4, 2) := by decide +kernel
theorem d0_1102 : decode (mC M0) 1102 = .ok (.iconst 2, 1) := by decide +kernel
theorem d0_1103 : decode (mC M0) 1103 = .ok (.iadd, 1) := by decide +kernel
theorem d0_1104 : decode (mC M0) 1104 = .ok (.iaload, 1) := by decide +kernel
theorem d0_1105 : decode (mC M0) 1105 = .ok (.aload_n 0, 1) := by decide +kernel
theorem d0_1106 : decode (mC M0) 1106 = .ok (.iload 4, 2) := by decide +kernel
theorem d0_1108 : decode (mC M0) 1108 = .ok (.iconst 3, 1) := by decide +kernel
theorem d0_1109 : decode (mC M0) 1109 = .ok (.iadd, 1) := by decide +kernel
theorem d0_1110 : decode (mC M0) 1110 = .ok (.iaload, 1) := by decide +kernel
theorem d0_1111 : decode (mC M0) 1111 = .ok (.invokevirtual 104, 3) := by decide +kernel
theorem d0_1114 : decode (mC M0) 1114 = .ok (.aload_n 2, 1) := by decide +kernel
theorem d0_1115 : decode (mC M0) 1115 = .ok (.aload_n 0, 1) := by decide +kernel
theorem d0_1116 : decode (mC M0) 1116 = .ok (.iload 4, 2) := by decide +kernel
theorem d0_1118 : decode (mC M0) 1118 = .ok (.iconst 1, 1) := by decide +kernel
theorem d0_1119 : decode (mC M0) 1119 = .ok (.iadd, 1) := by decide +kernel
theorem d0_1120 : decode (mC M0) 1120 = .ok (.iaload, 1) := by decide +kernel
theorem d0_1121 : decode (mC M0) 1121 = .ok (.aload_n 0, 1) := by decide +kernel
theorem d0_1122 : decode (mC M0) 1122 = .ok (.iload 4, 2) := by decide +kernel
theorem d0_1124 : decode (mC M0) 1124 = .ok (.iconst 2, 1) := by decide +kernel
theorem d0_1125 : decode (mC M0) 1125 = .ok (.iadd, 1) := by decide +kernel
theorem d0_1126 : decode (mC M0) 1126 = .ok (.iaload, 1) := by decide +kernel
theorem d0_1127 : decode (mC M0) 1127 = .ok (.aload_n 0, 1) := by decide +kernel
theorem d0_1128 : decode (mC M0) 1128 = .ok (.iload 4, 2) := by decide +kernel
theorem d0_1130 : decode (mC M0) 1130 = .ok (.iconst 3, 1) := by decide +kernel
theorem d0_1131 : decode (mC M0) 1131 = .ok (.iadd, 1) := by decide +kernel
theorem d0_1132 : decode (mC M0) 1132 = .ok (.iaload, 1) := by decide +kernel
theorem d0_1133 : decode (mC M0) 1133 = .ok (.invokevirtual 107, 3) := by decide +kernel
theorem d0_1136 : decode (mC M0) 1136 = .ok (.if_icmp .eq 1102, 3) := by decide +kernel
theorem d0_1139 : decode (mC M0) 1139 = .ok (.iconst 0, 1) := by decide +kernel
theorem d0_1140 : decode (mC M0) 1140 = .ok (.ireturn, 1) := by decide +kernel
theorem d0_1141 : decode (mC M0) 1141 = .ok (.aload_n 1, 1) := by decide +kernel
theorem d0_1142 : decode (mC M0) 1142 = .ok (.aload_n 0, 1) := by decide +kernel
theorem d0_1143 : decode (mC M0) 1143 = .ok (.iload 4, 2) := by decide +kernel
theorem d0_1145 : decode (mC M0) 1145 = .ok (.iconst 1, 1) := by decide +kernel
theorem d0_1146 : decode (mC M0) 1146 = .ok (.iadd, 1) := by decide +kernel
theorem d0_1147 : decode (mC M0) 1147 = .ok (.iaload, 1) := by decide +kernel
theorem d0_1148 : decode (mC M0) 1148 = .ok (.aload_n 0, 1) := by decide +kernel
theorem d0_1149 : decode (mC M0) 1149 = .ok (.iload 4, 2) := by decide +kernel
theorem d0_1151 : decode (mC M0) 1151 = .ok (.iconst 2, 1) := by decide +kernel
theorem d0_1152 : decode (mC M0) 1152 = .ok (.iadd, 1) := by decide +kernel
theorem d0_1153 : decode (mC M0) 1153 = .ok (.iaload, 1) := by decide +kernel
theorem d0_1154 : decode (mC M0) 1154 = .ok (.aload_n 0, 1) := by decide +kernel
theorem d0_1155 : decode (mC M0) 1155 = .ok (.iload 4, 2) := by decide +kernel
theorem d0_1157 : decode (mC M0) 1157 = .ok (.iconst 3, 1) := by decide +kernel
theorem d0_1158 : decode (mC M0) 1158 = .ok (.iadd, 1) := by decide +kernel
theorem d0_1159 : decode (mC M0) 1159 = .ok (.iaload, 1) := by decide +kernel
theorem d0_1160 : decode (mC M0) 1160 = .ok (.aload_n 0, 1) := by decide +kernel
theorem d0_1161 : decode (mC M0) 1161 = .ok (.iload 4, 2) := by decide +kernel
theorem d0_1163 : decode (mC M0) 1163 = .ok (.iconst 4, 1) := by decide +kernel
theorem d0_1164 : decode (mC M0) 1164 = .ok (.iadd, 1) := by decide +kernel
theorem d0_1165 : decode (mC M0) 1165 = .ok (.iaload, 1) := by decide +kernel
theorem d0_1166 : decode (mC M0) 1166 = .ok (.invokevirtual 108, 3) := by decide +kernel
theorem d0_1169 : decode (mC M0) 1169 = .ok (.aload_n 2, 1) := by decide +kernel
theorem d0_1170 : decode (mC M0) 1170 = .ok (.aload_n 0, 1) := by decide +kernel
theorem d0_1171 : decode (mC M0) 1171 = .ok (.iload 4, 2) := by decide +kernel
theorem d0_1173 : decode (mC M0) 1173 = .ok (.iconst 1, 1) := by decide +kernel
theorem d0_1174 : decode (mC M0) 1174 = .ok (.iadd, 1) := by decide +kernel
theorem d0_1175 : decode (mC M0) 1175 = .ok (.iaload, 1) := by decide +kernel
theorem d0_1176 : decode (mC M0) 1176 = .ok (.aload_n 0, 1) := by decide +kernel
theorem d0_1177 : decode (mC M0) 1177 = .ok (.iload 4, 2) := by decide +kernel
theorem d0_1179 : decode (mC M0) 1179 = .ok (.iconst 2, 1) := by decide +kernel
theorem d0_1180 : decode (mC M0) 1180 = .ok (.iadd, 1) := by decide +kernel
theorem d0_1181 : decode (mC M0) 1181 = .ok (.iaload, 1) := by decide +kernel
theorem d0_1182 : decode (mC M0) 1182 = .ok (.aload_n 0, 1) := by decide +kernel
theorem d0_1183 : decode (mC M0) 1183 = .ok (.iload 4, 2) := by decide +kernel
theorem d0_1185 : decode (mC M0) 1185 = .ok (.iconst 3, 1) := by decide +kernel
theorem d0_1186 : decode (mC M0) 1186 = .ok (.iadd, 1) := by decide +kernel
theorem d0_1187 : decode (mC M0) 1187 = .ok (.iaload, 1) := by decide +kernel
theorem d0_1188 : decode (mC M0) 1188 = .ok (.aload_n 0, 1) := by decide +kernel
theorem d0_1189 : decode (mC M0) 1189 = .ok (.iload 4, 2) := by decide +kernel
theorem d0_1191 : decode (mC M0) 1191 = .ok (.iconst 4, 1) := by decide +kernel
theorem d0_1192 : decode (mC M0) 1192 = .ok (.iadd, 1) := by decide +kernel
theorem d0_1193 : decode (mC M0) 1193 = .ok (.iaload, 1) := by decide +kernel
theorem d0_1194 : decode (mC M0) 1194 = .ok (.invokevirtual 111, 3) := by decide +kernel
theorem d0_1197 : decode (mC M0) 1197 = .ok (.if_icmp .eq 1041, 3) := by decide +kernel
theorem d0_1200 : decode (mC M0) 1200 = .ok (.iconst 0, 1) := by decide +kernel
theorem d0_1201 : decode (mC M0) 1201 = .ok (.ireturn, 1) := by decide +kernel
theorem d0_1202 : decode (mC M0) 1202 = .ok (.aload_n 1, 1) := by decide +kernel
theorem d0_1203 : decode (mC M0) 1203 = .ok (.aload_n 0, 1) := by decide +kernel
theorem d0_1204 : decode (mC M0) 1204 = .ok (.iload 4, 2) := by decide +kernel
theorem d0_1206 : decode (mC M0) 1206 = .ok (.iconst 1, 1) := by decide +kernel
theorem d0_1207 : decode (mC M0) 1207 = .ok (.iadd, 1) := by decide +kernel
theorem d0_1208 : decode (mC M0) 1208 = .ok (.iaload, 1) := by decide +kernel
theorem d0_1209 : decode (mC M0) 1209 = .ok (.aload_n 0, 1) := by decide +kernel
theorem d0_1210 : decode (mC M0) 1210 = .ok (.iload 4, 2) := by decide +kernel
theorem d0_1212 : decode (mC M0) 1212 = .ok (.iconst 2, 1) := by decide +kernel
theorem d0_1213 : decode (mC M0) 1213 = .ok (.iadd, 1) := by decide +kernel
theorem d0_1214 : decode (mC M0) 1214 = .ok (.iaload, 1) := by decide +kernel
theorem d0_1215 : decode (mC M0) 1215 = .ok (.invokevirtual 112, 3) := by decide +kernel
theorem d0_1218 : decode (mC M0) 1218 = .ok (.aload_n 2, 1) := by decide +kernel
theorem d0_1219 : decode (mC M0) 1219 = .ok (.aload_n 0, 1) := by decide +kernel
theorem d0_1220 : decode (mC M0) 1220 = .ok (.iload 4, 2) := by decide +kernel
theorem d0_1222 : decode (mC M0) 1222 = .ok (.iconst 1, 1) := by decide +kernel
theorem d0_1223 : decode (mC M0) 1223 = .ok (.iadd, 1) := by decide +kernel
theorem d0_1224 : decode (mC M0) 1224 = .ok (.iaload, 1) := by decide +kernel
theorem d0_1225 : decode (mC M0) 1225 = .ok (.aload_n 0, 1) := by decide +kernel
theorem d0_1226 : decode (mC M0) 1226 = .ok (.iload 4, 2) := by decide +kernel
theorem d0_1228 : decode (mC M0) 1228 = .ok (.iconst 2, 1) := by decide +kernel
theorem d0_1229 : decode (mC M0) 1229 = .ok (.iadd, 1) := by decide +kernel
theorem d0_1230 : decode (mC M0) 1230 = .ok (.iaload, 1) := by decide +kernel
theorem d0_1231 : decode (mC M0) 1231 = .ok (.invokevirtual 115, 3) := by decide +kernel
theorem d0_1234 : decode (mC M0) 1234 = .ok (.if_icmp .eq 1004, 3) := by decide +kernel
theorem d0_1237 : decode (mC M0) 1237 = .ok (.iconst 0, 1) := by decide +kernel
theorem d0_1238 : decode (mC M0) 1238 = .ok (.ireturn, 1) := by decide +kernel
theorem d0_1239 : decode (mC M0) 1239 = .ok (.aload_n 1, 1) := by decide +kernel
theorem d0_1240 : decode (mC M0) 1240 = .ok (.aload_n 0, 1) := by decide +kernel
theorem d0_1241 : decode (mC M0) 1241 = .ok (.iload 4, 2) := by decide +kernel
theorem d0_1243 : decode (mC M0) 1243 = .ok (.iconst 1, 1) := by decide +kernel
theorem d0_1244 : decode (mC M0) 1244 = .ok (.iadd, 1) := by decide +kernel
theorem d0_1245 : decode (mC M0) 1245 = .ok (.iaload, 1) := by decide +kernel
theorem d0_1246 : decode (mC M0) 1246 = .ok (.aload_n 0, 1) := by decide +kernel
theorem d0_1247 : decode (mC M0) 1247 = .ok (.iload 4, 2) := by decide +kernel
theorem d0_1249 : decode (mC M0) 1249 = .ok (.iconst 2, 1) := by decide +kernel
theorem d0_1250 : decode (mC M0) 1250 = .ok (.iadd, 1) := by decide +kernel
theorem d0_1251 : decode (mC M0) 1251 = .ok (.iaload, 1) := by decide +kernel
theorem d0_1252 : decode (mC M0) 1252 = .ok (.aload_n 0, 1) := by decide +kernel
theorem d0_1253 : decode (mC M0) 1253 = .ok (.iload 4, 2) := by decide +kernel
theorem d0_1255 : decode (mC M0) 1255 = .ok (.iconst 3, 1) := by decide +kernel
theorem d0_1256 : decode (mC M0) 1256 = .ok (.iadd, 1) := by decide +kernel
theorem d0_1257 : decode (mC M0) 1257 = .ok (.iaload, 1) := by decide +kernel
theorem d0_1258 : decode (mC M0) 1258 = .ok (.aload_n 0, 1) := by decide +kernel
theorem d0_1259 : decode (mC M0) 1259 = .ok (.iload 4, 2) := by decide +kernel
theorem d0_1261 : decode (mC M0) 1261 = .ok (.iconst 4, 1) := by decide +kernel
theorem d0_1262 : decode (mC M0) 1262 = .ok (.iadd, 1) := by decide +kernel
theorem d0_1263 : decode (mC M0) 1263 = .ok (.iaload, 1) := by decide +kernel
theorem d0_1264 : decode (mC M0) 1264 = .ok (.invokevirtual 116, 3) := by decide +kernel
theorem d0_1267 : decode (mC M0) 1267 = .ok (.aload_n 2, 1) := by decide +kernel
theorem d0_1268 : decode (mC M0) 1268 = .ok (.aload_n 0, 1) := by decide +kernel
theorem d0_1269 : decode (mC M0) 1269 = .ok (.iload 4, 2) := by decide +kernel
theorem d0_1271 : decode (mC M0) 1271 = .ok (.iconst 1, 1) := by decide +kernel
theorem d0_1272 : decode (mC M0) 1272 = .ok (.iadd, 1) := by decide +kernel
theorem d0_1273 : decode (mC M0) 1273 = .ok (.iaload, 1) := by decide +kernel
theorem d0_1274 : decode (mC M0) 1274 = .ok (.aload_n 0, 1) := by decide +kernel
theorem d0_1275 : decode (mC M0) 1275 = .ok (.iload 4, 2) := by decide +kernel
theorem d0_1277 : decode (mC M0) 1277 = .ok (.iconst 2, 1) := by decide +kernel
theorem d0_1278 : decode (mC M0) 1278 = .ok (.iadd, 1) := by decide +kernel
theorem d0_1279 : decode (mC M0) 1279 = .ok (.iaload, 1) := by decide +kernel
theorem d0_1280 : decode (mC M0) 1280 = .ok (.aload_n 0, 1) := by decide +kernel
theorem d0_1281 : decode (mC M0) 1281 = .ok (.iload 4, 2) := by decide +kernel
theorem d0_1283 : decode (mC M0) 1283 = .ok (.iconst 3, 1) := by decide +kernel
theorem d0_1284 : decode (mC M0) 1284 = .ok (.iadd, 1) := by decide +kernel
theorem d0_1285 : decode (mC M0) 1285 = .ok (.iaload, 1) := by decide +kernel
theorem d0_1286 : decode (mC M0) 1286 = .ok (.aload_n 0, 1) := by decide +kernel
theorem d0_1287 : decode (mC M0) 1287 = .ok (.iload 4, 2) := by decide +kernel
theorem d0_1289 : decode (mC M0) 1289 = .ok (.iconst 4, 1) := by decide +kernel
theorem d0_1290 : decode (mC M0) 1290 = .ok (.iadd, 1) := by decide +kernel
theorem d0_1291 : decode (mC M0) 1291 = .ok (.iaload, 1) := by decide +kernel
theorem d0_1292 : decode (mC M0) 1292 = .ok (.invokevirtual 119, 3) := by decide +kernel
theorem d0_1295 : decode (mC M0) 1295 = .ok (.if_icmp .eq 943, 3) := by decide +kernel
theorem d0_1298 : decode (mC M0) 1298 = .ok (.iconst 0, 1) := by decide +kernel
theorem d0_1299 : decode (mC M0) 1299 = .ok (.ireturn, 1) := by decide +kernel
theorem d0_1300 : decode (mC M0) 1300 = .ok (.aload_n 1, 1) := by decide +kernel
theorem d0_1301 : decode (mC M0) 1301 = .ok (.aload_n 0, 1) := by decide +kernel
theorem d0_1302 : decode (mC M0) 1302 = .ok (.iload 4, 2) := by decide +kernel
theorem d0_1304 : decode (mC M0) 1304 = .ok (.iconst 1, 1) := by decide +kernel
theorem d0_1305 : decode (mC M0) 1305 = .ok (.iadd, 1) := by decide +kernel
theorem d0_1306 : decode (mC M0) 1306 = .ok (.iaload, 1) := by decide +kernel
theorem d0_1307 : decode (mC M0) 1307 = .ok (.aload_n 0, 1) := by decide +kernel
theorem d0_1308 : decode (mC M0) 1308 = .ok (.iload 4, 2) := by decide +kernel
theorem d0_1310 : decode (mC M0) 1310 = .ok (.iconst 2, 1) := by decide +kernel
theorem d0_1311 : decode (mC M0) 1311 = .ok (.iadd, 1) := by decide +kernel
theorem d0_1312 : decode (mC M0) 1312 = .ok (.iaload, 1) := by decide +kernel
theorem d0_1313 : decode (mC M0) 1313 = .ok (.invokevirtual 120, 3) := by decide +kernel
theorem d0_1316 : decode (mC M0) 1316 = .ok (.aload_n 2, 1) := by decide +kernel
theorem d0_1317 : decode (mC M0) 1317 = .ok (.aload_n 0, 1) := by decide +kernel
theorem d0_1318 : decode (mC M0) 1318 = .ok (.iload 4, 2) := by decide +kernel
theorem d0_1320 : decode (mC M0) 1320 = .ok (.iconst 1, 1) := by decide +kernel
theorem d0_1321 : decode (mC M0) 1321 = .ok (.iadd, 1) := by decide +kernel
theorem d0_1322 : decode (mC M0) 1322 = .ok (.iaload, 1) := by decide +kernel
theorem d0_1323 : decode (mC M0) 1323 = .ok (.aload_n 0, 1) := by decide +kernel
theorem d0_1324 : decode (mC M0) 1324 = .ok (.iload 4, 2) := by decide +kernel
theorem d0_1326 : decode (mC M0) 1326 = .ok (.iconst 2, 1) := by decide +kernel
theorem d0_1327 : decode (mC M0) 1327 = .ok (.iadd, 1) := by decide +kernel
theorem d0_1328 : decode (mC M0) 1328 = .ok (.iaload, 1) := by decide +kernel
theorem d0_1329 : decode (mC M0) 1329 = .ok (.invokevirtual 123, 3) := by decide +kernel
theorem d0_1332 : decode (mC M0) 1332 = .ok (.if_icmp .eq 906, 3) := by decide +kernel
theorem d0_1335 : decode (mC M0) 1335 = .ok (.iconst 0, 1) := by decide +kernel
theorem d0_1336 : decode (mC M0) 1336 = .ok (.ireturn, 1) := by decide +kernel
theorem d0_1337 : decode (mC M0) 1337 = .ok (.aload_n 1, 1) := by decide +kernel
theorem d0_1338 : decode (mC M0) 1338 = .ok (.aload_n 0, 1) := by decide +kernel
theorem d0_1339 : decode (mC M0) 1339 = .ok (.iload 4, 2) := by decide +kernel
theorem d0_1341 : decode (mC M0) 1341 = .ok (.iconst 1, 1) := by decide +kernel
theorem d0_1342 : decode (mC M0) 1342 = .ok (.iadd, 1) := by decide +kernel
theorem d0_1343 : decode (mC M0) 1343 = .ok (.iaload, 1) := by decide +kernel
theorem d0_1344 : decode (mC M0) 1344 = .ok (.aload_n 0, 1) := by decide +kernel
theorem d0_1345 : decode (mC M0) 1345 = .ok (.iload 4, 2) := by decide +kernel
theorem d0_1347 : decode (mC M0) 1347 = .ok (.iconst 2, 1) := by decide +kernel
theorem d0_1348 : decode (mC M0) 1348 = .ok (.iadd, 1) := by decide +kernel
theorem d0_1349 : decode (mC M0) 1349 = .ok (.iaload, 1) := by decide +kernel
theorem d0_1350 : decode (mC M0) 1350 = .ok (.aload_n 0, 1) := by decide +kernel
theorem d0_1351 : decode (mC M0) 1351 = .ok (.iload 4, 2) := by decide +kernel
theorem d0_1353 : decode (mC M0) 1353 = .ok (.iconst 3, 1) := by decide +kernel
theorem d0_1354 : decode (mC M0) 1354 = .ok (.iadd, 1) := by decide +kernel
theorem d0_1355 : decode (mC M0) 1355 = .ok (.iaload, 1) := by decide +kernel
theorem d0_1356 : decode (mC M0) 1356 = .ok (.aload_n 0, 1) := by decide +kernel
theorem d0_1357 : decode (mC M0) 1357 = .ok (.iload 4, 2) := by decide +kernel
theorem d0_1359 : decode (mC M0) 1359 = .ok (.iconst 4, 1) := by decide +kernel
theorem d0_1360 : decode (mC M0) 1360 = .ok (.iadd, 1) := by decide +kernel
theorem d0_1361 : decode (mC M0) 1361 = .ok (.iaload, 1) := by decide +kernel
theorem d0_1362 : decode (mC M0) 1362 = .ok (.aload_n 0, 1) := by decide +kernel
theorem d0_1363 : decode (mC M0) 1363 = .ok (.iload 4, 2) := by decide +kernel
theorem d0_1365 : decode (mC M0) 1365 = .ok (.iconst 5, 1) := by decide +kernel
theorem d0_1366 : decode (mC M0) 1366 = .ok (.iadd, 1) := by decide +kernel
theorem d0_1367 : decode (mC M0) 1367 = .ok (.iaload, 1) := by decide +kernel
theorem d0_1368 : decode (mC M0) 1368 = .ok (.aload_n 0, 1) := by decide +kernel
theorem d0_1369 : decode (mC M0) 1369 = .ok (.iload 4, 2) := by decide +kernel
theorem d0_1371 : decode (mC M0) 1371 = .ok (.bipush 6, 2) := by decide +kernel
theorem d0_1373 : decode (mC M0) 1373 = .ok (.iadd, 1) := by decide +kernel
theorem d0_1374 : decode (mC M0) 1374 = .ok (.iaload, 1) := by decide +kernel
theorem d0_1375 : decode (mC M0) 1375 = .ok (.invokevirtual 124, 3) := by decide +kernel
theorem d0_1378 : decode (mC M0) 1378 = .ok (.aload_n 2, 1) := by decide +kernel
theorem d0_1379 : decode (mC M0) 1379 = .ok (.aload_n 0, 1) := by decide +kernel
theorem d0_1380 : decode (mC M0) 1380 = .ok (.iload 4, 2) := by decide +kernel
theorem d0_1382 : decode (mC M0) 1382 = .ok (.iconst 1, 1) := by decide +kernel
theorem d0_1383 : decode (mC M0) 1383 = .ok (.iadd, 1) := by decide +kernel
theorem d0_1384 : decode (mC M0) 1384 = .ok (.iaload, 1) := by decide +kernel
theorem d0_1385 : decode (mC M0) 1385 = .ok (.aload_n 0, 1) := by decide +kernel
theorem d0_1386 : decode (mC M0) 1386 = .ok (.iload 4, 2) := by decide +kernel
theorem d0_1388 : decode (mC M0) 1388 = .ok (.iconst 2, 1) := by decide +kernel
theorem d0_1389 : decode (mC M0) 1389 = .ok (.iadd, 1) := by decide +kernel
theorem d0_1390 : decode (mC M0) 1390 = .ok (.iaload, 1) := by decide +kernel
theorem d0_1391 : decode (mC M0) 1391 = .ok (.aload_n 0, 1) := by decide +kernel
theorem d0_1392 : decode (mC M0) 1392 = .ok (.iload 4, 2) := by decide +kernel
theorem d0_1394 : decode (mC M0) 1394 = .ok (.iconst 3, 1) := by decide +kernel
theorem d0_1395 : decode (mC M0) 1395 = .ok (.iadd, 1) := by decide +kernel
theorem d0_1396 : decode (mC M0) 1396 = .ok (.iaload, 1) := by decide +kernel
theorem d0_1397 : decode (mC M0) 1397 = .ok (.aload_n 0, 1) := by decide +kernel
theorem d0_1398 : decode (mC M0) 1398 = .ok (.iload 4, 2) := by decide +kernel
theorem d0_1400 : decode (mC M0) 1400 = .ok (.iconst 4, 1) := by decide +kernel
theorem d0_1401 : decode (mC M0) 1401 = .ok (.iadd, 1) := by decide +kernel
theorem d0_1402 : decode (mC M0) 1402 = .ok (.iaload, 1) := by decide +kernel
theorem d0_1403 : decode (mC M0) 1403 = .ok (.aload_n 0, 1) := by decide +kernel
theorem d0_1404 : decode (mC M0) 1404 = .ok (.iload 4, 2) := by decide +kernel
theorem d0_1406 : decode (mC M0) 1406 = .ok (.iconst 5, 1) := by decide +kernel
theorem d0_1407 : decode (mC M0) 1407 = .ok (.iadd, 1) := by decide +kernel
theorem d0_1408 : decode (mC M0) 1408 = .ok (.iaload, 1) := by decide +kernel
theorem d0_1409 : decode (mC M0) 1409 = .ok (.aload_n 0, 1) := by decide +kernel
theorem d0_1410 : decode (mC M0) 1410 = .ok (.iload 4, 2) := by decide +kernel
theorem d0_1412 : decode (mC M0) 1412 = .ok (.bipush 6, 2) := by decide +kernel
theorem d0_1414 : decode (mC M0) 1414 = .ok (.iadd, 1) := by decide +kernel
theorem d0_1415 : decode (mC M0) 1415 = .ok (.iaload, 1) := by decide +kernel
theorem d0_1416 : decode (mC M0) 1416 = .ok (.invokevirtual 128, 3) := by decide +kernel
theorem d0_1419 : decode (mC M0) 1419 = .ok (.if_icmp .eq 819, 3) := by decide +kernel
theorem d0_1422 : decode (mC M0) 1422 = .ok (.iconst 0, 1) := by decide +kernel
theorem d0_1423 : decode (mC M0) 1423 = .ok (.ireturn, 1) := by decide +kernel
theorem d0_1424 : decode (mC M0) 1424 = .ok (.aload_n 1, 1) := by decide +kernel
theorem d0_1425 : decode (mC M0) 1425 = .ok (.aload_n 0, 1) := by decide +kernel
theorem d0_1426 : decode (mC M0) 1426 = .ok (.iload 4, 2) := by decide +kernel
theorem d0_1428 : decode (mC M0) 1428 = .ok (.iconst 1, 1) := by decide +kernel
theorem d0_1429 : decode (mC M0) 1429 = .ok (.iadd, 1) := by decide +kernel
theorem d0_1430 : decode (mC M0) 1430 = .ok (.iaload, 1) := by decide +kernel
theorem d0_1431 : decode (mC M0) 1431 = .ok (.aload_n 0, 1) := by decide +kernel
theorem d0_1432 : decode (mC M0) 1432 = .ok (.iload 4, 2) := by decide +kernel
theorem d0_1434 : decode (mC M0) 1434 = .ok (.iconst 2, 1) := by decide +kernel
theorem d0_1435 : decode (mC M0) 1435 = .ok (.iadd, 1) := by decide +kernel
theorem d0_1436 : decode (mC M0) 1436 = .ok (.iaload, 1) := by decide +kernel
theorem d0_1437 : decode (mC M0) 1437 = .ok (.aload_n 0, 1) := by decide +kernel
theorem d0_1438 : decode (mC M0) 1438 = .ok (.iload 4, 2) := by decide +kernel
theorem d0_1440 : decode (mC M0) 1440 = .ok (.iconst 3, 1) := by decide +kernel
theorem d0_1441 : decode (mC M0) 1441 = .ok (.iadd, 1) := by decide +kernel
theorem d0_1442 : decode (mC M0) 1442 = .ok (.iaload, 1) := by decide +kernel
theorem d0_1443 : decode (mC M0) 1443 = .ok (.aload_n 0, 1) := by decide +kernel
theorem d0_1444 : decode (mC M0) 1444 = .ok (.iload 4, 2) := by decide +kernel
theorem d0_1446 : decode (mC M0) 1446 = .ok (.iconst 4, 1) := by decide +kernel
theorem d0_1447 : decode (mC M0) 1447 = .ok (.iadd, 1) := by decide +kernel
theorem d0_1448 : decode (mC M0) 1448 = .ok (.iaload, 1) := by decide +kernel
theorem d0_1449 : decode (mC M0) 1449 = .ok (.aload_n 0, 1) := by decide +kernel
theorem d0_1450 : decode (mC M0) 1450 = .ok (.iload 4, 2) := by decide +kernel
theorem d0_1452 : decode (mC M0) 1452 = .ok (.iconst 5, 1) := by decide +kernel
theorem d0_1453 : decode (mC M0) 1453 = .ok (.iadd, 1) := by decide +kernel
theorem d0_1454 : decode (mC M0) 1454 = .ok (.iaload, 1) := by decide +kernel
theorem d0_1455 : decode (mC M0) 1455 = .ok (.aload_n 0, 1) := by decide +kernel
theorem d0_1456 : decode (mC M0) 1456 = .ok (.iload 4, 2) := by decide +kernel
theorem d0_1458 : decode (mC M0) 1458 = .ok (.bipush 6, 2) := by decide +kernel
theorem d0_1460 : decode (mC M0) 1460 = .ok (.iadd, 1) := by decide +kernel
theorem d0_1461 : decode (mC M0) 1461 = .ok (.iaload, 1) := by decide +kernel
theorem d0_1462 : decode (mC M0) 1462 = .ok (.aload_n 0, 1) := by decide +kernel
theorem d0_1463 : decode (mC M0) 1463 = .ok (.iload 4, 2) := by decide +kernel
theorem d0_1465 : decode (mC M0) 1465 = .ok (.bipush 7, 2) := by decide +kernel
theorem d0_1467 : decode (mC M0) 1467 = .ok (.iadd, 1) := by decide +kernel
theorem d0_1468 : decode (mC M0) 1468 = .ok (.iaload, 1) := by decide +kernel
theorem d0_1469 : decode (mC M0) 1469 = .ok (.invokevirtual 129, 3) := by decide +kernel
theorem d0_1472 : decode (mC M0) 1472 = .ok (.aload_n 2, 1) := by decide +kernel
theorem d0_1473 : decode (mC M0) 1473 = .ok (.aload_n 0, 1) := by decide +kernel
theorem d0_1474 : decode (mC M0) 1474 = .ok (.iload 4, 2) := by decide +kernel
theorem d0_1476 : decode (mC M0) 1476 = .ok (.iconst 1, 1) := by decide +kernel
theorem d0_1477 : decode (mC M0) 1477 = .ok (.iadd, 1) := by decide +kernel
theorem d0_1478 : decode (mC M0) 1478 = .ok (.iaload, 1) := by decide +kernel
theorem d0_1479 : decode (mC M0) 1479 = .ok (.aload_n 0, 1) := by decide +kernel
theorem d0_1480 : decode (mC M0) 1480 = .ok (.iload 4, 2) := by decide +kernel
theorem d0_1482 : decode (mC M0) 1482 = .ok (.iconst 2, 1) := by decide +kernel
theorem d0_1483 : decode (mC M0) 1483 = .ok (.iadd, 1) := by decide +kernel
theorem d0_1484 : decode (mC M0) 1484 = .ok (.iaload, 1) := by decide +kernel
theorem d0_1485 : decode (mC M0) 1485 = .ok (.aload_n 0, 1) := by decide +kernel
theorem d0_1486 : decode (mC M0) 1486 = .ok (.iload 4, 2) := by decide +kernel
theorem d0_1488 : decode (mC M0) 1488 = .ok (.iconst 3, 1) := by decide +kernel
theorem d0_1489 : decode (mC M0) 1489 = .ok (.iadd, 1) := by decide +kernel
theorem d0_1490 : decode (mC M0) 1490 = .ok (.iaload, 1) := by decide +kernel
theorem d0_1491 : decode (mC M0) 1491 = .ok (.aload_n 0, 1) := by decide +kernel
theorem d0_1492 : decode (mC M0) 1492 = .ok (.iload 4, 2) := by decide +kernel
theorem d0_1494 : decode (mC M0) 1494 = .ok (.iconst 4, 1) := by decide +kernel
theorem d0_1495 : decode (mC M0) 1495 = .ok (.iadd, 1) := by decide +kernel
theorem d0_1496 : decode (mC M0) 1496 = .ok (.iaload, 1) := by decide +kernel
theorem d0_1497 : decode (mC M0) 1497 = .ok (.aload_n 0, 1) := by decide +kernel
theorem d0_1498 : decode (mC M0) 1498 = .ok (.iload 4, 2) := by decide +kernel
theorem d0_1500 : decode (mC M0) 1500 = .ok (.iconst 5, 1) := by decide +kernel
theorem d0_1501 : decode (mC M0) 1501 = .ok (.iadd, 1) := by decide +kernel
theorem d0_1502 : decode (mC M0) 1502 = .ok (.iaload, 1) := by decide +kernel
theorem d0_1503 : decode (mC M0) 1503 = .ok (.aload_n 0, 1) := by decide +kernel
theorem d0_1504 : decode (mC M0) 1504 = .ok (.iload 4, 2) := by decide +kernel
theorem d0_1506 : decode (mC M0) 1506 = .ok (.bipush 6, 2) := by decide +kernel
theorem d0_1508 : decode (mC M0) 1508 = .ok (.iadd, 1) := by decide +kernel
theorem d0_1509 : decode (mC M0) 1509 = .ok (.iaload, 1) := by decide +kernel
theorem d0_1510 : decode (mC M0) 1510 = .ok (.aload_n 0, 1) := by decide +kernel
theorem d0_1511 : decode (mC M0) 1511 = .ok (.iload 4, 2) := by decide +kernel
theorem d0_1513 : decode (mC M0) 1513 = .ok (.bipush 7, 2) := by decide +kernel
theorem d0_1515 : decode (mC M0) 1515 = .ok (.iadd, 1) := by decide +kernel
theorem d0_1516 : decode (mC M0) 1516 = .ok (.iaload, 1) := by decide +kernel
theorem d0_1517 : decode (mC M0) 1517 = .ok (.invokevirtual 133, 3) := by decide +kernel
theorem d0_1520 : decode (mC M0) 1520 = .ok (.if_icmp .eq 718, 3) := by decide +kernel
theorem d0_1523 : decode (mC M0) 1523 = .ok (.iconst 0, 1) := by decide +kernel
theorem d0_1524 : decode (mC M0) 1524 = .ok (.ireturn, 1) := by decide +kernel
theorem d0_1525 : decode (mC M0) 1525 = .ok (.aload_n 1, 1) := by decide +kernel
theorem d0_1526 : decode (mC M0) 1526 = .ok (.aload_n 0, 1) := by decide +kernel
theorem d0_1527 : decode (mC M0) 1527 = .ok (.iload 4, 2) := by decide +kernel
theorem d0_1529 : decode (mC M0) 1529 = .ok (.iconst 1, 1) := by decide +kernel
theorem d0_1530 : decode (mC M0) 1530 = .ok (.iadd, 1) := by decide +kernel
theorem d0_1531 : decode (mC M0) 1531 = .ok (.iaload, 1) := by decide +kernel
theorem d0_1532 : decode (mC M0) 1532 = .ok (.aload_n 0, 1) := by decide +kernel
theorem d0_1533 : decode (mC M0) 1533 = .ok (.iload 4, 2) := by decide +kernel
theorem d0_1535 : decode (mC M0) 1535 = .ok (.iconst 2, 1) := by decide +kernel
theorem d0_1536 : decode (mC M0) 1536 = .ok (.iadd, 1) := by decide +kernel
theorem d0_1537 : decode (mC M0) 1537 = .ok (.iaload, 1) := by decide +kernel
theorem d0_1538 : decode (mC M0) 1538 = .ok (.invokevirtual 134, 3) := by decide +kernel
theorem d0_1541 : decode (mC M0) 1541 = .ok (.aload_n 2, 1) := by decide +kernel
theorem d0_1542 : decode (mC M0) 1542 = .ok (.aload_n 0, 1) := by decide +kernel
theorem d0_1543 : decode (mC M0) 1543 = .ok (.iload 4, 2) := by decide +kernel
theorem d0_1545 : decode (mC M0) 1545 = .ok (.iconst 1, 1) := by decide +kernel
theorem d0_1546 : decode (mC M0) 1546 = .ok (.iadd, 1) := by decide +kernel
theorem d0_1547 : decode (mC M0) 1547 = .ok (.iaload, 1) := by decide +kernel
theorem d0_1548 : decode (mC M0) 1548 = .ok (.aload_n 0, 1) := by decide +kernel
theorem d0_1549 : decode (mC M0) 1549 = .ok (.iload 4, 2) := by decide +kernel
theorem d0_1551 : decode (mC M0) 1551 = .ok (.iconst 2, 1) := by decide +kernel
theorem d0_1552 : decode (mC M0) 1552 = .ok (.iadd, 1) := by decide +kernel
theorem d0_1553 : decode (mC M0) 1553 = .ok (.iaload, 1) := by decide +kernel
theorem d0_1554 : decode (mC M0) 1554 = .ok (.invokevirtual 137, 3) := by decide +kernel
theorem d0_1557 : decode (mC M0) 1557 = .ok (.if_icmp .eq 681, 3) := by decide +kernel
theorem d0_1560 : decode (mC M0) 1560 = .ok (.iconst 0, 1) := by decide +kernel
theorem d0_1561 : decode (mC M0) 1561 = .ok (.ireturn, 1) := by decide +kernel
theorem d0_1562 : decode (mC M0) 1562 = .ok (.aload_n 1, 1) := by decide +kernel
theorem d0_1563 : decode (mC M0) 1563 = .ok (.aload_n 0, 1) := by decide +kernel
theorem d0_1564 : decode (mC M0) 1564 = .ok (.iload 4, 2) := by decide +kernel
theorem d0_1566 : decode (mC M0) 1566 = .ok (.iconst 1, 1) := by decide +kernel
theorem d0_1567 : decode (mC M0) 1567 = .ok (.iadd, 1) := by decide +kernel
theorem d0_1568 : decode (mC M0) 1568 = .ok (.iaload, 1) := by decide +kernel
theorem d0_1569 : decode (mC M0) 1569 = .ok (.aload_n 0, 1) := by decide +kernel
theorem d0_1570 : decode (mC M0) 1570 = .ok (.iload 4, 2) := by decide +kernel
theorem d0_1572 : decode (mC M0) 1572 = .ok (.iconst 2, 1) := by decide +kernel
theorem d0_1573 : decode (mC M0) 1573 = .ok (.iadd, 1) := by decide +kernel
theorem d0_1574 : decode (mC M0) 1574 = .ok (.iaload, 1) := by decide +kernel
theorem d0_1575 : decode (mC M0) 1575 = .ok (.aload_n 0, 1) := by decide +kernel
theorem d0_1576 : decode (mC M0) 1576 = .ok (.iload 4, 2) := by decide +kernel
theorem d0_1578 : decode (mC M0) 1578 = .ok (.iconst 3, 1) := by decide +kernel
theorem d0_1579 : decode (mC M0) 1579 = .ok (.iadd, 1) := by decide +kernel
theorem d0_1580 : decode (mC M0) 1580 = .ok (.iaload, 1) := by decide +kernel
theorem d0_1581 : decode (mC M0) 1581 = .ok (.invokevirtual 138, 3) := by decide +kernel
theorem d0_1584 : decode (mC M0) 1584 = .ok (.aload_n 2, 1) := by decide +kernel
theorem d0_1585 : decode (mC M0) 1585 = .ok (.aload_n 0, 1) := by decide +kernel
theorem d0_1586 : decode (mC M0) 1586 = .ok (.iload 4, 2) := by decide +kernel
theorem d0_1588 : decode (mC M0) 1588 = .ok (.iconst 1, 1) := by decide +kernel
theorem d0_1589 : decode (mC M0) 1589 = .ok (.iadd, 1) := by decide +kernel
theorem d0_1590 : decode (mC M0) 1590 = .ok (.iaload, 1) := by decide +kernel
theorem d0_1591 : decode (mC M0) 1591 = .ok (.aload_n 0, 1) := by decide +kernel
theorem d0_1592 : decode (mC M0) 1592 = .ok (.iload 4, 2) := by decide +kernel
theorem d0_1594 : decode (mC M0) 1594 = .ok (.iconst 2, 1) := by decide +kernel
theorem d0_1595 : decode (mC M0) 1595 = .ok (.iadd, 1) := by decide +kernel
theorem d0_1596 : decode (mC M0) 1596 = .ok (.iaload, 1) := by decide +kernel
theorem d0_1597 : decode (mC M0) 1597 = .ok (.aload_n 0, 1) := by decide +kernel
theorem d0_1598 : decode (mC M0) 1598 = .ok (.iload 4, 2) := by decide +kernel
theorem d0_1600 : decode (mC M0) 1600 = .ok (.iconst 3, 1) := by decide +kernel
theorem d0_1601 : decode (mC M0) 1601 = .ok (.iadd, 1) := by decide +kernel
theorem d0_1602 : decode (mC M0) 1602 = .ok (.iaload, 1) := by decide +kernel
theorem d0_1603 : decode (mC M0) 1603 = .ok (.invokevirtual 141, 3) := by decide +kernel
theorem d0_1606 : decode (mC M0) 1606 = .ok (.if_icmp .eq 632, 3) := by decide +kernel
theorem d0_1609 : decode (mC M0) 1609 = .ok (.iconst 0, 1) := by decide +kernel
theorem d0_1610 : decode (mC M0) 1610 = .ok (.ireturn, 1) := by decide +kernel
theorem d0_1611 : decode (mC M0) 1611 = .ok (.aload_n 1, 1) := by decide +kernel
theorem d0_1612 : decode (mC M0) 1612 = .ok (.invokevirtual 142, 3) := by decide +kernel
theorem d0_1615 : decode (mC M0) 1615 = .ok (.aload_n 2, 1) := by decide +kernel
theorem d0_1616 : decode (mC M0) 1616 = .ok (.invokevirtual 145, 3) := by decide +kernel
theorem d0_1619 : decode (mC M0) 1619 = .ok (.if_icmp .eq 619, 3) := by decide +kernel
theorem d0_1622 : decode (mC M0) 1622 = .ok (.iconst 0, 1) := by decide +kernel
theorem d0_1623 : decode (mC M0) 1623 = .ok (.ireturn, 1) := by decide +kernel
theorem d0_1624 : decode (mC M0) 1624 = .ok (.aload_n 1, 1) := by decide +kernel
theorem d0_1625 : decode (mC M0) 1625 = .ok (.aload_n 0, 1) := by decide +kernel
theorem d0_1626 : decode (mC M0) 1626 = .ok (.iload 4, 2) := by decide +kernel
theorem d0_1628 : decode (mC M0) 1628 = .ok (.iconst 1, 1) := by decide +kernel
theorem d0_1629 : decode (mC M0) 1629 = .ok (.iadd, 1) := by decide +kernel
theorem d0_1630 : decode (mC M0) 1630 = .ok (.iaload, 1) := by decide +kernel
theorem d0_1631 : decode (mC M0) 1631 = .ok (.aload_n 0, 1) := by decide +kernel
theorem d0_1632 : decode (mC M0) 1632 = .ok (.iload 4, 2) := by decide +kernel
theorem d0_1634 : decode (mC M0) 1634 = .ok (.iconst 2, 1) := by decide +kernel
theorem d0_1635 : decode (mC M0) 1635 = .ok (.iadd, 1) := by decide +kernel
theorem d0_1636 : decode (mC M0) 1636 = .ok (.iaload, 1) := by decide +kernel
theorem d0_1637 : decode (mC M0) 1637 = .ok (.invokevirtual 146, 3) := by decide +kernel
theorem d0_1640 : decode (mC M0) 1640 = .ok (.aload_n 2, 1) := by decide +kernel
theorem d0_1641 : decode (mC M0) 1641 = .ok (.aload_n 0, 1) := by decide +kernel
theorem d0_1642 : decode (mC M0) 1642 = .ok (.iload 4, 2) := by decide +kernel
theorem d0_1644 : decode (mC M0) 1644 = .ok (.iconst 1, 1) := by decide +kernel
theorem d0_1645 : decode (mC M0) 1645 = .ok (.iadd, 1) := by decide +kernel
theorem d0_1646 : decode (mC M0) 1646 = .ok (.iaload, 1) := by decide +kernel
theorem d0_1647 : decode (mC M0) 1647 = .ok (.aload_n 0, 1) := by decide +kernel
theorem d0_1648 : decode (mC M0) 1648 = .ok (.iload 4, 2) := by decide +kernel
theorem d0_1650 : decode (mC M0) 1650 = .ok (.iconst 2, 1) := by decide +kernel
theorem d0_1651 : decode (mC M0) 1651 = .ok (.iadd, 1) := by decide +kernel
theorem d0_1652 : decode (mC M0) 1652 = .ok (.iaload, 1) := by decide +kernel
theorem d0_1653 : decode (mC M0) 1653 = .ok (.invokevirtual 149, 3) := by decide +kernel
theorem d0_1656 : decode (mC M0) 1656 = .ok (.if_icmp .eq 582, 3) := by decide +kernel
theorem d0_1659 : decode (mC M0) 1659 = .ok (.iconst 0, 1) := by decide +kernel
theorem d0_1660 : decode (mC M0) 1660 = .ok (.ireturn, 1) := by decide +kernel
theorem d0_1661 : decode (mC M0) 1661 = .ok (.aload_n 1, 1) := by decide +kernel
theorem d0_1662 : decode (mC M0) 1662 = .ok (.aload_n 0, 1) := by decide +kernel
theorem d0_1663 : decode (mC M0) 1663 = .ok (.iload 4, 2) := by decide +kernel
theorem d0_1665 : decode (mC M0) 1665 = .ok (.iconst 1, 1) := by decide +kernel
theorem d0_1666 : decode (mC M0) 1666 = .ok (.iadd, 1) := by decide +kernel
theorem d0_1667 : decode (mC M0) 1667 = .ok (.iaload, 1) := by decide +kernel
theorem d0_1668 : decode (mC M0) 1668 = .ok (.aload_n 0, 1) := by decide +kernel
theorem d0_1669 : decode (mC M0) 1669 = .ok (.iload 4, 2) := by decide +kernel
theorem d0_1671 : decode (mC M0) 1671 = .ok (.iconst 2, 1) := by decide +kernel
theorem d0_1672 : decode (mC M0) 1672 = .ok (.iadd, 1) := by decide +kernel
theorem d0_1673 : decode (mC M0) 1673 = .ok (.iaload, 1) := by decide +kernel
theorem d0_1674 : decode (mC M0) 1674 = .ok (.invokevirtual 150, 3) := by decide +kernel
theorem d0_1677 : decode (mC M0) 1677 = .ok (.aload_n 2, 1) := by decide +kernel
theorem d0_1678 : decode (mC M0) 1678 = .ok (.aload_n 0, 1) := by decide +kernel
theorem d0_1679 : decode (mC M0) 1679 = .ok (.iload 4, 2) := by decide +kernel
theorem d0_1681 : decode (mC M0) 1681 = .ok (.iconst 1, 1) := by decide +kernel
theorem d0_1682 : decode (mC M0) 1682 = .ok (.iadd, 1) := by decide +kernel
theorem d0_1683 : decode (mC M0) 1683 = .ok (.iaload, 1) := by decide +kernel
theorem d0_1684 : decode (mC M0) 1684 = .ok (.aload_n 0, 1) := by decide +kernel
theorem d0_1685 : decode (mC M0) 1685 = .ok (.iload 4, 2) := by decide +kernel
theorem d0_1687 : decode (mC M0) 1687 = .ok (.iconst 2, 1) := by decide +kernel
theorem d0_1688 : decode (mC M0) 1688 = .ok (.iadd, 1) := by decide +kernel
theorem d0_1689 : decode (mC M0) 1689 = .ok (.iaload, 1) := by decide +kernel
theorem d0_1690 : decode (mC M0) 1690 = .ok (.invokevirtual 153, 3) := by decide +kernel
theorem d0_1693 : decode (mC M0) 1693 = .ok (.if_icmp .eq 545, 3) := by decide +kernel
theorem d0_1696 : decode (mC M0) 1696 = .ok (.iconst 0, 1) := by decide +kernel
theorem d0_1697 : decode (mC M0) 1697 = .ok (.ireturn, 1) := by decide +kernel
theorem d0_1698 : decode (mC M0) 1698 = .ok (.aload_n 1, 1) := by decide +kernel
theorem d0_1699 : decode (mC M0) 1699 = .ok (.invokevirtual 154, 3) := by decide +kernel
theorem d0_1702 : decode (mC M0) 1702 = .ok (.aload_n 2, 1) := by decide +kernel
theorem d0_1703 : decode (mC M0) 1703 = .ok (.invokevirtual 157, 3) := by decide +kernel
theorem d0_1706 : decode (mC M0) 1706 = .ok (.if_icmp .eq 532, 3) := by decide +kernel
theorem d0_1709 : decode (mC M0) 1709 = .ok (.iconst 0, 1) := by decide +kernel
theorem d0_1710 : decode (mC M0) 1710 = .ok (.ireturn, 1) := by decide +kernel
theorem d0_1711 : decode (mC M0) 1711 = .ok (.aload_n 1, 1) := by decide +kernel
theorem d0_1712 : decode (mC M0) 1712 = .ok (.aload_n 0, 1) := by decide +kernel
theorem d0_1713 : decode (mC M0) 1713 = .ok (.iload 4, 2) := by decide +kernel
theorem d0_1715 : decode (mC M0) 1715 = .ok (.iconst 1, 1) := by decide +kernel
theorem d0_1716 : decode (mC M0) 1716 = .ok (.iadd, 1) := by decide +kernel
theorem d0_1717 : decode (mC M0) 1717 = .ok (.iaload, 1) := by decide +kernel
theorem d0_1718 : decode (mC M0) 1718 = .ok (.aload_n 0, 1) := by decide +kernel
theorem d0_1719 : decode (mC M0) 1719 = .ok (.iload 4, 2) := by decide +kernel
theorem d0_1721 : decode (mC M0) 1721 = .ok (.iconst 2, 1) := by decide +kernel
theorem d0_1722 : decode (mC M0) 1722 = .ok (.iadd, 1) := by decide +kernel
theorem d0_1723 : decode (mC M0) 1723 = .ok (.iaload, 1) := by decide +kernel
theorem d0_1724 : decode (mC M0) 1724 = .ok (.invokevirtual 158, 3) := by decide +kernel
theorem d0_1727 : decode (mC M0) 1727 = .ok (.aload_n 2, 1) := by decide +kernel
theorem d0_1728 : decode (mC M0) 1728 = .ok (.aload_n 0, 1) := by decide +kernel
theorem d0_1729 : decode (mC M0) 1729 = .ok (.iload 4, 2) := by decide +kernel
theorem d0_1731 : decode (mC M0) 1731 = .ok (.iconst 1, 1) := by decide +kernel
theorem d0_1732 : decode (mC M0) 1732 = .ok (.iadd, 1) := by decide +kernel
theorem d0_1733 : decode (mC M0) 1733 = .ok (.iaload, 1) := by decide +kernel
theorem d0_1734 : decode (mC M0) 1734 = .ok (.aload_n 0, 1) := by decide +kernel
theorem d0_1735 : decode (mC M0) 1735 = .ok (.iload 4, 2) := by decide +kernel
theorem d0_1737 : decode (mC M0) 1737 = .ok (.iconst 2, 1) := by decide +kernel
theorem d0_1738 : decode (mC M0) 1738 = .ok (.iadd, 1) := by decide +kernel
theorem d0_1739 : decode (mC M0) 1739 = .ok (.iaload, 1) := by decide +kernel
theorem d0_1740 : decode (mC M0) 1740 = .ok (.invokevirtual 161, 3) := by decide +kernel
theorem d0_1743 : decode (mC M0) 1743 = .ok (.if_icmp .eq 495, 3) := by decide +kernel
theorem d0_1746 : decode (mC M0) 1746 = .ok (.iconst 0, 1) := by decide +kernel
theorem d0_1747 : decode (mC M0) 1747 = .ok (.ireturn, 1) := by decide +kernel
theorem d0_1748 : decode (mC M0) 1748 = .ok (.aload_n 1, 1) := by decide +kernel
theorem d0_1749 : decode (mC M0) 1749 = .ok (.aload_n 0, 1) := by decide +kernel
theorem d0_1750 : decode (mC M0) 1750 = .ok (.iload 4, 2) := by decide +kernel
theorem d0_1752 : decode (mC M0) 1752 = .ok (.iconst 1, 1) := by decide +kernel
theorem d0_1753 : decode (mC M0) 1753 = .ok (.iadd, 1) := by decide +kernel
theorem d0_1754 : decode (mC M0) 1754 = .ok (.iaload, 1) := by decide +kernel
theorem d0_1755 : decode (mC M0) 1755 = .ok (.aload_n 0, 1) := by decide +kernel
theorem d0_1756 : decode (mC M0) 1756 = .ok (.iload 4, 2) := by decide +kernel
theorem d0_1758 : decode (mC M0) 1758 = .ok (.iconst 2, 1) := by decide +kernel
theorem d0_1759 : decode (mC M0) 1759 = .ok (.iadd, 1) := by decide +kernel
theorem d0_1760 : decode (mC M0) 1760 = .ok (.iaload, 1) := by decide +kernel
theorem d0_1761 : decode (mC M0) 1761 = .ok (.invokevirtual 162, 3) := by decide +kernel
theorem d0_1764 : decode (mC M0) 1764 = .ok (.aload_n 2, 1) := by decide +kernel
theorem d0_1765 : decode (mC M0) 1765 = .ok (.aload_n 0, 1) := by decide +kernel
theorem d0_1766 : decode (mC M0) 1766 = .ok (.iload 4, 2) := by decide +kernel
theorem d0_1768 : decode (mC M0) 1768 = .ok (.iconst 1, 1) := by decide +kernel
theorem d0_1769 : decode (mC M0) 1769 = .ok (.iadd, 1) := by decide +kernel
theorem d0_1770 : decode (mC M0) 1770 = .ok (.iaload, 1) := by decide +kernel
theorem d0_1771 : decode (mC M0) 1771 = .ok (.aload_n 0, 1) := by decide +kernel
theorem d0_1772 : decode (mC M0) 1772 = .ok (.iload 4, 2) := by decide +kernel
theorem d0_1774 : decode (mC M0) 1774 = .ok (.iconst 2, 1) := by decide +kernel
theorem d0_1775 : decode (mC M0) 1775 = .ok (.iadd, 1) := by decide +kernel
theorem d0_1776 : decode (mC M0) 1776 = .ok (.iaload, 1) := by decide +kernel
theorem d0_1777 : decode (mC M0) 1777 = .ok (.invokevirtual 165, 3) := by decide +kernel
theorem d0_1780 : decode (mC M0) 1780 = .ok (.if_icmp .eq 458, 3) := by decide +kernel
theorem d0_1783 : decode (mC M0) 1783 = .ok (.iconst 0, 1) := by decide +kernel
theorem d0_1784 : decode (mC M0) 1784 = .ok (.ireturn, 1) := by decide +kernel
theorem d0_1785 : decode (mC M0) 1785 = .ok (.aload_n 1, 1) := by decide +kernel
theorem d0_1786 : decode (mC M0) 1786 = .ok (.aload_n 0, 1) := by decide +kernel
theorem d0_1787 : decode (mC M0) 1787 = .ok (.iload 4, 2) := by decide +kernel
theorem d0_1789 : decode (mC M0) 1789 = .ok (.iconst 1, 1) := by decide +kernel
theorem d0_1790 : decode (mC M0) 1790 = .ok (.iadd, 1) := by decide +kernel
theorem d0_1791 : decode (mC M0) 1791 = .ok (.iaload, 1) := by decide +kernel
theorem d0_1792 : decode (mC M0) 1792 = .ok (.aload_n 0, 1) := by decide +kernel
theorem d0_1793 : decode (mC M0) 1793 = .ok (.iload 4, 2) := by decide +kernel
theorem d0_1795 : decode (mC M0) 1795 = .ok (.iconst 2, 1) := by decide +kernel
theorem d0_1796 : decode (mC M0) 1796 = .ok (.iadd, 1) := by decide +kernel
theorem d0_1797 : decode (mC M0) 1797 = .ok (.iaload, 1) := by decide +kernel
theorem d0_1798 : decode (mC M0) 1798 = .ok (.invokevirtual 166, 3) := by decide +kernel
theorem d0_1801 : decode (mC M0) 1801 = .ok (.aload_n 2, 1) := by decide +kernel
theorem d0_1802 : decode (mC M0) 1802 = .ok (.aload_n 0, 1) := by decide +kernel
theorem d0_1803 : decode (mC M0) 1803 = .ok (.iload 4, 2) := by decide +kernel
theorem d0_1805 : decode (mC M0) 1805 = .ok (.iconst 1, 1) := by decide +kernel
theorem d0_1806 : decode (mC M0) 1806 = .ok (.iadd, 1) := by decide +kernel
theorem d0_1807 : decode (mC M0) 1807 = .ok (.iaload, 1) := by decide +kernel
theorem d0_1808 : decode (mC M0) 1808 = .ok (.aload_n 0, 1) := by decide +kernel
theorem d0_1809 : decode (mC M0) 1809 = .ok (.iload 4, 2) := by decide +kernel
theorem d0_1811 : decode (mC M0) 1811 = .ok (.iconst 2, 1) := by decide +kernel
theorem d0_1812 : decode (mC M0) 1812 = .ok (.iadd, 1) := by decide +kernel
theorem d0_1813 : decode (mC M0) 1813 = .ok (.iaload, 1) := by decide +kernel
theorem d0_1814 : decode (mC M0) 1814 = .ok (.invokevirtual 169, 3) := by decide +kernel
theorem d0_1817 : decode (mC M0) 1817 = .ok (.if_icmp .eq 421, 3) := by decide +kernel
theorem d0_1820 : decode (mC M0) 1820 = .ok (.iconst 0, 1) := by decide +kernel
theorem d0_1821 : decode (mC M0) 1821 = .ok (.ireturn, 1) := by decide +kernel
theorem d0_1822 : decode (mC M0) 1822 = .ok (.aload_n 1, 1) := by decide +kernel
theorem d0_1823 : decode (mC M0) 1823 = .ok (.invokevirtual 170, 3) := by decide +kernel
theorem d0_1826 : decode (mC M0) 1826 = .ok (.aload_n 2, 1) := by decide +kernel
theorem d0_1827 : decode (mC M0) 1827 = .ok (.invokevirtual 173, 3) := by decide +kernel
theorem d0_1830 : decode (mC M0) 1830 = .ok (.if_icmp .eq 408, 3) := by decide +kernel
theorem d0_1833 : decode (mC M0) 1833 = .ok (.iconst 0, 1) := by decide +kernel
theorem d0_1834 : decode (mC M0) 1834 = .ok (.ireturn, 1) := by decide +kernel
theorem d0_1835 : decode (mC M0) 1835 = .ok (.aload_n 1, 1) := by decide +kernel
theorem d0_1836 : decode (mC M0) 1836 = .ok (.aload_n 0, 1) := by decide +kernel
theorem d0_1837 : decode (mC M0) 1837 = .ok (.iload 4, 2) := by decide +kernel
theorem d0_1839 : decode (mC M0) 1839 = .ok (.iconst 1, 1) := by decide +kernel
theorem d0_1840 : decode (mC M0) 1840 = .ok (.iadd, 1) := by decide +kernel
theorem d0_1841 : decode (mC M0) 1841 = .ok (.iaload, 1) := by decide +kernel
theorem d0_1842 : decode (mC M0) 1842 = .ok (.invokevirtual 174, 3) := by decide +kernel
theorem d0_1845 : decode (mC M0) 1845 = .ok (.aload_n 2, 1) := by decide +kernel
theorem d0_1846 : decode (mC M0) 1846 = .ok (.aload_n 0, 1) := by decide +kernel
theorem d0_1847 : decode (mC M0) 1847 = .ok (.iload 4, 2) := by decide +kernel
theorem d0_1849 : decode (mC M0) 1849 = .ok (.iconst 1, 1) := by decide +kernel
theorem d0_1850 : decode (mC M0) 1850 = .ok (.iadd, 1) := by decide +kernel
theorem d0_1851 : decode (mC M0) 1851 = .ok (.iaload, 1) := by decide +kernel
theorem d0_1852 : decode (mC M0) 1852 = .ok (.invokevirtual 177, 3) := by decide +kernel
theorem d0_1855 : decode (mC M0) 1855 = .ok (.if_icmp .eq 383, 3) := by decide +kernel
theorem d0_1858 : decode (mC M0) 1858 = .ok (.iconst 0, 1) := by decide +kernel
theorem d0_1859 : decode (mC M0) 1859 = .ok (.ireturn, 1) := by decide +kernel
theorem d0_1860 : decode (mC M0) 1860 = .ok (.aload_n 1, 1) := by decide +kernel
theorem d0_1861 : decode (mC M0) 1861 = .ok (.aload_n 0, 1) := by decide +kernel
theorem d0_1862 : decode (mC M0) 1862 = .ok (.iload 4, 2) := by decide +kernel
theorem d0_1864 : decode (mC M0) 1864 = .ok (.iconst 1, 1) := by decide +kernel
theorem d0_1865 : decode (mC M0) 1865 = .ok (.iadd, 1) := by decide +kernel
theorem d0_1866 : decode (mC M0) 1866 = .ok (.iaload, 1) := by decide +kernel
theorem d0_1867 : decode (mC M0) 1867 = .ok (.invokevirtual 178, 3) := by decide +kernel
theorem d0_1870 : decode (mC M0) 1870 = .ok (.aload_n 2, 1) := by decide +kernel
theorem d0_1871 : decode (mC M0) 1871 = .ok (.aload_n 0, 1) := by decide +kernel
theorem d0_1872 : decode (mC M0) 1872 = .ok (.iload 4, 2) := by decide +kernel
theorem d0_1874 : decode (mC M0) 1874 = .ok (.iconst 1, 1) := by decide +kernel
theorem d0_1875 : decode (mC M0) 1875 = .ok (.iadd, 1) := by decide +kernel
theorem d0_1876 : decode (mC M0) 1876 = .ok (.iaload, 1) := by decide +kernel
theorem d0_1877 : decode (mC M0) 1877 = .ok (.invokevirtual 181, 3) := by decide +kernel
theorem d0_1880 : decode (mC M0) 1880 = .ok (.if_icmp .eq 358, 3) := by decide +kernel
theorem d0_1883 : decode (mC M0) 1883 = .ok (.iconst 0, 1) := by decide +kernel
theorem d0_1884 : decode (mC M0) 1884 = .ok (.ireturn, 1) := by decide +kernel
theorem d0_1885 : decode (mC M0) 1885 = .ok (.aload_n 1, 1) := by decide +kernel
theorem d0_1886 : decode (mC M0) 1886 = .ok (.aload_n 0, 1) := by decide +kernel
theorem d0_1887 : decode (mC M0) 1887 = .ok (.iload 4, 2) := by decide +kernel
theorem d0_1889 : decode (mC M0) 1889 = .ok (.iconst 1, 1) := by decide +kernel
theorem d0_1890 : decode (mC M0) 1890 = .ok (.iadd, 1) := by decide +kernel
theorem d0_1891 : decode (mC M0) 1891 = .ok (.iaload, 1) := by decide +kernel
theorem d0_1892 : decode (mC M0) 1892 = .ok (.aload_n 0, 1) := by decide +kernel
theorem d0_1893 : decode (mC M0) 1893 = .ok (.iload 4, 2) := by decide +kernel
theorem d0_1895 : decode (mC M0) 1895 = .ok (.iconst 2, 1) := by decide +kernel
theorem d0_1896 : decode (mC M0) 1896 = .ok (.iadd, 1) := by decide +kernel
theorem d0_1897 : decode (mC M0) 1897 = .ok (.iaload, 1) := by decide +kernel
theorem d0_1898 : decode (mC M0) 1898 = .ok (.aload_n 0, 1) := by decide +kernel
theorem d0_1899 : decode (mC M0) 1899 = .ok (.iload 4, 2) := by decide +kernel
theorem d0_1901 : decode (mC M0) 1901 = .ok (.iconst 3, 1) := by decide +kernel
theorem d0_1902 : decode (mC M0) 1902 = .ok (.iadd, 1) := by decide +kernel
theorem d0_1903 : decode (mC M0) 1903 = .ok (.iaload, 1) := by decide +kernel
theorem d0_1904 : decode (mC M0) 1904 = .ok (.aload_n 0, 1) := by decide +kernel
theorem d0_1905 : decode (mC M0) 1905 = .ok (.iload 4, 2) := by decide +kernel
theorem d0_1907 : decode (mC M0) 1907 = .ok (.iconst 4, 1) := by decide +kernel
theorem d0_1908 : decode (mC M0) 1908 = .ok (.iadd, 1) := by decide +kernel
theorem d0_1909 : decode (mC M0) 1909 = .ok (.iaload, 1) := by decide +kernel
theorem d0_1910 : decode (mC M0) 1910 = .ok (.aload_n 0, 1) := by decide +kernel
theorem d0_1911 : decode (mC M0) 1911 = .ok (.iload 4, 2) := by decide +kernel
theorem d0_1913 : decode (mC M0) 1913 = .ok (.iconst 5, 1) := by decide +kernel
theorem d0_1914 : decode (mC M0) 1914 = .ok (.iadd, 1) := by decide +kernel
theorem d0_1915 : decode (mC M0) 1915 = .ok (.iaload, 1) := by decide +kernel
theorem d0_1916 : decode (mC M0) 1916 = .ok (.aload_n 0, 1) := by decide +kernel
theorem d0_1917 : decode (mC M0) 1917 = .ok (.iload 4, 2) := by decide +kernel
theorem d0_1919 : decode (mC M0) 1919 = .ok (.bipush 6, 2) := by decide +kernel
theorem d0_1921 : decode (mC M0) 1921 = .ok (.iadd, 1) := by decide +kernel
theorem d0_1922 : decode (mC M0) 1922 = .ok (.iaload, 1) := by decide +kernel
theorem d0_1923 : decode (mC M0) 1923 = .ok (.invokevirtual 182, 3) := by decide +kernel
theorem d0_1926 : decode (mC M0) 1926 = .ok (.aload_n 2, 1) := by decide +kernel
theorem d0_1927 : decode (mC M0) 1927 = .ok (.aload_n 0, 1) := by decide +kernel
theorem d0_1928 : decode (mC M0) 1928 = .ok (.iload 4, 2) := by decide +kernel
theorem d0_1930 : decode (mC M0) 1930 = .ok (.iconst 1, 1) := by decide +kernel
theorem d0_1931 : decode (mC M0) 1931 = .ok (.iadd, 1) := by decide +kernel
theorem d0_1932 : decode (mC M0) 1932 = .ok (.iaload, 1) := by decide +kernel
theorem d0_1933 : decode (mC M0) 1933 = .ok (.aload_n 0, 1) := by decide +kernel
theorem d0_1934 : decode (mC M0) 1934 = .ok (.iload 4, 2) := by decide +kernel
theorem d0_1936 : decode (mC M0) 1936 = .ok (.iconst 2, 1) := by decide +kernel
theorem d0_1937 : decode (mC M0) 1937 = .ok (.iadd, 1) := by decide +kernel
theorem d0_1938 : decode (mC M0) 1938 = .ok (.iaload, 1) := by decide +kernel
theorem d0_1939 : decode (mC M0) 1939 = .ok (.aload_n 0, 1) := by decide +kernel
theorem d0_1940 : decode (mC M0) 1940 = .ok (.iload 4, 2) := by decide +kernel
theorem d0_1942 : decode (mC M0) 1942 = .ok (.iconst 3, 1) := by decide +kernel
theorem d0_1943 : decode (mC M0) 1943 = .ok (.iadd, 1) := by decide +kernel
theorem d0_1944 : decode (mC M0) 1944 = .ok (.iaload, 1) := by decide +kernel
theorem d0_1945 : decode (mC M0) 1945 = .ok (.aload_n 0, 1) := by decide +kernel
theorem d0_1946 : decode (mC M0) 1946 = .ok (.iload 4, 2) := by decide +kernel
theorem d0_1948 : decode (mC M0) 1948 = .ok (.iconst 4, 1) := by decide +kernel
theorem d0_1949 : decode (mC M0) 1949 = .ok (.iadd, 1) := by decide +kernel
theorem d0_1950 : decode (mC M0) 1950 = .ok (.iaload, 1) := by decide +kernel
theorem d0_1951 : decode (mC M0) 1951 = .ok (.aload_n 0, 1) := by decide +kernel
theorem d0_1952 : decode (mC M0) 1952 = .ok (.iload 4, 2) := by decide +kernel
theorem d0_1954 : decode (mC M0) 1954 = .ok (.iconst 5, 1) := by decide +kernel
theorem d0_1955 : decode (mC M0) 1955 = .ok (.iadd, 1) := by decide +kernel
theorem d0_1956 : decode (mC M0) 1956 = .ok (.iaload, 1) := by decide +kernel
theorem d0_1957 : decode (mC M0) 1957 = .ok (.aload_n 0, 1) := by decide +kernel
theorem d0_1958 : decode (mC M0) 1958 = .ok (.iload 4, 2) := by decide +kernel
theorem d0_1960 : decode (mC M0) 1960 = .ok (.bipush 6, 2) := by decide +kernel
theorem d0_1962 : decode (mC M0) 1962 = .ok (.iadd, 1) := by decide +kernel
theorem d0_1963 : decode (mC M0) 1963 = .ok (.iaload, 1) := by decide +kernel
theorem d0_1964 : decode (mC M0) 1964 = .ok (.invokevirtual 185, 3) := by decide +kernel
theorem d0_1967 : decode (mC M0) 1967 = .ok (.if_icmp .eq 271, 3) := by decide +kernel
theorem d0_1970 : decode (mC M0) 1970 = .ok (.iconst 0, 1) := by decide +kernel
theorem d0_1971 : decode (mC M0) 1971 = .ok (.ireturn, 1) := by decide +kernel
theorem d0_1972 : decode (mC M0) 1972 = .ok (.aload_n 1, 1) := by decide +kernel
theorem d0_1973 : decode (mC M0) 1973 = .ok (.aload_n 0, 1) := by decide +kernel
theorem d0_1974 : decode (mC M0) 1974 = .ok (.iload 4, 2) := by decide +kernel
theorem d0_1976 : decode (mC M0) 1976 = .ok (.iconst 1, 1) := by decide +kernel
theorem d0_1977 : decode (mC M0) 1977 = .ok (.iadd, 1) := by decide +kernel
theorem d0_1978 : decode (mC M0) 1978 = .ok (.iaload, 1) := by decide +kernel
theorem d0_1979 : decode (mC M0) 1979 = .ok (.aload_n 0, 1) := by decide +kernel
theorem d0_1980 : decode (mC M0) 1980 = .ok (.iload 4, 2) := by decide +kernel
theorem d0_1982 : decode (mC M0) 1982 = .ok (.iconst 2, 1) := by decide +kernel
theorem d0_1983 : decode (mC M0) 1983 = .ok (.iadd, 1) := by decide +kernel
theorem d0_1984 : decode (mC M0) 1984 = .ok (.iaload, 1) := by decide +kernel
theorem d0_1985 : decode (mC M0) 1985 = .ok (.invokevirtual 186, 3) := by decide +kernel
theorem d0_1988 : decode (mC M0) 1988 = .ok (.aload_n 2, 1) := by decide +kernel
theorem d0_1989 : decode (mC M0) 1989 = .ok (.aload_n 0, 1) := by decide +kernel
theorem d0_1990 : decode (mC M0) 1990 = .ok (.iload 4, 2) := by decide +kernel
theorem d0_1992 : decode (mC M0) 1992 = .ok (.iconst 1, 1) := by decide +kernel
theorem d0_1993 : decode (mC M0) 1993 = .ok (.iadd, 1) := by decide +kernel
theorem d0_1994 : decode (mC M0) 1994 = .ok (.iaload, 1) := by decide +kernel
theorem d0_1995 : decode (mC M0) 1995 = .ok (.aload_n 0, 1) := by decide +kernel
theorem d0_1996 : decode (mC M0) 1996 = .ok (.iload 4, 2) := by decide +kernel
theorem d0_1998 : decode (mC M0) 1998 = .ok (.iconst 2, 1) := by decide +kernel
theorem d0_1999 : decode (mC M0) 1999 = .ok (.iadd, 1) := by decide +kernel
theorem d0_2000 : decode (mC M0) 2000 = .ok (.iaload, 1) := by decide +kernel
theorem d0_2001 : decode (mC M0) 2001 = .ok (.invokevirtual 189, 3) := by decide +kernel
theorem d0_2004 : decode (mC M0) 2004 = .ok (.if_icmp .eq 234, 3) := by decide +kernel
theorem d0_2007 : decode (mC M0) 2007 = .ok (.iconst 0, 1) := by decide +kernel
theorem d0_2008 : decode (mC M0) 2008 = .ok (.ireturn, 1) := by decide +kernel
theorem d0_2009 : decode (mC M0) 2009 = .ok (.aload_n 1, 1) := by decide +kernel
theorem d0_2010 : decode (mC M0) 2010 = .ok (.aload_n 0, 1) := by decide +kernel
theorem d0_2011 : decode (mC M0) 2011 = .ok (.iload 4, 2) := by decide +kernel
theorem d0_2013 : decode (mC M0) 2013 = .ok (.iconst 1, 1) := by decide +kernel
theorem d0_2014 : decode (mC M0) 2014 = .ok (.iadd, 1) := by decide +kernel
theorem d0_2015 : decode (mC M0) 2015 = .ok (.iaload, 1) := by decide +kernel
theorem d0_2016 : decode (mC M0) 2016 = .ok (.aload_n 0, 1) := by decide +kernel
theorem d0_2017 : decode (mC M0) 2017 = .ok (.iload 4, 2) := by decide +kernel
theorem d0_2019 : decode (mC M0) 2019 = .ok (.iconst 2, 1) := by decide +kernel
theorem d0_2020 : decode (mC M0) 2020 = .ok (.iadd, 1) := by decide +kernel
theorem d0_2021 : decode (mC M0) 2021 = .ok (.iaload, 1) := by decide +kernel
theorem d0_2022 : decode (mC M0) 2022 = .ok (.aload_n 0, 1) := by decide +kernel
theorem d0_2023 : decode (mC M0) 2023 = .ok (.iload 4, 2) := by decide +kernel
theorem d0_2025 : decode (mC M0) 2025 = .ok (.iconst 3, 1) := by decide +kernel
theorem d0_2026 : decode (mC M0) 2026 = .ok (.iadd, 1) := by decide +kernel
theorem d0_2027 : decode (mC M0) 2027 = .ok (.iaload, 1) := by decide +kernel
theorem d0_2028 : decode (mC M0) 2028 = .ok (.aload_n 0, 1) := by decide +kernel
theorem d0_2029 : decode (mC M0) 2029 = .ok (.iload 4, 2) := by decide +kernel
theorem d0_2031 : decode (mC M0) 2031 = .ok (.iconst 4, 1) := by decide +kernel
theorem d0_2032 : decode (mC M0) 2032 = .ok (.iadd, 1) := by decide +kernel
theorem d0_2033 : decode (mC M0) 2033 = .ok (.iaload, 1) := by decide +kernel
theorem d0_2034 : decode (mC M0) 2034 = .ok (.invokevirtual 190, 3) := by decide +kernel
theorem d0_2037 : decode (mC M0) 2037 = .ok (.aload_n 2, 1) := by decide +kernel
theorem d0_2038 : decode (mC M0) 2038 = .ok (.aload_n 0, 1) := by decide +kernel
theorem d0_2039 : decode (mC M0) 2039 = .ok (.iload 4, 2) := by decide +kernel
theorem d0_2041 : decode (mC M0) 2041 = .ok (.iconst 1, 1) := by decide +kernel
theorem d0_2042 : decode (mC M0) 2042 = .ok (.iadd, 1) := by decide +kernel
theorem d0_2043 : decode (mC M0) 2043 = .ok (.iaload, 1) := by decide +kernel
theorem d0_2044 : decode (mC M0) 2044 = .ok (.aload_n 0, 1) := by decide +kernel
theorem d0_2045 : decode (mC M0) 2045 = .ok (.iload 4, 2) := by decide +kernel
theorem d0_2047 : decode (mC M0) 2047 = .ok (.iconst 2, 1) := by decide +kernel
theorem d0_2048 : decode (mC M0) 2048 = .ok (.iadd, 1) := by decide +kernel
theorem d0_2049 : decode (mC M0) 2049 = .ok (.iaload, 1) := by decide +kernel
theorem d0_2050 : decode (mC M0) 2050 = .ok (.aload_n 0, 1) := by decide +kernel
theorem d0_2051 : decode (mC M0) 2051 = .ok (.iload 4, 2) := by decide +kernel
theorem d0_2053 : decode (mC M0) 2053 = .ok (.iconst 3, 1) := by decide +kernel
theorem d0_2054 : decode (mC M0) 2054 = .ok (.iadd, 1) := by decide +kernel
theorem d0_2055 : decode (mC M0) 2055 = .ok (.iaload, 1) := by decide +kernel
theorem d0_2056 : decode (mC M0) 2056 = .ok (.aload_n 0, 1) := by decide +kernel
theorem d0_2057 : decode (mC M0) 2057 = .ok (.iload 4, 2) := by decide +kernel
theorem d0_2059 : decode (mC M0) 2059 = .ok (.iconst 4, 1) := by decide +kernel
theorem d0_2060 : decode (mC M0) 2060 = .ok (.iadd, 1) := by decide +kernel
theorem d0_2061 : decode (mC M0) 2061 = .ok (.iaload, 1) := by decide +kernel
theorem d0_2062 : decode (mC M0) 2062 = .ok (.invokevirtual 193, 3) := by decide +kernel
theorem d0_2065 : decode (mC M0) 2065 = .ok (.if_icmp .eq 173, 3) := by decide +kernel
theorem d0_2068 : decode (mC M0) 2068 = .ok (.iconst 0, 1) := by decide +kernel
theorem d0_2069 : decode (mC M0) 2069 = .ok (.ireturn, 1) := by decide +kernel
theorem d0_2070 : decode (mC M0) 2070 = .ok (.aload_n 1, 1) := by decide +kernel
theorem d0_2071 : decode (mC M0) 2071 = .ok (.aload_n 0, 1) := by decide +kernel
theorem d0_2072 : decode (mC M0) 2072 = .ok (.iload 4, 2) := by decide +kernel
theorem d0_2074 : decode (mC M0) 2074 = .ok (.iconst 1, 1) := by decide +kernel
theorem d0_2075 : decode (mC M0) 2075 = .ok (.iadd, 1) := by decide +kernel
theorem d0_2076 : decode (mC M0) 2076 = .ok (.iaload, 1) := by decide +kernel
theorem d0_2077 : decode (mC M0) 2077 = .ok (.aload_n 0, 1) := by decide +kernel
theorem d0_2078 : decode (mC M0) 2078 = .ok (.iload 4, 2) := by decide +kernel
theorem d0_2080 : decode (mC M0) 2080 = .ok (.iconst 2, 1) := by decide +kernel
theorem d0_2081 : decode (mC M0) 2081 = .ok (.iadd, 1) := by decide +kernel
theorem d0_2082 : decode (mC M0) 2082 = .ok (.iaload, 1) := by decide +kernel
theorem d0_2083 : decode (mC M0) 2083 = .ok (.aload_n 0, 1) := by decide +kernel
theorem d0_2084 : decode (mC M0) 2084 = .ok (.iload 4, 2) := by decide +kernel
theorem d0_2086 : decode (mC M0) 2086 = .ok (.iconst 3, 1) := by decide +kernel
theorem d0_2087 : decode (mC M0) 2087 = .ok (.iadd, 1) := by decide +kernel
theorem d0_2088 : decode (mC M0) 2088 = .ok (.iaload, 1) := by decide +kernel
theorem d0_2089 : decode (mC M0) 2089 = .ok (.aload_n 0, 1) := by decide +kernel
theorem d0_2090 : decode (mC M0) 2090 = .ok (.iload 4, 2) := by decide +kernel
theorem d0_2092 : decode (mC M0) 2092 = .ok (.iconst 4, 1) := by decide +kernel
theorem d0_2093 : decode (mC M0) 2093 = .ok (.iadd, 1) := by decide +kernel
theorem d0_2094 : decode (mC M0) 2094 = .ok (.iaload, 1) := by decide +kernel
theorem d0_2095 : decode (mC M0) 2095 = .ok (.invokevirtual 194, 3) := by decide +kernel
theorem d0_2098 : decode (mC M0) 2098 = .ok (.aload_n 2, 1) := by decide +kernel
theorem d0_2099 : decode (mC M0) 2099 = .ok (.aload_n 0, 1) := by decide +kernel
theorem d0_2100 : decode (mC M0) 2100 = .ok (.iload 4, 2) := by decide +kernel
theorem d0_2102 : decode (mC M0) 2102 = .ok (.iconst 1, 1) := by decide +kernel
theorem d0_2103 : decode (mC M0) 2103 = .ok (.iadd, 1) := by decide +kernel
theorem d0_2104 : decode (mC M0) 2104 = .ok (.iaload, 1) := by decide +kernel
theorem d0_2105 : decode (mC M0) 2105 = .ok (.aload_n 0, 1) := by decide +kernel
theorem d0_2106 : decode (mC M0) 2106 = .ok (.iload 4, 2) := by decide +kernel
theorem d0_2108 : decode (mC M0) 2108 = .ok (.iconst 2, 1) := by decide +kernel
theorem d0_2109 : decode (mC M0) 2109 = .ok (.iadd, 1) := by decide +kernel
theorem d0_2110 : decode (mC M0) 2110 = .ok (.iaload, 1) := by decide +kernel
theorem d0_2111 : decode (mC M0) 2111 = .ok (.aload_n 0, 1) := by decide +kernel
theorem d0_2112 : decode (mC M0) 2112 = .ok (.iload 4, 2) := by decide +kernel
theorem d0_2114 : decode (mC M0) 2114 = .ok (.iconst 3, 1) := by decide +kernel
theorem d0_2115 : decode (mC M0) 2115 = .ok (.iadd, 1) := by decide +kernel
theorem d0_2116 : decode (mC M0) 2116 = .ok (.iaload, 1) := by decide +kernel
theorem d0_2117 : decode (mC M0) 2117 = .ok (.aload_n 0, 1) := by decide +kernel
theorem d0_2118 : decode (mC M0) 2118 = .ok (.iload 4, 2) := by decide +kernel
theorem d0_2120 : decode (mC M0) 2120 = .ok (.iconst 4, 1) := by decide +kernel
theorem d0_2121 : decode (mC M0) 2121 = .ok (.iadd, 1) := by decide +kernel
theorem d0_2122 : decode (mC M0) 2122 = .ok (.iaload, 1) := by decide +kernel
theorem d0_2123 : decode (mC M0) 2123 = .ok (.invokevirtual 197, 3) := by decide +kernel
theorem d0_2126 : decode (mC M0) 2126 = .ok (.if_icmp .eq 112, 3) := by decide +kernel
theorem d0_2129 : decode (mC M0) 2129 = .ok (.iconst 0, 1) := by decide +kernel
theorem d0_2130 : decode (mC M0) 2130 = .ok (.ireturn, 1) := by decide +kernel
theorem d0_2131 : decode (mC M0) 2131 = .ok (.aload_n 1, 1) := by decide +kernel
theorem d0_2132 : decode (mC M0) 2132 = .ok (.invokevirtual 198, 3) := by decide +kernel
theorem d0_2135 : decode (mC M0) 2135 = .ok (.aload_n 2, 1) := by decide +kernel
theorem d0_2136 : decode (mC M0) 2136 = .ok (.invokevirtual 202, 3) := by decide +kernel
theorem d0_2139 : decode (mC M0) 2139 = .ok (.if_icmp .eq 99, 3) := by decide +kernel
theorem d0_2142 : decode (mC M0) 2142 = .ok (.iconst 0, 1) := by decide +kernel
theorem d0_2143 : decode (mC M0) 2143 = .ok (.ireturn, 1) := by decide +kernel
theorem d0_2144 : decode (mC M0) 2144 = .ok (.aload_n 1, 1) := by decide +kernel
theorem d0_2145 : decode (mC M0) 2145 = .ok (.aload_n 0, 1) := by decide +kernel
theorem d0_2146 : decode (mC M0) 2146 = .ok (.iload 4, 2) := by decide +kernel
theorem d0_2148 : decode (mC M0) 2148 = .ok (.iconst 1, 1) := by decide +kernel
theorem d0_2149 : decode (mC M0) 2149 = .ok (.iadd, 1) := by decide +kernel
theorem d0_2150 : decode (mC M0) 2150 = .ok (.iaload, 1) := by decide +kernel
theorem d0_2151 : decode (mC M0) 2151 = .ok (.aload_n 3, 1) := by decide +kernel
theorem d0_2152 : decode (mC M0) 2152 = .ok (.invokestatic 203, 3) := by decide +kernel
theorem d0_2155 : decode (mC M0) 2155 = .ok (.istore 5, 2) := by decide +kernel
theorem d0_2157 : decode (mC M0) 2157 = .ok (.aload_n 2, 1) := by decide +kernel
theorem d0_2158 : decode (mC M0) 2158 = .ok (.aload_n 0, 1) := by decide +kernel
theorem d0_2159 : decode (mC M0) 2159 = .ok (.iload 4, 2) := by decide +kernel
theorem d0_2161 : decode (mC M0) 2161 = .ok (.iconst 1, 1) := by decide +kernel
theorem d0_2162 : decode (mC M0) 2162 = .ok (.iadd, 1) := by decide +kernel
theorem d0_2163 : decode (mC M0) 2163 = .ok (.iaload, 1) := by decide +kernel
theorem d0_2164 : decode (mC M0) 2164 = .ok (.invokevirtual 208, 3) := by decide +kernel
theorem d0_2167 : decode (mC M0) 2167 = .ok (.istore 6, 2) := by decide +kernel
theorem d0_2169 : decode (mC M0) 2169 = .ok (.aload_n 2, 1) := by decide +kernel
theorem d0_2170 : decode (mC M0) 2170 = .ok (.invokevirtual 209, 3) := by decide +kernel
theorem d0_2173 : decode (mC M0) 2173 = .ok (.iload 5, 2) := by decide +kernel
theorem d0_2175 : decode (mC M0) 2175 = .ok (.if_icmp .eq 5, 3) := by decide +kernel
theorem d0_2178 : decode (mC M0) 2178 = .ok (.iconst 0, 1) := by decide +kernel
theorem d0_2179 : decode (mC M0) 2179 = .ok (.ireturn, 1) := by decide +kernel
theorem d0_2180 : decode (mC M0) 2180 = .ok (.iload 5, 2) := by decide +kernel
theorem d0_2182 : decode (mC M0) 2182 = .ok (.ifCond .ne 15, 3) := by decide +kernel
theorem d0_2185 : decode (mC M0) 2185 = .ok (.aload_n 3, 1) := by decide +kernel
theorem d0_2186 : decode (mC M0) 2186 = .ok (.iconst 0, 1) := by decide +kernel
theorem d0_2187 : decode (mC M0) 2187 = .ok (.laload, 1) := by decide +kernel
theorem d0_2188 : decode (mC M0) 2188 = .ok (.iload 6, 2) := by decide +kernel
theorem d0_2190 : decode (mC M0) 2190 = .ok (.i2l, 1) := by decide +kernel
theorem d0_2191 : decode (mC M0) 2191 = .ok (.lcmp, 1) := by decide +kernel
theorem d0_2192 : decode (mC M0) 2192 = .ok (.ifCond .eq 5, 3) := by decide +kernel
theorem d0_2195 : decode (mC M0) 2195 = .ok (.iconst 0, 1) := by decide +kernel
theorem d0_2196 : decode (mC M0) 2196 = .ok (.ireturn, 1) := by decide +kernel
theorem d0_2197 : decode (mC M0) 2197 = .ok (.goto 41, 3) := by decide +kernel
theorem d0_2200 : decode (mC M0) 2200 = .ok (.aload_n 1, 1) := by decide +kernel
theorem d0_2201 : decode (mC M0) 2201 = .ok (.aload_n 0, 1) := by decide +kernel
theorem d0_2202 : decode (mC M0) 2202 = .ok (.iload 4, 2) := by decide +kernel
theorem d0_2204 : decode (mC M0) 2204 = .ok (.iconst 1, 1) := by decide +kernel
theorem d0_2205 : decode (mC M0) 2205 = .ok (.iadd, 1) := by decide +kernel
theorem d0_2206 : decode (mC M0) 2206 = .ok (.iaload, 1) := by decide +kernel
theorem d0_2207 : decode (mC M0) 2207 = .ok (.invokevirtual 212, 3) := by decide +kernel
theorem d0_2210 : decode (mC M0) 2210 = .ok (.aload_n 2, 1) := by decide +kernel
theorem d0_2211 : decode (mC M0) 2211 = .ok (.aload_n 0, 1) := by decide +kernel
theorem d0_2212 : decode (mC M0) 2212 = .ok (.iload 4, 2) := by decide +kernel
theorem d0_2214 : decode (mC M0) 2214 = .ok (.iconst 1, 1) := by decide +kernel
theorem d0_2215 : decode (mC M0) 2215 = .ok (.iadd, 1) := by decide +kernel
theorem d0_2216 : decode (mC M0) 2216 = .ok (.iaload, 1) := by decide +kernel
theorem d0_2217 : decode (mC M0) 2217 = .ok (.invokevirtual 215, 3) := by decide +kernel
theorem d0_2220 : decode (mC M0) 2220 = .ok (.if_icmp .eq 18, 3) := by decide +kernel
theorem d0_2223 : decode (mC M0) 2223 = .ok (.iconst 0, 1) := by decide +kernel
theorem d0_2224 : decode (mC M0) 2224 = .ok (.ireturn, 1) := by decide +kernel
theorem d0_2225 : decode (mC M0) 2225 = .ok (.aload_n 1, 1) := by decide +kernel
theorem d0_2226 : decode (mC M0) 2226 = .ok (.invokevirtual 216, 3) := by decide +kernel
theorem d0_2229 : decode (mC M0) 2229 = .ok (.aload_n 2, 1) := by decide +kernel
theorem d0_2230 : decode (mC M0) 2230 = .ok (.invokevirtual 219, 3) := by decide +kernel
theorem d0_2233 : decode (mC M0) 2233 = .ok (.if_icmp .eq 5, 3) := by decide +kernel
theorem d0_2236 : decode (mC M0) 2236 = .ok (.iconst 0, 1) := by decide +kernel
theorem d0_2237 : decode (mC M0) 2237 = .ok (.ireturn, 1) := by decide +kernel
theorem d0_2238 : decode (mC M0) 2238 = .ok (.iinc 4 8, 3) := by decide +kernel
theorem d0_2241 : decode (mC M0) 2241 = .ok (.goto (-2218), 3) := by decide +kernel
theorem d0_2244 : decode (mC M0) 2244 = .ok (.iconst 1, 1) := by decide +kernel
theorem d0_2245 : decode (mC M0) 2245 = .ok (.ireturn, 1) := by decide +kernel
theorem sc0_0 : ∀ q ∈ tc0_0, Snd xtb M0 q.1 q.2 := List.forall_mem_cons.mpr ⟨snd_new (by decide) (by decide +kernel) (List.forall_mem_cons.mpr ⟨wd133, List.forall_mem_cons.mpr ⟨wd134, List.forall_mem_cons.mpr ⟨wd112, fun _ h => by cases h⟩⟩⟩) d0_0, List.forall_mem_cons.mpr ⟨snd_dup d0_3, List.forall_mem_cons.mpr ⟨snd_callI (by decide) rfl rfl cn106 ⟨by decide +kernel, by decide +kernel⟩ cm106 (List.forall_mem_cons.mpr ⟨wd135, cw106⟩) d0_4, List.forall_mem_cons.mpr ⟨snd_astore_n d0_7 rfl, List.forall_mem_cons.mpr ⟨snd_new (by decide) (by decide +kernel) (List.forall_mem_cons.mpr ⟨wd1361, List.forall_mem_cons.mpr ⟨wd1362, List.forall_mem_cons.mpr ⟨wd123, fun _ h => by cases h⟩⟩⟩) d0_8, List.forall_mem_cons.mpr ⟨snd_dup d0_11, List.forall_mem_cons.mpr ⟨snd_callI (by decide) rfl rfl cn170 ⟨by decide +kernel, by decide +kernel⟩ cm170 (List.forall_mem_cons.mpr ⟨wd1363, cw170⟩) d0_12, List.forall_mem_cons.mpr ⟨snd_astore_n d0_15 rfl, List.forall_mem_cons.mpr ⟨snd_iconst d0_16 (by decide +kernel), List.forall_mem_cons.mpr ⟨snd_newa (ty := .long) (k := 2) rfl (by decide +kernel) wd228 d0_17, List.forall_mem_cons.mpr ⟨snd_astore_n d0_19 rfl, List.forall_mem_cons.mpr ⟨snd_iconst d0_20 (by decide +kernel), List.forall_mem_cons.mpr ⟨snd_istore d0_21, List.forall_mem_cons.mpr ⟨snd_iload d0_23, List.forall_mem_cons.mpr ⟨snd_aload_n d0_25 rfl, List.forall_mem_cons.mpr ⟨snd_scl rfl d0_26, List.forall_mem_cons.mpr ⟨snd_bipush d0_27 (by decide +kernel), List.forall_mem_cons.mpr ⟨snd_isub d0_29, List.forall_mem_cons.mpr ⟨snd_cmp_gt d0_30 (by decide), List.forall_mem_cons.mpr ⟨snd_aload_n d0_33 rfl, List.forall_mem_cons.mpr ⟨snd_iload d0_34, List.forall_mem_cons.mpr ⟨snd_scr rfl d0_36, List.forall_mem_cons.mpr ⟨snd_bipush d0_37 (by decide +kernel), List.forall_mem_cons.mpr ⟨snd_iand d0_39, List.forall_mem_cons.mpr ⟨snd_tsw d0_40 (by decide +kernel), List.forall_mem_cons.mpr ⟨snd_aload_n d0_244 rfl, List.forall_mem_cons.mpr ⟨snd_aload_n d0_245 rfl, List.forall_mem_cons.mpr ⟨snd_iload d0_246, List.forall_mem_cons.mpr ⟨snd_iconst d0_248 (by decide +kernel), List.forall_mem_cons.mpr ⟨snd_iadd d0_249, fun _ h => by cases h⟩⟩⟩⟩⟩⟩⟩⟩⟩⟩⟩⟩⟩⟩⟩⟩⟩⟩⟩⟩⟩⟩⟩⟩⟩⟩⟩⟩⟩⟩
theorem sc0_1 : ∀ q ∈ tc0_1, Snd xtb M0 q.1 q.2 := List.forall_mem_cons.mpr ⟨snd_scr rfl d0_250, List.forall_mem_cons.mpr ⟨snd_aload_n d0_251 rfl, List.forall_mem_cons.mpr ⟨snd_iload d0_252, List.forall_mem_cons.mpr ⟨snd_iconst d0_254 (by decide +kernel), List.forall_mem_cons.mpr ⟨snd_iadd d0_255, List.forall_mem_cons.mpr ⟨snd_scr rfl d0_256, List.forall_mem_cons.mpr ⟨snd_aload_n d0_257 rfl, List.forall_mem_cons.mpr ⟨snd_iload d0_258, List.forall_mem_cons.mpr ⟨snd_iconst d0_260 (by decide +kernel), List.forall_mem_cons.mpr ⟨snd_iadd d0_261, List.forall_mem_cons.mpr ⟨snd_scr rfl d0_262, List.forall_mem_cons.mpr ⟨snd_aload_n d0_263 rfl, List.forall_mem_cons.mpr ⟨snd_iload d0_264, List.forall_mem_cons.mpr ⟨snd_iconst d0_266 (by decide +kernel), List.forall_mem_cons.mpr ⟨snd_iadd d0_267, List.forall_mem_cons.mpr ⟨snd_scr rfl d0_268, List.forall_mem_cons.mpr ⟨snd_aload_n d0_269 rfl, List.forall_mem_cons.mpr ⟨snd_iload d0_270, List.forall_mem_cons.mpr ⟨snd_iconst d0_272 (by decide +kernel), List.forall_mem_cons.mpr ⟨snd_iadd d0_273, List.forall_mem_cons.mpr ⟨snd_scr rfl d0_274, List.forall_mem_cons.mpr ⟨snd_callV (by decide) rfl cn107 ⟨by decide +kernel, by decide +kernel⟩ cm107 (List.forall_mem_cons.mpr ⟨wd554, cw107⟩) d0_275, List.forall_mem_cons.mpr ⟨snd_aload_n d0_278 rfl, List.forall_mem_cons.mpr ⟨snd_aload_n d0_279 rfl, List.forall_mem_cons.mpr ⟨snd_iload d0_280, List.forall_mem_cons.mpr ⟨snd_iconst d0_282 (by decide +kernel), List.forall_mem_cons.mpr ⟨snd_iadd d0_283, List.forall_mem_cons.mpr ⟨snd_scr rfl d0_284, List.forall_mem_cons.mpr ⟨snd_aload_n d0_285 rfl, List.forall_mem_cons.mpr ⟨snd_iload d0_286, fun _ h => by cases h⟩⟩⟩⟩⟩⟩⟩⟩⟩⟩⟩⟩⟩⟩⟩⟩⟩⟩⟩⟩⟩⟩⟩⟩⟩⟩⟩⟩⟩⟩
theorem sc0_2 : ∀ q ∈ tc0_2, Snd xtb M0 q.1 q.2 := List.forall_mem_cons.mpr ⟨snd_iconst d0_288 (by decide +kernel), List.forall_mem_cons.mpr ⟨snd_iadd d0_289, List.forall_mem_cons.mpr ⟨snd_scr rfl d0_290, List.forall_mem_cons.mpr ⟨snd_aload_n d0_291 rfl, List.forall_mem_cons.mpr ⟨snd_iload d0_292, List.forall_mem_cons.mpr ⟨snd_iconst d0_294 (by decide +kernel), List.forall_mem_cons.mpr ⟨snd_iadd d0_295, List.forall_mem_cons.mpr ⟨snd_scr rfl d0_296, List.forall_mem_cons.mpr ⟨snd_aload_n d0_297 rfl, List.forall_mem_cons.mpr ⟨snd_iload d0_298, List.forall_mem_cons.mpr ⟨snd_iconst d0_300 (by decide +kernel), List.forall_mem_cons.mpr ⟨snd_iadd d0_301, List.forall_mem_cons.mpr ⟨snd_scr rfl d0_302, List.forall_mem_cons.mpr ⟨snd_aload_n d0_303 rfl, List.forall_mem_cons.mpr ⟨snd_iload d0_304, List.forall_mem_cons.mpr ⟨snd_iconst d0_306 (by decide +kernel), List.forall_mem_cons.mpr ⟨snd_iadd d0_307, List.forall_mem_cons.mpr ⟨snd_scr rfl d0_308, List.forall_mem_cons.mpr ⟨snd_callV (by decide) rfl cn208 ⟨by decide +kernel, by decide +kernel⟩ cm208 (List.forall_mem_cons.mpr ⟨wd1468, cw208⟩) d0_309, List.forall_mem_cons.mpr ⟨snd_cmp_eq d0_312 (by decide), List.forall_mem_cons.mpr ⟨snd_iconst d0_315 (by decide +kernel), List.forall_mem_cons.mpr ⟨snd_zret rfl d0_316, List.forall_mem_cons.mpr ⟨snd_aload_n d0_317 rfl, List.forall_mem_cons.mpr ⟨snd_aload_n d0_318 rfl, List.forall_mem_cons.mpr ⟨snd_iload d0_319, List.forall_mem_cons.mpr ⟨snd_iconst d0_321 (by decide +kernel), List.forall_mem_cons.mpr ⟨snd_iadd d0_322, List.forall_mem_cons.mpr ⟨snd_scr rfl d0_323, List.forall_mem_cons.mpr ⟨snd_callV (by decide) rfl cn108 ⟨by decide +kernel, by decide +kernel⟩ cm108 (List.forall_mem_cons.mpr ⟨wd562, cw108⟩) d0_324, List.forall_mem_cons.mpr ⟨snd_aload_n d0_327 rfl, fun _ h => by cases h⟩⟩⟩⟩⟩⟩⟩⟩⟩⟩⟩⟩⟩⟩⟩⟩⟩⟩⟩⟩⟩⟩⟩⟩⟩⟩⟩⟩⟩⟩
theorem sc0_3 : ∀ q ∈ tc0_3, Snd xtb M0 q.1 q.2 := List.forall_mem_cons.mpr ⟨snd_aload_n d0_328 rfl, List.forall_mem_cons.mpr ⟨snd_iload d0_329, List.forall_mem_cons.mpr ⟨snd_iconst d0_331 (by decide +kernel), List.forall_mem_cons.mpr ⟨snd_iadd d0_332, List.forall_mem_cons.mpr ⟨snd_scr rfl d0_333, List.forall_mem_cons.mpr ⟨snd_callV (by decide) rfl cn209 ⟨by decide +kernel, by decide +kernel⟩ cm209 (List.forall_mem_cons.mpr ⟨wd1472, cw209⟩) d0_334, List.forall_mem_cons.mpr ⟨snd_cmp_eq d0_337 (by decide), List.forall_mem_cons.mpr ⟨snd_iconst d0_340 (by decide +kernel), List.forall_mem_cons.mpr ⟨snd_zret rfl d0_341, List.forall_mem_cons.mpr ⟨snd_aload_n d0_342 rfl, List.forall_mem_cons.mpr ⟨snd_callV (by decide) rfl cn109 ⟨by decide +kernel, by decide +kernel⟩ cm109 (List.forall_mem_cons.mpr ⟨wd817, cw109⟩) d0_343, List.forall_mem_cons.mpr ⟨snd_aload_n d0_346 rfl, List.forall_mem_cons.mpr ⟨snd_callV (by decide) rfl cn210 ⟨by decide +kernel, by decide +kernel⟩ cm210 (List.forall_mem_cons.mpr ⟨wd1626, cw210⟩) d0_347, List.forall_mem_cons.mpr ⟨snd_cmp_eq d0_350 (by decide), List.forall_mem_cons.mpr ⟨snd_iconst d0_353 (by decide +kernel), List.forall_mem_cons.mpr ⟨snd_zret rfl d0_354, List.forall_mem_cons.mpr ⟨snd_aload_n d0_355 rfl, List.forall_mem_cons.mpr ⟨snd_callV (by decide) rfl cn110 ⟨by decide +kernel, by decide +kernel⟩ cm110 (List.forall_mem_cons.mpr ⟨wd821, cw110⟩) d0_356, List.forall_mem_cons.mpr ⟨snd_aload_n d0_359 rfl, List.forall_mem_cons.mpr ⟨snd_callV (by decide) rfl cn211 ⟨by decide +kernel, by decide +kernel⟩ cm211 (List.forall_mem_cons.mpr ⟨wd1630, cw211⟩) d0_360, List.forall_mem_cons.mpr ⟨snd_cmp_eq d0_363 (by decide), List.forall_mem_cons.mpr ⟨snd_iconst d0_366 (by decide +kernel), List.forall_mem_cons.mpr ⟨snd_zret rfl d0_367, List.forall_mem_cons.mpr ⟨snd_aload_n d0_368 rfl, List.forall_mem_cons.mpr ⟨snd_aload_n d0_369 rfl, List.forall_mem_cons.mpr ⟨snd_iload d0_370, List.forall_mem_cons.mpr ⟨snd_iconst d0_372 (by decide +kernel), List.forall_mem_cons.mpr ⟨snd_iadd d0_373, List.forall_mem_cons.mpr ⟨snd_scr rfl d0_374, List.forall_mem_cons.mpr ⟨snd_callV (by decide) rfl cn111 ⟨by decide +kernel, by decide +kernel⟩ cm111 (List.forall_mem_cons.mpr ⟨wd825, cw111⟩) d0_375, fun _ h => by cases h⟩⟩⟩⟩⟩⟩⟩⟩⟩⟩⟩⟩⟩⟩⟩⟩⟩⟩⟩⟩⟩⟩⟩⟩⟩⟩⟩⟩⟩⟩
theorem sc0_4 : ∀ q ∈ tc0_4, Snd xtb M0 q.1 q.2 := List.forall_mem_cons.mpr ⟨snd_aload_n d0_378 rfl, List.forall_mem_cons.mpr ⟨snd_aload_n d0_379 rfl, List.forall_mem_cons.mpr ⟨snd_iload d0_380, List.forall_mem_cons.mpr ⟨snd_iconst d0_382 (by decide +kernel), List.forall_mem_cons.mpr ⟨snd_iadd d0_383, List.forall_mem_cons.mpr ⟨snd_scr rfl d0_384, List.forall_mem_cons.mpr ⟨snd_callV (by decide) rfl cn212 ⟨by decide +kernel, by decide +kernel⟩ cm212 (List.forall_mem_cons.mpr ⟨wd1634, cw212⟩) d0_385, List.forall_mem_cons.mpr ⟨snd_cmp_eq d0_388 (by decide), List.forall_mem_cons.mpr ⟨snd_iconst d0_391 (by decide +kernel), List.forall_mem_cons.mpr ⟨snd_zret rfl d0_392, List.forall_mem_cons.mpr ⟨snd_aload_n d0_393 rfl, List.forall_mem_cons.mpr ⟨snd_aload_n d0_394 rfl, List.forall_mem_cons.mpr ⟨snd_iload d0_395, List.forall_mem_cons.mpr ⟨snd_iconst d0_397 (by decide +kernel), List.forall_mem_cons.mpr ⟨snd_iadd d0_398, List.forall_mem_cons.mpr ⟨snd_scr rfl d0_399, List.forall_mem_cons.mpr ⟨snd_callV (by decide) rfl cn112 ⟨by decide +kernel, by decide +kernel⟩ cm112 (List.forall_mem_cons.mpr ⟨wd833, cw112⟩) d0_400, List.forall_mem_cons.mpr ⟨snd_aload_n d0_403 rfl, List.forall_mem_cons.mpr ⟨snd_aload_n d0_404 rfl, List.forall_mem_cons.mpr ⟨snd_iload d0_405, List.forall_mem_cons.mpr ⟨snd_iconst d0_407 (by decide +kernel), List.forall_mem_cons.mpr ⟨snd_iadd d0_408, List.forall_mem_cons.mpr ⟨snd_scr rfl d0_409, List.forall_mem_cons.mpr ⟨snd_callV (by decide) rfl cn215 ⟨by decide +kernel, by decide +kernel⟩ cm215 (List.forall_mem_cons.mpr ⟨wd1638, cw215⟩) d0_410, List.forall_mem_cons.mpr ⟨snd_cmp_eq d0_413 (by decide), List.forall_mem_cons.mpr ⟨snd_iconst d0_416 (by decide +kernel), List.forall_mem_cons.mpr ⟨snd_zret rfl d0_417, List.forall_mem_cons.mpr ⟨snd_aload_n d0_418 rfl, List.forall_mem_cons.mpr ⟨snd_aload_n d0_419 rfl, List.forall_mem_cons.mpr ⟨snd_iload d0_420, fun _ h => by cases h⟩⟩⟩⟩⟩⟩⟩⟩⟩⟩⟩⟩⟩⟩⟩⟩⟩⟩⟩⟩⟩⟩⟩⟩⟩⟩⟩⟩⟩⟩
theorem sc0_5 : ∀ q ∈ tc0_5, Snd xtb M0 q.1 q.2 := List.forall_mem_cons.mpr ⟨snd_iconst d0_422 (by decide +kernel), List.forall_mem_cons.mpr ⟨snd_iadd d0_423, List.forall_mem_cons.mpr ⟨snd_scr rfl d0_424, List.forall_mem_cons.mpr ⟨snd_aload_n d0_425 rfl, List.forall_mem_cons.mpr ⟨snd_iload d0_426, List.forall_mem_cons.mpr ⟨snd_iconst d0_428 (by decide +kernel), List.forall_mem_cons.mpr ⟨snd_iadd d0_429, List.forall_mem_cons.mpr ⟨snd_scr rfl d0_430, List.forall_mem_cons.mpr ⟨snd_callV (by decide) rfl cn113 ⟨by decide +kernel, by decide +kernel⟩ cm113 (List.forall_mem_cons.mpr ⟨wd841, cw113⟩) d0_431, List.forall_mem_cons.mpr ⟨snd_aload_n d0_434 rfl, List.forall_mem_cons.mpr ⟨snd_aload_n d0_435 rfl, List.forall_mem_cons.mpr ⟨snd_iload d0_436, List.forall_mem_cons.mpr ⟨snd_iconst d0_438 (by decide +kernel), List.forall_mem_cons.mpr ⟨snd_iadd d0_439, List.forall_mem_cons.mpr ⟨snd_scr rfl d0_440, List.forall_mem_cons.mpr ⟨snd_aload_n d0_441 rfl, List.forall_mem_cons.mpr ⟨snd_iload d0_442, List.forall_mem_cons.mpr ⟨snd_iconst d0_444 (by decide +kernel), List.forall_mem_cons.mpr ⟨snd_iadd d0_445, List.forall_mem_cons.mpr ⟨snd_scr rfl d0_446, List.forall_mem_cons.mpr ⟨snd_callV (by decide) rfl cn216 ⟨by decide +kernel, by decide +kernel⟩ cm216 (List.forall_mem_cons.mpr ⟨wd1646, cw216⟩) d0_447, List.forall_mem_cons.mpr ⟨snd_cmp_eq d0_450 (by decide), List.forall_mem_cons.mpr ⟨snd_iconst d0_453 (by decide +kernel), List.forall_mem_cons.mpr ⟨snd_zret rfl d0_454, List.forall_mem_cons.mpr ⟨snd_aload_n d0_455 rfl, List.forall_mem_cons.mpr ⟨snd_aload_n d0_456 rfl, List.forall_mem_cons.mpr ⟨snd_iload d0_457, List.forall_mem_cons.mpr ⟨snd_iconst d0_459 (by decide +kernel), List.forall_mem_cons.mpr ⟨snd_iadd d0_460, List.forall_mem_cons.mpr ⟨snd_scr rfl d0_461, fun _ h => by cases h⟩⟩⟩⟩⟩⟩⟩⟩⟩⟩⟩⟩⟩⟩⟩⟩⟩⟩⟩⟩⟩⟩⟩⟩⟩⟩⟩⟩⟩⟩
theorem sc0_6 : ∀ q ∈ tc0_6, Snd xtb M0 q.1 q.2 := List.forall_mem_cons.mpr ⟨snd_aload_n d0_462 rfl, List.forall_mem_cons.mpr ⟨snd_iload d0_463, List.forall_mem_cons.mpr ⟨snd_iconst d0_465 (by decide +kernel), List.forall_mem_cons.mpr ⟨snd_iadd d0_466, List.forall_mem_cons.mpr ⟨snd_scr rfl d0_467, List.forall_mem_cons.mpr ⟨snd_callV (by decide) rfl cn114 ⟨by decide +kernel, by decide +kernel⟩ cm114 (List.forall_mem_cons.mpr ⟨wd857, cw114⟩) d0_468, List.forall_mem_cons.mpr ⟨snd_aload_n d0_471 rfl, List.forall_mem_cons.mpr ⟨snd_aload_n d0_472 rfl, List.forall_mem_cons.mpr ⟨snd_iload d0_473, List.forall_mem_cons.mpr ⟨snd_iconst d0_475 (by decide +kernel), List.forall_mem_cons.mpr ⟨snd_iadd d0_476, List.forall_mem_cons.mpr ⟨snd_scr rfl d0_477, List.forall_mem_cons.mpr ⟨snd_aload_n d0_478 rfl, List.forall_mem_cons.mpr ⟨snd_iload d0_479, List.forall_mem_cons.mpr ⟨snd_iconst d0_481 (by decide +kernel), List.forall_mem_cons.mpr ⟨snd_iadd d0_482, List.forall_mem_cons.mpr ⟨snd_scr rfl d0_483, List.forall_mem_cons.mpr ⟨snd_callV (by decide) rfl cn226 ⟨by decide +kernel, by decide +kernel⟩ cm226 (List.forall_mem_cons.mpr ⟨wd1658, cw226⟩) d0_484, List.forall_mem_cons.mpr ⟨snd_cmp_eq d0_487 (by decide), List.forall_mem_cons.mpr ⟨snd_iconst d0_490 (by decide +kernel), List.forall_mem_cons.mpr ⟨snd_zret rfl d0_491, List.forall_mem_cons.mpr ⟨snd_aload_n d0_492 rfl, List.forall_mem_cons.mpr ⟨snd_aload_n d0_493 rfl, List.forall_mem_cons.mpr ⟨snd_iload d0_494, List.forall_mem_cons.mpr ⟨snd_iconst d0_496 (by decide +kernel), List.forall_mem_cons.mpr ⟨snd_iadd d0_497, List.forall_mem_cons.mpr ⟨snd_scr rfl d0_498, List.forall_mem_cons.mpr ⟨snd_aload_n d0_499 rfl, List.forall_mem_cons.mpr ⟨snd_iload d0_500, List.forall_mem_cons.mpr ⟨snd_iconst d0_502 (by decide +kernel), fun _ h => by cases h⟩⟩⟩⟩⟩⟩⟩⟩⟩⟩⟩⟩⟩⟩⟩⟩⟩⟩⟩⟩⟩⟩⟩⟩⟩⟩⟩⟩⟩⟩
theorem sc0_7 : ∀ q ∈ tc0_7, Snd xtb M0 q.1 q.2 := List.forall_mem_cons.mpr ⟨snd_iadd d0_503, List.forall_mem_cons.mpr ⟨snd_scr rfl d0_504, List.forall_mem_cons.mpr ⟨snd_aload_n d0_505 rfl, List.forall_mem_cons.mpr ⟨snd_iload d0_506, List.forall_mem_cons.mpr ⟨snd_iconst d0_508 (by decide +kernel), List.forall_mem_cons.mpr ⟨snd_iadd d0_509, List.forall_mem_cons.mpr ⟨snd_scr rfl d0_510, List.forall_mem_cons.mpr ⟨snd_aload_n d0_511 rfl, List.forall_mem_cons.mpr ⟨snd_iload d0_512, List.forall_mem_cons.mpr ⟨snd_iconst d0_514 (by decide +kernel), List.forall_mem_cons.mpr ⟨snd_iadd d0_515, List.forall_mem_cons.mpr ⟨snd_scr rfl d0_516, List.forall_mem_cons.mpr ⟨snd_callV (by decide) rfl cn115 ⟨by decide +kernel, by decide +kernel⟩ cm115 (List.forall_mem_cons.mpr ⟨wd868, cw115⟩) d0_517, List.forall_mem_cons.mpr ⟨snd_aload_n d0_520 rfl, List.forall_mem_cons.mpr ⟨snd_aload_n d0_521 rfl, List.forall_mem_cons.mpr ⟨snd_iload d0_522, List.forall_mem_cons.mpr ⟨snd_iconst d0_524 (by decide +kernel), List.forall_mem_cons.mpr ⟨snd_iadd d0_525, List.forall_mem_cons.mpr ⟨snd_scr rfl d0_526, List.forall_mem_cons.mpr ⟨snd_aload_n d0_527 rfl, List.forall_mem_cons.mpr ⟨snd_iload d0_528, List.forall_mem_cons.mpr ⟨snd_iconst d0_530 (by decide +kernel), List.forall_mem_cons.mpr ⟨snd_iadd d0_531, List.forall_mem_cons.mpr ⟨snd_scr rfl d0_532, List.forall_mem_cons.mpr ⟨snd_aload_n d0_533 rfl, List.forall_mem_cons.mpr ⟨snd_iload d0_534, List.forall_mem_cons.mpr ⟨snd_iconst d0_536 (by decide +kernel), List.forall_mem_cons.mpr ⟨snd_iadd d0_537, List.forall_mem_cons.mpr ⟨snd_scr rfl d0_538, List.forall_mem_cons.mpr ⟨snd_aload_n d0_539 rfl, fun _ h => by cases h⟩⟩⟩⟩⟩⟩⟩⟩⟩⟩⟩⟩⟩⟩⟩⟩⟩⟩⟩⟩⟩⟩⟩⟩⟩⟩⟩⟩⟩⟩
theorem sc0_8 : ∀ q ∈ tc0_8, Snd xtb M0 q.1 q.2 := List.forall_mem_cons.mpr ⟨snd_iload d0_540, List.forall_mem_cons.mpr ⟨snd_iconst d0_542 (by decide +kernel), List.forall_mem_cons.mpr ⟨snd_iadd d0_543, List.forall_mem_cons.mpr ⟨snd_scr rfl d0_544, List.forall_mem_cons.mpr ⟨snd_callV (by decide) rfl cn227 ⟨by decide +kernel, by decide +kernel⟩ cm227 (List.forall_mem_cons.mpr ⟨wd1677, cw227⟩) d0_545, List.forall_mem_cons.mpr ⟨snd_cmp_eq d0_548 (by decide), List.forall_mem_cons.mpr ⟨snd_iconst d0_551 (by decide +kernel), List.forall_mem_cons.mpr ⟨snd_zret rfl d0_552, List.forall_mem_cons.mpr ⟨snd_aload_n d0_553 rfl, List.forall_mem_cons.mpr ⟨snd_aload_n d0_554 rfl, List.forall_mem_cons.mpr ⟨snd_iload d0_555, List.forall_mem_cons.mpr ⟨snd_iconst d0_557 (by decide +kernel), List.forall_mem_cons.mpr ⟨snd_iadd d0_558, List.forall_mem_cons.mpr ⟨snd_scr rfl d0_559, List.forall_mem_cons.mpr ⟨snd_aload_n d0_560 rfl, List.forall_mem_cons.mpr ⟨snd_iload d0_561, List.forall_mem_cons.mpr ⟨snd_iconst d0_563 (by decide +kernel), List.forall_mem_cons.mpr ⟨snd_iadd d0_564, List.forall_mem_cons.mpr ⟨snd_scr rfl d0_565, List.forall_mem_cons.mpr ⟨snd_callV (by decide) rfl cn116 ⟨by decide +kernel, by decide +kernel⟩ cm116 (List.forall_mem_cons.mpr ⟨wd873, cw116⟩) d0_566, List.forall_mem_cons.mpr ⟨snd_aload_n d0_569 rfl, List.forall_mem_cons.mpr ⟨snd_aload_n d0_570 rfl, List.forall_mem_cons.mpr ⟨snd_iload d0_571, List.forall_mem_cons.mpr ⟨snd_iconst d0_573 (by decide +kernel), List.forall_mem_cons.mpr ⟨snd_iadd d0_574, List.forall_mem_cons.mpr ⟨snd_scr rfl d0_575, List.forall_mem_cons.mpr ⟨snd_aload_n d0_576 rfl, List.forall_mem_cons.mpr ⟨snd_iload d0_577, List.forall_mem_cons.mpr ⟨snd_iconst d0_579 (by decide +kernel), List.forall_mem_cons.mpr ⟨snd_iadd d0_580, fun _ h => by cases h⟩⟩⟩⟩⟩⟩⟩⟩⟩⟩⟩⟩⟩⟩⟩⟩⟩⟩⟩⟩⟩⟩⟩⟩⟩⟩⟩⟩⟩⟩
theorem sc0_9 : ∀ q ∈ tc0_9, Snd xtb M0 q.1 q.2 := List.forall_mem_cons.mpr ⟨snd_scr rfl d0_581, List.forall_mem_cons.mpr ⟨snd_callV (by decide) rfl cn228 ⟨by decide +kernel, by decide +kernel⟩ cm228 (List.forall_mem_cons.mpr ⟨wd1689, cw228⟩) d0_582, List.forall_mem_cons.mpr ⟨snd_cmp_eq d0_585 (by decide), List.forall_mem_cons.mpr ⟨snd_iconst d0_588 (by decide +kernel), List.forall_mem_cons.mpr ⟨snd_zret rfl d0_589, List.forall_mem_cons.mpr ⟨snd_aload_n d0_590 rfl, List.forall_mem_cons.mpr ⟨snd_aload_n d0_591 rfl, List.forall_mem_cons.mpr ⟨snd_iload d0_592, List.forall_mem_cons.mpr ⟨snd_iconst d0_594 (by decide +kernel), List.forall_mem_cons.mpr ⟨snd_iadd d0_595, List.forall_mem_cons.mpr ⟨snd_scr rfl d0_596, List.forall_mem_cons.mpr ⟨snd_aload_n d0_597 rfl, List.forall_mem_cons.mpr ⟨snd_iload d0_598, List.forall_mem_cons.mpr ⟨snd_iconst d0_600 (by decide +kernel), List.forall_mem_cons.mpr ⟨snd_iadd d0_601, List.forall_mem_cons.mpr ⟨snd_scr rfl d0_602, List.forall_mem_cons.mpr ⟨snd_aload_n d0_603 rfl, List.forall_mem_cons.mpr ⟨snd_iload d0_604, List.forall_mem_cons.mpr ⟨snd_iconst d0_606 (by decide +kernel), List.forall_mem_cons.mpr ⟨snd_iadd d0_607, List.forall_mem_cons.mpr ⟨snd_scr rfl d0_608, List.forall_mem_cons.mpr ⟨snd_aload_n d0_609 rfl, List.forall_mem_cons.mpr ⟨snd_iload d0_610, List.forall_mem_cons.mpr ⟨snd_iconst d0_612 (by decide +kernel), List.forall_mem_cons.mpr ⟨snd_iadd d0_613, List.forall_mem_cons.mpr ⟨snd_scr rfl d0_614, List.forall_mem_cons.mpr ⟨snd_callV (by decide) rfl cn117 ⟨by decide +kernel, by decide +kernel⟩ cm117 (List.forall_mem_cons.mpr ⟨wd886, cw117⟩) d0_615, List.forall_mem_cons.mpr ⟨snd_aload_n d0_618 rfl, List.forall_mem_cons.mpr ⟨snd_aload_n d0_619 rfl, List.forall_mem_cons.mpr ⟨snd_iload d0_620, fun _ h => by cases h⟩⟩⟩⟩⟩⟩⟩⟩⟩⟩⟩⟩⟩⟩⟩⟩⟩⟩⟩⟩⟩⟩⟩⟩⟩⟩⟩⟩⟩⟩
theorem sc0_10 : ∀ q ∈ tc0_10, Snd xtb M0 q.1 q.2 := List.forall_mem_cons.mpr ⟨snd_iconst d0_622 (by decide +kernel), List.forall_mem_cons.mpr ⟨snd_iadd d0_623, List.forall_mem_cons.mpr ⟨snd_scr rfl d0_624, List.forall_mem_cons.mpr ⟨snd_aload_n d0_625 rfl, List.forall_mem_cons.mpr ⟨snd_iload d0_626, List.forall_mem_cons.mpr ⟨snd_iconst d0_628 (by decide +kernel), List.forall_mem_cons.mpr ⟨snd_iadd d0_629, List.forall_mem_cons.mpr ⟨snd_scr rfl d0_630, List.forall_mem_cons.mpr ⟨snd_aload_n d0_631 rfl, List.forall_mem_cons.mpr ⟨snd_iload d0_632, List.forall_mem_cons.mpr ⟨snd_iconst d0_634 (by decide +kernel), List.forall_mem_cons.mpr ⟨snd_iadd d0_635, List.forall_mem_cons.mpr ⟨snd_scr rfl d0_636, List.forall_mem_cons.mpr ⟨snd_aload_n d0_637 rfl, List.forall_mem_cons.mpr ⟨snd_iload d0_638, List.forall_mem_cons.mpr ⟨snd_iconst d0_640 (by decide +kernel), List.forall_mem_cons.mpr ⟨snd_iadd d0_641, List.forall_mem_cons.mpr ⟨snd_scr rfl d0_642, List.forall_mem_cons.mpr ⟨snd_callV (by decide) rfl cn231 ⟨by decide +kernel, by decide +kernel⟩ cm231 (List.forall_mem_cons.mpr ⟨wd1698, cw231⟩) d0_643, List.forall_mem_cons.mpr ⟨snd_cmp_eq d0_646 (by decide), List.forall_mem_cons.mpr ⟨snd_iconst d0_649 (by decide +kernel), List.forall_mem_cons.mpr ⟨snd_zret rfl d0_650, List.forall_mem_cons.mpr ⟨snd_aload_n d0_651 rfl, List.forall_mem_cons.mpr ⟨snd_aload_n d0_652 rfl, List.forall_mem_cons.mpr ⟨snd_iload d0_653, List.forall_mem_cons.mpr ⟨snd_iconst d0_655 (by decide +kernel), List.forall_mem_cons.mpr ⟨snd_iadd d0_656, List.forall_mem_cons.mpr ⟨snd_scr rfl d0_657, List.forall_mem_cons.mpr ⟨snd_aload_n d0_658 rfl, List.forall_mem_cons.mpr ⟨snd_iload d0_659, fun _ h => by cases h⟩⟩⟩⟩⟩⟩⟩⟩⟩⟩⟩⟩⟩⟩⟩⟩⟩⟩⟩⟩⟩⟩⟩⟩⟩⟩⟩⟩⟩⟩
theorem sc0_11 : ∀ q ∈ tc0_11, Snd xtb M0 q.1 q.2 := List.forall_mem_cons.mpr ⟨snd_iconst d0_661 (by decide +kernel), List.forall_mem_cons.mpr ⟨snd_iadd d0_662, List.forall_mem_cons.mpr ⟨snd_scr rfl d0_663, List.forall_mem_cons.mpr ⟨snd_aload_n d0_664 rfl, List.forall_mem_cons.mpr ⟨snd_iload d0_665, List.forall_mem_cons.mpr ⟨snd_iconst d0_667 (by decide +kernel), List.forall_mem_cons.mpr ⟨snd_iadd d0_668, List.forall_mem_cons.mpr ⟨snd_scr rfl d0_669, List.forall_mem_cons.mpr ⟨snd_aload_n d0_670 rfl, List.forall_mem_cons.mpr ⟨snd_iload d0_671, List.forall_mem_cons.mpr ⟨snd_iconst d0_673 (by decide +kernel), List.forall_mem_cons.mpr ⟨snd_iadd d0_674, List.forall_mem_cons.mpr ⟨snd_scr rfl d0_675, List.forall_mem_cons.mpr ⟨snd_callV (by decide) rfl cn118 ⟨by decide +kernel, by decide +kernel⟩ cm118 (List.forall_mem_cons.mpr ⟨wd902, cw118⟩) d0_676, List.forall_mem_cons.mpr ⟨snd_aload_n d0_679 rfl, List.forall_mem_cons.mpr ⟨snd_aload_n d0_680 rfl, List.forall_mem_cons.mpr ⟨snd_iload d0_681, List.forall_mem_cons.mpr ⟨snd_iconst d0_683 (by decide +kernel), List.forall_mem_cons.mpr ⟨snd_iadd d0_684, List.forall_mem_cons.mpr ⟨snd_scr rfl d0_685, List.forall_mem_cons.mpr ⟨snd_aload_n d0_686 rfl, List.forall_mem_cons.mpr ⟨snd_iload d0_687, List.forall_mem_cons.mpr ⟨snd_iconst d0_689 (by decide +kernel), List.forall_mem_cons.mpr ⟨snd_iadd d0_690, List.forall_mem_cons.mpr ⟨snd_scr rfl d0_691, List.forall_mem_cons.mpr ⟨snd_aload_n d0_692 rfl, List.forall_mem_cons.mpr ⟨snd_iload d0_693, List.forall_mem_cons.mpr ⟨snd_iconst d0_695 (by decide +kernel), List.forall_mem_cons.mpr ⟨snd_iadd d0_696, List.forall_mem_cons.mpr ⟨snd_scr rfl d0_697, fun _ h => by cases h⟩⟩⟩⟩⟩⟩⟩⟩⟩⟩⟩⟩⟩⟩⟩⟩⟩⟩⟩⟩⟩⟩⟩⟩⟩⟩⟩⟩⟩⟩
theorem sc0_12 : ∀ q ∈ tc0_12, Snd xtb M0 q.1 q.2 := List.forall_mem_cons.mpr ⟨snd_aload_n d0_698 rfl, List.forall_mem_cons.mpr ⟨snd_iload d0_699, List.forall_mem_cons.mpr ⟨snd_iconst d0_701 (by decide +kernel), List.forall_mem_cons.mpr ⟨snd_iadd d0_702, List.forall_mem_cons.mpr ⟨snd_scr rfl d0_703, List.forall_mem_cons.mpr ⟨snd_callV (by decide) rfl cn233 ⟨by decide +kernel, by decide +kernel⟩ cm233 (List.forall_mem_cons.mpr ⟨wd1718, cw233⟩) d0_704, List.forall_mem_cons.mpr ⟨snd_cmp_eq d0_707 (by decide), List.forall_mem_cons.mpr ⟨snd_iconst d0_710 (by decide +kernel), List.forall_mem_cons.mpr ⟨snd_zret rfl d0_711, List.forall_mem_cons.mpr ⟨snd_aload_n d0_712 rfl, List.forall_mem_cons.mpr ⟨snd_aload_n d0_713 rfl, List.forall_mem_cons.mpr ⟨snd_iload d0_714, List.forall_mem_cons.mpr ⟨snd_iconst d0_716 (by decide +kernel), List.forall_mem_cons.mpr ⟨snd_iadd d0_717, List.forall_mem_cons.mpr ⟨snd_scr rfl d0_718, List.forall_mem_cons.mpr ⟨snd_aload_n d0_719 rfl, List.forall_mem_cons.mpr ⟨snd_iload d0_720, List.forall_mem_cons.mpr ⟨snd_iconst d0_722 (by decide +kernel), List.forall_mem_cons.mpr ⟨snd_iadd d0_723, List.forall_mem_cons.mpr ⟨snd_scr rfl d0_724, List.forall_mem_cons.mpr ⟨snd_callV (by decide) rfl cn119 ⟨by decide +kernel, by decide +kernel⟩ cm119 (List.forall_mem_cons.mpr ⟨wd921, cw119⟩) d0_725, List.forall_mem_cons.mpr ⟨snd_aload_n d0_728 rfl, List.forall_mem_cons.mpr ⟨snd_aload_n d0_729 rfl, List.forall_mem_cons.mpr ⟨snd_iload d0_730, List.forall_mem_cons.mpr ⟨snd_iconst d0_732 (by decide +kernel), List.forall_mem_cons.mpr ⟨snd_iadd d0_733, List.forall_mem_cons.mpr ⟨snd_scr rfl d0_734, List.forall_mem_cons.mpr ⟨snd_aload_n d0_735 rfl, List.forall_mem_cons.mpr ⟨snd_iload d0_736, List.forall_mem_cons.mpr ⟨snd_iconst d0_738 (by decide +kernel), fun _ h => by cases h⟩⟩⟩⟩⟩⟩⟩⟩⟩⟩⟩⟩⟩⟩⟩⟩⟩⟩⟩⟩⟩⟩⟩⟩⟩⟩⟩⟩⟩⟩
theorem sc0_13 : ∀ q ∈ tc0_13, Snd xtb M0 q.1 q.2 := List.forall_mem_cons.mpr ⟨snd_iadd d0_739, List.forall_mem_cons.mpr ⟨snd_scr rfl d0_740, List.forall_mem_cons.mpr ⟨snd_callV (by decide) rfl cn234 ⟨by decide +kernel, by decide +kernel⟩ cm234 (List.forall_mem_cons.mpr ⟨wd1725, cw234⟩) d0_741, List.forall_mem_cons.mpr ⟨snd_cmp_eq d0_744 (by decide), List.forall_mem_cons.mpr ⟨snd_iconst d0_747 (by decide +kernel), List.forall_mem_cons.mpr ⟨snd_zret rfl d0_748, List.forall_mem_cons.mpr ⟨snd_aload_n d0_749 rfl, List.forall_mem_cons.mpr ⟨snd_aload_n d0_750 rfl, List.forall_mem_cons.mpr ⟨snd_iload d0_751, List.forall_mem_cons.mpr ⟨snd_iconst d0_753 (by decide +kernel), List.forall_mem_cons.mpr ⟨snd_iadd d0_754, List.forall_mem_cons.mpr ⟨snd_scr rfl d0_755, List.forall_mem_cons.mpr ⟨snd_aload_n d0_756 rfl, List.forall_mem_cons.mpr ⟨snd_iload d0_757, List.forall_mem_cons.mpr ⟨snd_iconst d0_759 (by decide +kernel), List.forall_mem_cons.mpr ⟨snd_iadd d0_760, List.forall_mem_cons.mpr ⟨snd_scr rfl d0_761, List.forall_mem_cons.mpr ⟨snd_aload_n d0_762 rfl, List.forall_mem_cons.mpr ⟨snd_iload d0_763, List.forall_mem_cons.mpr ⟨snd_iconst d0_765 (by decide +kernel), List.forall_mem_cons.mpr ⟨snd_iadd d0_766, List.forall_mem_cons.mpr ⟨snd_scr rfl d0_767, List.forall_mem_cons.mpr ⟨snd_aload_n d0_768 rfl, List.forall_mem_cons.mpr ⟨snd_iload d0_769, List.forall_mem_cons.mpr ⟨snd_iconst d0_771 (by decide +kernel), List.forall_mem_cons.mpr ⟨snd_iadd d0_772, List.forall_mem_cons.mpr ⟨snd_scr rfl d0_773, List.forall_mem_cons.mpr ⟨snd_callV (by decide) rfl cn120 ⟨by decide +kernel, by decide +kernel⟩ cm120 (List.forall_mem_cons.mpr ⟨wd929, cw120⟩) d0_774, List.forall_mem_cons.mpr ⟨snd_aload_n d0_777 rfl, List.forall_mem_cons.mpr ⟨snd_aload_n d0_778 rfl, fun _ h => by cases h⟩⟩⟩⟩⟩⟩⟩⟩⟩⟩⟩⟩⟩⟩⟩⟩⟩⟩⟩⟩⟩⟩⟩⟩⟩⟩⟩⟩⟩⟩
theorem sc0_14 : ∀ q ∈ tc0_14, Snd xtb M0 q.1 q.2 := List.forall_mem_cons.mpr ⟨snd_iload d0_779, List.forall_mem_cons.mpr ⟨snd_iconst d0_781 (by decide +kernel), List.forall_mem_cons.mpr ⟨snd_iadd d0_782, List.forall_mem_cons.mpr ⟨snd_scr rfl d0_783, List.forall_mem_cons.mpr ⟨snd_aload_n d0_784 rfl, List.forall_mem_cons.mpr ⟨snd_iload d0_785, List.forall_mem_cons.mpr ⟨snd_iconst d0_787 (by decide +kernel), List.forall_mem_cons.mpr ⟨snd_iadd d0_788, List.forall_mem_cons.mpr ⟨snd_scr rfl d0_789, List.forall_mem_cons.mpr ⟨snd_aload_n d0_790 rfl, List.forall_mem_cons.mpr ⟨snd_iload d0_791, List.forall_mem_cons.mpr ⟨snd_iconst d0_793 (by decide +kernel), List.forall_mem_cons.mpr ⟨snd_iadd d0_794, List.forall_mem_cons.mpr ⟨snd_scr rfl d0_795, List.forall_mem_cons.mpr ⟨snd_aload_n d0_796 rfl, List.forall_mem_cons.mpr ⟨snd_iload d0_797, List.forall_mem_cons.mpr ⟨snd_iconst d0_799 (by decide +kernel), List.forall_mem_cons.mpr ⟨snd_iadd d0_800, List.forall_mem_cons.mpr ⟨snd_scr rfl d0_801, List.forall_mem_cons.mpr ⟨snd_callV (by decide) rfl cn237 ⟨by decide +kernel, by decide +kernel⟩ cm237 (List.forall_mem_cons.mpr ⟨wd1729, cw237⟩) d0_802, List.forall_mem_cons.mpr ⟨snd_cmp_eq d0_805 (by decide), List.forall_mem_cons.mpr ⟨snd_iconst d0_808 (by decide +kernel), List.forall_mem_cons.mpr ⟨snd_zret rfl d0_809, List.forall_mem_cons.mpr ⟨snd_aload_n d0_810 rfl, List.forall_mem_cons.mpr ⟨snd_aload_n d0_811 rfl, List.forall_mem_cons.mpr ⟨snd_iload d0_812, List.forall_mem_cons.mpr ⟨snd_iconst d0_814 (by decide +kernel), List.forall_mem_cons.mpr ⟨snd_iadd d0_815, List.forall_mem_cons.mpr ⟨snd_scr rfl d0_816, List.forall_mem_cons.mpr ⟨snd_aload_n d0_817 rfl, fun _ h => by cases h⟩⟩⟩⟩⟩⟩⟩⟩⟩⟩⟩⟩⟩⟩⟩⟩⟩⟩⟩⟩⟩⟩⟩⟩⟩⟩⟩⟩⟩⟩
theorem sc0_15 : ∀ q ∈ tc0_15, Snd xtb M0 q.1 q.2 := List.forall_mem_cons.mpr ⟨snd_iload d0_818, List.forall_mem_cons.mpr ⟨snd_iconst d0_820 (by decide +kernel), List.forall_mem_cons.mpr ⟨snd_iadd d0_821, List.forall_mem_cons.mpr ⟨snd_scr rfl d0_822, List.forall_mem_cons.mpr ⟨snd_aload_n d0_823 rfl, List.forall_mem_cons.mpr ⟨snd_iload d0_824, List.forall_mem_cons.mpr ⟨snd_iconst d0_826 (by decide +kernel), List.forall_mem_cons.mpr ⟨snd_iadd d0_827, List.forall_mem_cons.mpr ⟨snd_scr rfl d0_828, List.forall_mem_cons.mpr ⟨snd_callV (by decide) rfl cn121 ⟨by decide +kernel, by decide +kernel⟩ cm121 (List.forall_mem_cons.mpr ⟨wd943, cw121⟩) d0_829, List.forall_mem_cons.mpr ⟨snd_aload_n d0_832 rfl, List.forall_mem_cons.mpr ⟨snd_aload_n d0_833 rfl, List.forall_mem_cons.mpr ⟨snd_iload d0_834, List.forall_mem_cons.mpr ⟨snd_iconst d0_836 (by decide +kernel), List.forall_mem_cons.mpr ⟨snd_iadd d0_837, List.forall_mem_cons.mpr ⟨snd_scr rfl d0_838, List.forall_mem_cons.mpr ⟨snd_aload_n d0_839 rfl, List.forall_mem_cons.mpr ⟨snd_iload d0_840, List.forall_mem_cons.mpr ⟨snd_iconst d0_842 (by decide +kernel), List.forall_mem_cons.mpr ⟨snd_iadd d0_843, List.forall_mem_cons.mpr ⟨snd_scr rfl d0_844, List.forall_mem_cons.mpr ⟨snd_aload_n d0_845 rfl, List.forall_mem_cons.mpr ⟨snd_iload d0_846, List.forall_mem_cons.mpr ⟨snd_iconst d0_848 (by decide +kernel), List.forall_mem_cons.mpr ⟨snd_iadd d0_849, List.forall_mem_cons.mpr ⟨snd_scr rfl d0_850, List.forall_mem_cons.mpr ⟨snd_callV (by decide) rfl cn238 ⟨by decide +kernel, by decide +kernel⟩ cm238 (List.forall_mem_cons.mpr ⟨wd1737, cw238⟩) d0_851, List.forall_mem_cons.mpr ⟨snd_cmp_eq d0_854 (by decide), List.forall_mem_cons.mpr ⟨snd_iconst d0_857 (by decide +kernel), List.forall_mem_cons.mpr ⟨snd_zret rfl d0_858, fun _ h => by cases h⟩⟩⟩⟩⟩⟩⟩⟩⟩⟩⟩⟩⟩⟩⟩⟩⟩⟩⟩⟩⟩⟩⟩⟩⟩⟩⟩⟩⟩⟩
theorem sc0_16 : ∀ q ∈ tc0_16, Snd xtb M0 q.1 q.2 := List.forall_mem_cons.mpr ⟨snd_aload_n d0_859 rfl, List.forall_mem_cons.mpr ⟨snd_aload_n d0_860 rfl, List.forall_mem_cons.mpr ⟨snd_iload d0_861, List.forall_mem_cons.mpr ⟨snd_iconst d0_863 (by decide +kernel), List.forall_mem_cons.mpr ⟨snd_iadd d0_864, List.forall_mem_cons.mpr ⟨snd_scr rfl d0_865, List.forall_mem_cons.mpr ⟨snd_aload_n d0_866 rfl, List.forall_mem_cons.mpr ⟨snd_iload d0_867, List.forall_mem_cons.mpr ⟨snd_iconst d0_869 (by decide +kernel), List.forall_mem_cons.mpr ⟨snd_iadd d0_870, List.forall_mem_cons.mpr ⟨snd_scr rfl d0_871, List.forall_mem_cons.mpr ⟨snd_aload_n d0_872 rfl, List.forall_mem_cons.mpr ⟨snd_iload d0_873, List.forall_mem_cons.mpr ⟨snd_iconst d0_875 (by decide +kernel), List.forall_mem_cons.mpr ⟨snd_iadd d0_876, List.forall_mem_cons.mpr ⟨snd_scr rfl d0_877, List.forall_mem_cons.mpr ⟨snd_aload_n d0_878 rfl, List.forall_mem_cons.mpr ⟨snd_iload d0_879, List.forall_mem_cons.mpr ⟨snd_iconst d0_881 (by decide +kernel), List.forall_mem_cons.mpr ⟨snd_iadd d0_882, List.forall_mem_cons.mpr ⟨snd_scr rfl d0_883, List.forall_mem_cons.mpr ⟨snd_callV (by decide) rfl cn122 ⟨by decide +kernel, by decide +kernel⟩ cm122 (List.forall_mem_cons.mpr ⟨wd952, cw122⟩) d0_884, List.forall_mem_cons.mpr ⟨snd_aload_n d0_887 rfl, List.forall_mem_cons.mpr ⟨snd_aload_n d0_888 rfl, List.forall_mem_cons.mpr ⟨snd_iload d0_889, List.forall_mem_cons.mpr ⟨snd_iconst d0_891 (by decide +kernel), List.forall_mem_cons.mpr ⟨snd_iadd d0_892, List.forall_mem_cons.mpr ⟨snd_scr rfl d0_893, List.forall_mem_cons.mpr ⟨snd_aload_n d0_894 rfl, List.forall_mem_cons.mpr ⟨snd_iload d0_895, fun _ h => by cases h⟩⟩⟩⟩⟩⟩⟩⟩⟩⟩⟩⟩⟩⟩⟩⟩⟩⟩⟩⟩⟩⟩⟩⟩⟩⟩⟩⟩⟩⟩
theorem sc0_17 : ∀ q ∈ tc0_17, Snd xtb M0 q.1 q.2 := List.forall_mem_cons.mpr ⟨snd_iconst d0_897 (by decide +kernel), List.forall_mem_cons.mpr ⟨snd_iadd d0_898, List.forall_mem_cons.mpr ⟨snd_scr rfl d0_899, List.forall_mem_cons.mpr ⟨snd_aload_n d0_900 rfl, List.forall_mem_cons.mpr ⟨snd_iload d0_901, List.forall_mem_cons.mpr ⟨snd_iconst d0_903 (by decide +kernel), List.forall_mem_cons.mpr ⟨snd_iadd d0_904, List.forall_mem_cons.mpr ⟨snd_scr rfl d0_905, List.forall_mem_cons.mpr ⟨snd_aload_n d0_906 rfl, List.forall_mem_cons.mpr ⟨snd_iload d0_907, List.forall_mem_cons.mpr ⟨snd_iconst d0_909 (by decide +kernel), List.forall_mem_cons.mpr ⟨snd_iadd d0_910, List.forall_mem_cons.mpr ⟨snd_scr rfl d0_911, List.forall_mem_cons.mpr ⟨snd_callV (by decide) rfl cn239 ⟨by decide +kernel, by decide +kernel⟩ cm239 (List.forall_mem_cons.mpr ⟨wd1745, cw239⟩) d0_912, List.forall_mem_cons.mpr ⟨snd_cmp_eq d0_915 (by decide), List.forall_mem_cons.mpr ⟨snd_iconst d0_918 (by decide +kernel), List.forall_mem_cons.mpr ⟨snd_zret rfl d0_919, List.forall_mem_cons.mpr ⟨snd_aload_n d0_920 rfl, List.forall_mem_cons.mpr ⟨snd_aload_n d0_921 rfl, List.forall_mem_cons.mpr ⟨snd_iload d0_922, List.forall_mem_cons.mpr ⟨snd_iconst d0_924 (by decide +kernel), List.forall_mem_cons.mpr ⟨snd_iadd d0_925, List.forall_mem_cons.mpr ⟨snd_scr rfl d0_926, List.forall_mem_cons.mpr ⟨snd_aload_n d0_927 rfl, List.forall_mem_cons.mpr ⟨snd_iload d0_928, List.forall_mem_cons.mpr ⟨snd_iconst d0_930 (by decide +kernel), List.forall_mem_cons.mpr ⟨snd_iadd d0_931, List.forall_mem_cons.mpr ⟨snd_scr rfl d0_932, List.forall_mem_cons.mpr ⟨snd_aload_n d0_933 rfl, List.forall_mem_cons.mpr ⟨snd_iload d0_934, fun _ h => by cases h⟩⟩⟩⟩⟩⟩⟩⟩⟩⟩⟩⟩⟩⟩⟩⟩⟩⟩⟩⟩⟩⟩⟩⟩⟩⟩⟩⟩⟩⟩
theorem sc0_18 : ∀ q ∈ tc0_18, Snd xtb M0 q.1 q.2 := List.forall_mem_cons.mpr ⟨snd_iconst d0_936 (by decide +kernel), List.forall_mem_cons.mpr ⟨snd_iadd d0_937, List.forall_mem_cons.mpr ⟨snd_scr rfl d0_938, List.forall_mem_cons.mpr ⟨snd_callV (by decide) rfl cn123 ⟨by decide +kernel, by decide +kernel⟩ cm123 (List.forall_mem_cons.mpr ⟨wd956, cw123⟩) d0_939, List.forall_mem_cons.mpr ⟨snd_aload_n d0_942 rfl, List.forall_mem_cons.mpr ⟨snd_aload_n d0_943 rfl, List.forall_mem_cons.mpr ⟨snd_iload d0_944, List.forall_mem_cons.mpr ⟨snd_iconst d0_946 (by decide +kernel), List.forall_mem_cons.mpr ⟨snd_iadd d0_947, List.forall_mem_cons.mpr ⟨snd_scr rfl d0_948, List.forall_mem_cons.mpr ⟨snd_aload_n d0_949 rfl, List.forall_mem_cons.mpr ⟨snd_iload d0_950, List.forall_mem_cons.mpr ⟨snd_iconst d0_952 (by decide +kernel), List.forall_mem_cons.mpr ⟨snd_iadd d0_953, List.forall_mem_cons.mpr ⟨snd_scr rfl d0_954, List.forall_mem_cons.mpr ⟨snd_aload_n d0_955 rfl, List.forall_mem_cons.mpr ⟨snd_iload d0_956, List.forall_mem_cons.mpr ⟨snd_iconst d0_958 (by decide +kernel), List.forall_mem_cons.mpr ⟨snd_iadd d0_959, List.forall_mem_cons.mpr ⟨snd_scr rfl d0_960, List.forall_mem_cons.mpr ⟨snd_callV (by decide) rfl cn240 ⟨by decide +kernel, by decide +kernel⟩ cm240 (List.forall_mem_cons.mpr ⟨wd1749, cw240⟩) d0_961, List.forall_mem_cons.mpr ⟨snd_cmp_eq d0_964 (by decide), List.forall_mem_cons.mpr ⟨snd_iconst d0_967 (by decide +kernel), List.forall_mem_cons.mpr ⟨snd_zret rfl d0_968, List.forall_mem_cons.mpr ⟨snd_aload_n d0_969 rfl, List.forall_mem_cons.mpr ⟨snd_aload_n d0_970 rfl, List.forall_mem_cons.mpr ⟨snd_iload d0_971, List.forall_mem_cons.mpr ⟨snd_iconst d0_973 (by decide +kernel), List.forall_mem_cons.mpr ⟨snd_iadd d0_974, List.forall_mem_cons.mpr ⟨snd_scr rfl d0_975, fun _ h => by cases h⟩⟩⟩⟩⟩⟩⟩⟩⟩⟩⟩⟩⟩⟩⟩⟩⟩⟩⟩⟩⟩⟩⟩⟩⟩⟩⟩⟩⟩⟩
theorem sc0_19 : ∀ q ∈ tc0_19, Snd xtb M0 q.1 q.2 := List.forall_mem_cons.mpr ⟨snd_aload_n d0_976 rfl, List.forall_mem_cons.mpr ⟨snd_iload d0_977, List.forall_mem_cons.mpr ⟨snd_iconst d0_979 (by decide +kernel), List.forall_mem_cons.mpr ⟨snd_iadd d0_980, List.forall_mem_cons.mpr ⟨snd_scr rfl d0_981, List.forall_mem_cons.mpr ⟨snd_aload_n d0_982 rfl, List.forall_mem_cons.mpr ⟨snd_iload d0_983, List.forall_mem_cons.mpr ⟨snd_iconst d0_985 (by decide +kernel), List.forall_mem_cons.mpr ⟨snd_iadd d0_986, List.forall_mem_cons.mpr ⟨snd_scr rfl d0_987, List.forall_mem_cons.mpr ⟨snd_callV (by decide) rfl cn124 ⟨by decide +kernel, by decide +kernel⟩ cm124 (List.forall_mem_cons.mpr ⟨wd974, cw124⟩) d0_988, List.forall_mem_cons.mpr ⟨snd_aload_n d0_991 rfl, List.forall_mem_cons.mpr ⟨snd_aload_n d0_992 rfl, List.forall_mem_cons.mpr ⟨snd_iload d0_993, List.forall_mem_cons.mpr ⟨snd_iconst d0_995 (by decide +kernel), List.forall_mem_cons.mpr ⟨snd_iadd d0_996, List.forall_mem_cons.mpr ⟨snd_scr rfl d0_997, List.forall_mem_cons.mpr ⟨snd_aload_n d0_998 rfl, List.forall_mem_cons.mpr ⟨snd_iload d0_999, List.forall_mem_cons.mpr ⟨snd_iconst d0_1001 (by decide +kernel), List.forall_mem_cons.mpr ⟨snd_iadd d0_1002, List.forall_mem_cons.mpr ⟨snd_scr rfl d0_1003, List.forall_mem_cons.mpr ⟨snd_aload_n d0_1004 rfl, List.forall_mem_cons.mpr ⟨snd_iload d0_1005, List.forall_mem_cons.mpr ⟨snd_iconst d0_1007 (by decide +kernel), List.forall_mem_cons.mpr ⟨snd_iadd d0_1008, List.forall_mem_cons.mpr ⟨snd_scr rfl d0_1009, List.forall_mem_cons.mpr ⟨snd_callV (by decide) rfl cn241 ⟨by decide +kernel, by decide +kernel⟩ cm241 (List.forall_mem_cons.mpr ⟨wd1753, cw241⟩) d0_1010, List.forall_mem_cons.mpr ⟨snd_cmp_eq d0_1013 (by decide), List.forall_mem_cons.mpr ⟨snd_iconst d0_1016 (by decide +kernel), fun _ h => by cases h⟩⟩⟩⟩⟩⟩⟩⟩⟩⟩⟩⟩⟩⟩⟩⟩⟩⟩⟩⟩⟩⟩⟩⟩⟩⟩⟩⟩⟩⟩
theorem sc0_20 : ∀ q ∈ tc0_20, Snd xtb M0 q.1 q.2 := List.forall_mem_cons.mpr ⟨snd_zret rfl d0_1017, List.forall_mem_cons.mpr ⟨snd_aload_n d0_1018 rfl, List.forall_mem_cons.mpr ⟨snd_aload_n d0_1019 rfl, List.forall_mem_cons.mpr ⟨snd_iload d0_1020, List.forall_mem_cons.mpr ⟨snd_iconst d0_1022 (by decide +kernel), List.forall_mem_cons.mpr ⟨snd_iadd d0_1023, List.forall_mem_cons.mpr ⟨snd_scr rfl d0_1024, List.forall_mem_cons.mpr ⟨snd_aload_n d0_1025 rfl, List.forall_mem_cons.mpr ⟨snd_iload d0_1026, List.forall_mem_cons.mpr ⟨snd_iconst d0_1028 (by decide +kernel), List.forall_mem_cons.mpr ⟨snd_iadd d0_1029, List.forall_mem_cons.mpr ⟨snd_scr rfl d0_1030, List.forall_mem_cons.mpr ⟨snd_callV (by decide) rfl cn125 ⟨by decide +kernel, by decide +kernel⟩ cm125 (List.forall_mem_cons.mpr ⟨wd983, cw125⟩) d0_1031, List.forall_mem_cons.mpr ⟨snd_aload_n d0_1034 rfl, List.forall_mem_cons.mpr ⟨snd_aload_n d0_1035 rfl, List.forall_mem_cons.mpr ⟨snd_iload d0_1036, List.forall_mem_cons.mpr ⟨snd_iconst d0_1038 (by decide +kernel), List.forall_mem_cons.mpr ⟨snd_iadd d0_1039, List.forall_mem_cons.mpr ⟨snd_scr rfl d0_1040, List.forall_mem_cons.mpr ⟨snd_aload_n d0_1041 rfl, List.forall_mem_cons.mpr ⟨snd_iload d0_1042, List.forall_mem_cons.mpr ⟨snd_iconst d0_1044 (by decide +kernel), List.forall_mem_cons.mpr ⟨snd_iadd d0_1045, List.forall_mem_cons.mpr ⟨snd_scr rfl d0_1046, List.forall_mem_cons.mpr ⟨snd_callV (by decide) rfl cn242 ⟨by decide +kernel, by decide +kernel⟩ cm242 (List.forall_mem_cons.mpr ⟨wd1757, cw242⟩) d0_1047, List.forall_mem_cons.mpr ⟨snd_cmp_eq d0_1050 (by decide), List.forall_mem_cons.mpr ⟨snd_iconst d0_1053 (by decide +kernel), List.forall_mem_cons.mpr ⟨snd_zret rfl d0_1054, List.forall_mem_cons.mpr ⟨snd_aload_n d0_1055 rfl, List.forall_mem_cons.mpr ⟨snd_aload_n d0_1056 rfl, fun _ h => by cases h⟩⟩⟩⟩⟩⟩⟩⟩⟩⟩⟩⟩⟩⟩⟩⟩⟩⟩⟩⟩⟩⟩⟩⟩⟩⟩⟩⟩⟩⟩
theorem sc0_21 : ∀ q ∈ tc0_21, Snd xtb M0 q.1 q.2 := List.forall_mem_cons.mpr ⟨snd_iload d0_1057, List.forall_mem_cons.mpr ⟨snd_iconst d0_1059 (by decide +kernel), List.forall_mem_cons.mpr ⟨snd_iadd d0_1060, List.forall_mem_cons.mpr ⟨snd_scr rfl d0_1061, List.forall_mem_cons.mpr ⟨snd_aload_n d0_1062 rfl, List.forall_mem_cons.mpr ⟨snd_iload d0_1063, List.forall_mem_cons.mpr ⟨snd_iconst d0_1065 (by decide +kernel), List.forall_mem_cons.mpr ⟨snd_iadd d0_1066, List.forall_mem_cons.mpr ⟨snd_scr rfl d0_1067, List.forall_mem_cons.mpr ⟨snd_callV (by decide) rfl cn126 ⟨by decide +kernel, by decide +kernel⟩ cm126 (List.forall_mem_cons.mpr ⟨wd991, cw126⟩) d0_1068, List.forall_mem_cons.mpr ⟨snd_aload_n d0_1071 rfl, List.forall_mem_cons.mpr ⟨snd_aload_n d0_1072 rfl, List.forall_mem_cons.mpr ⟨snd_iload d0_1073, List.forall_mem_cons.mpr ⟨snd_iconst d0_1075 (by decide +kernel), List.forall_mem_cons.mpr ⟨snd_iadd d0_1076, List.forall_mem_cons.mpr ⟨snd_scr rfl d0_1077, List.forall_mem_cons.mpr ⟨snd_aload_n d0_1078 rfl, List.forall_mem_cons.mpr ⟨snd_iload d0_1079, List.forall_mem_cons.mpr ⟨snd_iconst d0_1081 (by decide +kernel), List.forall_mem_cons.mpr ⟨snd_iadd d0_1082, List.forall_mem_cons.mpr ⟨snd_scr rfl d0_1083, List.forall_mem_cons.mpr ⟨snd_callV (by decide) rfl cn243 ⟨by decide +kernel, by decide +kernel⟩ cm243 (List.forall_mem_cons.mpr ⟨wd1761, cw243⟩) d0_1084, List.forall_mem_cons.mpr ⟨snd_cmp_eq d0_1087 (by decide), List.forall_mem_cons.mpr ⟨snd_iconst d0_1090 (by decide +kernel), List.forall_mem_cons.mpr ⟨snd_zret rfl d0_1091, List.forall_mem_cons.mpr ⟨snd_aload_n d0_1092 rfl, List.forall_mem_cons.mpr ⟨snd_aload_n d0_1093 rfl, List.forall_mem_cons.mpr ⟨snd_iload d0_1094, List.forall_mem_cons.mpr ⟨snd_iconst d0_1096 (by decide +kernel), List.forall_mem_cons.mpr ⟨snd_iadd d0_1097, fun _ h => by cases h⟩⟩⟩⟩⟩⟩⟩⟩⟩⟩⟩⟩⟩⟩⟩⟩⟩⟩⟩⟩⟩⟩⟩⟩⟩⟩⟩⟩⟩⟩
theorem sc0_22 : ∀ q ∈ tc0_22, Snd xtb M0 q.1 q.2 := List.forall_mem_cons.mpr ⟨snd_scr rfl d0_1098, List.forall_mem_cons.mpr ⟨snd_aload_n d0_1099 rfl, List.forall_mem_cons.mpr ⟨snd_iload d0_1100, List.forall_mem_cons.mpr ⟨snd_iconst d0_1102 (by decide +kernel), List.forall_mem_cons.mpr ⟨snd_iadd d0_1103, List.forall_mem_cons.mpr ⟨snd_scr rfl d0_1104, List.forall_mem_cons.mpr ⟨snd_aload_n d0_1105 rfl, List.forall_mem_cons.mpr ⟨snd_iload d0_1106, List.forall_mem_cons.mpr ⟨snd_iconst d0_1108 (by decide +kernel), List.forall_mem_cons.mpr ⟨snd_iadd d0_1109, List.forall_mem_cons.mpr ⟨snd_scr rfl d0_1110, List.forall_mem_cons.mpr ⟨snd_callV (by decide) rfl cn127 ⟨by decide +kernel, by decide +kernel⟩ cm127 (List.forall_mem_cons.mpr ⟨wd999, cw127⟩) d0_1111, List.forall_mem_cons.mpr ⟨snd_aload_n d0_1114 rfl, List.forall_mem_cons.mpr ⟨snd_aload_n d0_1115 rfl, List.forall_mem_cons.mpr ⟨snd_iload d0_1116, List.forall_mem_cons.mpr ⟨snd_iconst d0_1118 (by decide +kernel), List.forall_mem_cons.mpr ⟨snd_iadd d0_1119, List.forall_mem_cons.mpr ⟨snd_scr rfl d0_1120, List.forall_mem_cons.mpr ⟨snd_aload_n d0_1121 rfl, List.forall_mem_cons.mpr ⟨snd_iload d0_1122, List.forall_mem_cons.mpr ⟨snd_iconst d0_1124 (by decide +kernel), List.forall_mem_cons.mpr ⟨snd_iadd d0_1125, List.forall_mem_cons.mpr ⟨snd_scr rfl d0_1126, List.forall_mem_cons.mpr ⟨snd_aload_n d0_1127 rfl, List.forall_mem_cons.mpr ⟨snd_iload d0_1128, List.forall_mem_cons.mpr ⟨snd_iconst d0_1130 (by decide +kernel), List.forall_mem_cons.mpr ⟨snd_iadd d0_1131, List.forall_mem_cons.mpr ⟨snd_scr rfl d0_1132, List.forall_mem_cons.mpr ⟨snd_callV (by decide) rfl cn249 ⟨by decide +kernel, by decide +kernel⟩ cm249 (List.forall_mem_cons.mpr ⟨wd1765, cw249⟩) d0_1133, List.forall_mem_cons.mpr ⟨snd_cmp_eq d0_1136 (by decide), fun _ h => by cases h⟩⟩⟩⟩⟩⟩⟩⟩⟩⟩⟩⟩⟩⟩⟩⟩⟩⟩⟩⟩⟩⟩⟩⟩⟩⟩⟩⟩⟩⟩
theorem sc0_23 : ∀ q ∈ tc0_23, Snd xtb M0 q.1 q.2 := List.forall_mem_cons.mpr ⟨snd_iconst d0_1139 (by decide +kernel), List.forall_mem_cons.mpr ⟨snd_zret rfl d0_1140, List.forall_mem_cons.mpr ⟨snd_aload_n d0_1141 rfl, List.forall_mem_cons.mpr ⟨snd_aload_n d0_1142 rfl, List.forall_mem_cons.mpr ⟨snd_iload d0_1143, List.forall_mem_cons.mpr ⟨snd_iconst d0_1145 (by decide +kernel), List.forall_mem_cons.mpr ⟨snd_iadd d0_1146, List.forall_mem_cons.mpr ⟨snd_scr rfl d0_1147, List.forall_mem_cons.mpr ⟨snd_aload_n d0_1148 rfl, List.forall_mem_cons.mpr ⟨snd_iload d0_1149, List.forall_mem_cons.mpr ⟨snd_iconst d0_1151 (by decide +kernel), List.forall_mem_cons.mpr ⟨snd_iadd d0_1152, List.forall_mem_cons.mpr ⟨snd_scr rfl d0_1153, List.forall_mem_cons.mpr ⟨snd_aload_n d0_1154 rfl, List.forall_mem_cons.mpr ⟨snd_iload d0_1155, List.forall_mem_cons.mpr ⟨snd_iconst d0_1157 (by decide +kernel), List.forall_mem_cons.mpr ⟨snd_iadd d0_1158, List.forall_mem_cons.mpr ⟨snd_scr rfl d0_1159, List.forall_mem_cons.mpr ⟨snd_aload_n d0_1160 rfl, List.forall_mem_cons.mpr ⟨snd_iload d0_1161, List.forall_mem_cons.mpr ⟨snd_iconst d0_1163 (by decide +kernel), List.forall_mem_cons.mpr ⟨snd_iadd d0_1164, List.forall_mem_cons.mpr ⟨snd_scr rfl d0_1165, List.forall_mem_cons.mpr ⟨snd_callV (by decide) rfl cn128 ⟨by decide +kernel, by decide +kernel⟩ cm128 (List.forall_mem_cons.mpr ⟨wd1008, cw128⟩) d0_1166, List.forall_mem_cons.mpr ⟨snd_aload_n d0_1169 rfl, List.forall_mem_cons.mpr ⟨snd_aload_n d0_1170 rfl, List.forall_mem_cons.mpr ⟨snd_iload d0_1171, List.forall_mem_cons.mpr ⟨snd_iconst d0_1173 (by decide +kernel), List.forall_mem_cons.mpr ⟨snd_iadd d0_1174, List.forall_mem_cons.mpr ⟨snd_scr rfl d0_1175, fun _ h => by cases h⟩⟩⟩⟩⟩⟩⟩⟩⟩⟩⟩⟩⟩⟩⟩⟩⟩⟩⟩⟩⟩⟩⟩⟩⟩⟩⟩⟩⟩⟩
theorem sc0_24 : ∀ q ∈ tc0_24, Snd xtb M0 q.1 q.2 := List.forall_mem_cons.mpr ⟨snd_aload_n d0_1176 rfl, List.forall_mem_cons.mpr ⟨snd_iload d0_1177, List.forall_mem_cons.mpr ⟨snd_iconst d0_1179 (by decide +kernel), List.forall_mem_cons.mpr ⟨snd_iadd d0_1180, List.forall_mem_cons.mpr ⟨snd_scr rfl d0_1181, List.forall_mem_cons.mpr ⟨snd_aload_n d0_1182 rfl, List.forall_mem_cons.mpr ⟨snd_iload d0_1183, List.forall_mem_cons.mpr ⟨snd_iconst d0_1185 (by decide +kernel), List.forall_mem_cons.mpr ⟨snd_iadd d0_1186, List.forall_mem_cons.mpr ⟨snd_scr rfl d0_1187, List.forall_mem_cons.mpr ⟨snd_aload_n d0_1188 rfl, List.forall_mem_cons.mpr ⟨snd_iload d0_1189, List.forall_mem_cons.mpr ⟨snd_iconst d0_1191 (by decide +kernel), List.forall_mem_cons.mpr ⟨snd_iadd d0_1192, List.forall_mem_cons.mpr ⟨snd_scr rfl d0_1193, List.forall_mem_cons.mpr ⟨snd_callV (by decide) rfl cn250 ⟨by decide +kernel, by decide +kernel⟩ cm250 (List.forall_mem_cons.mpr ⟨wd1777, cw250⟩) d0_1194, List.forall_mem_cons.mpr ⟨snd_cmp_eq d0_1197 (by decide), List.forall_mem_cons.mpr ⟨snd_iconst d0_1200 (by decide +kernel), List.forall_mem_cons.mpr ⟨snd_zret rfl d0_1201, List.forall_mem_cons.mpr ⟨snd_aload_n d0_1202 rfl, List.forall_mem_cons.mpr ⟨snd_aload_n d0_1203 rfl, List.forall_mem_cons.mpr ⟨snd_iload d0_1204, List.forall_mem_cons.mpr ⟨snd_iconst d0_1206 (by decide +kernel), List.forall_mem_cons.mpr ⟨snd_iadd d0_1207, List.forall_mem_cons.mpr ⟨snd_scr rfl d0_1208, List.forall_mem_cons.mpr ⟨snd_aload_n d0_1209 rfl, List.forall_mem_cons.mpr ⟨snd_iload d0_1210, List.forall_mem_cons.mpr ⟨snd_iconst d0_1212 (by decide +kernel), List.forall_mem_cons.mpr ⟨snd_iadd d0_1213, List.forall_mem_cons.mpr ⟨snd_scr rfl d0_1214, fun _ h => by cases h⟩⟩⟩⟩⟩⟩⟩⟩⟩⟩⟩⟩⟩⟩⟩⟩⟩⟩⟩⟩⟩⟩⟩⟩⟩⟩⟩⟩⟩⟩
theorem sc0_25 : ∀ q ∈ tc0_25, Snd xtb M0 q.1 q.2 := List.forall_mem_cons.mpr ⟨snd_callV (by decide) rfl cn129 ⟨by decide +kernel, by decide +kernel⟩ cm129 (List.forall_mem_cons.mpr ⟨wd1021, cw129⟩) d0_1215, List.forall_mem_cons.mpr ⟨snd_aload_n d0_1218 rfl, List.forall_mem_cons.mpr ⟨snd_aload_n d0_1219 rfl, List.forall_mem_cons.mpr ⟨snd_iload d0_1220, List.forall_mem_cons.mpr ⟨snd_iconst d0_1222 (by decide +kernel), List.forall_mem_cons.mpr ⟨snd_iadd d0_1223, List.forall_mem_cons.mpr ⟨snd_scr rfl d0_1224, List.forall_mem_cons.mpr ⟨snd_aload_n d0_1225 rfl, List.forall_mem_cons.mpr ⟨snd_iload d0_1226, List.forall_mem_cons.mpr ⟨snd_iconst d0_1228 (by decide +kernel), List.forall_mem_cons.mpr ⟨snd_iadd d0_1229, List.forall_mem_cons.mpr ⟨snd_scr rfl d0_1230, List.forall_mem_cons.mpr ⟨snd_callV (by decide) rfl cn251 ⟨by decide +kernel, by decide +kernel⟩ cm251 (List.forall_mem_cons.mpr ⟨wd1789, cw251⟩) d0_1231, List.forall_mem_cons.mpr ⟨snd_cmp_eq d0_1234 (by decide), List.forall_mem_cons.mpr ⟨snd_iconst d0_1237 (by decide +kernel), List.forall_mem_cons.mpr ⟨snd_zret rfl d0_1238, List.forall_mem_cons.mpr ⟨snd_aload_n d0_1239 rfl, List.forall_mem_cons.mpr ⟨snd_aload_n d0_1240 rfl, List.forall_mem_cons.mpr ⟨snd_iload d0_1241, List.forall_mem_cons.mpr ⟨snd_iconst d0_1243 (by decide +kernel), List.forall_mem_cons.mpr ⟨snd_iadd d0_1244, List.forall_mem_cons.mpr ⟨snd_scr rfl d0_1245, List.forall_mem_cons.mpr ⟨snd_aload_n d0_1246 rfl, List.forall_mem_cons.mpr ⟨snd_iload d0_1247, List.forall_mem_cons.mpr ⟨snd_iconst d0_1249 (by decide +kernel), List.forall_mem_cons.mpr ⟨snd_iadd d0_1250, List.forall_mem_cons.mpr ⟨snd_scr rfl d0_1251, List.forall_mem_cons.mpr ⟨snd_aload_n d0_1252 rfl, List.forall_mem_cons.mpr ⟨snd_iload d0_1253, List.forall_mem_cons.mpr ⟨snd_iconst d0_1255 (by decide +kernel), fun _ h => by cases h⟩⟩⟩⟩⟩⟩⟩⟩⟩⟩⟩⟩⟩⟩⟩⟩⟩⟩⟩⟩⟩⟩⟩⟩⟩⟩⟩⟩⟩⟩
theorem sc0_26 : ∀ q ∈ tc0_26, Snd xtb M0 q.1 q.2 := List.forall_mem_cons.mpr ⟨snd_iadd d0_1256, List.forall_mem_cons.mpr ⟨snd_scr rfl d0_1257, List.forall_mem_cons.mpr ⟨snd_aload_n d0_1258 rfl, List.forall_mem_cons.mpr ⟨snd_iload d0_1259, List.forall_mem_cons.mpr ⟨snd_iconst d0_1261 (by decide +kernel), List.forall_mem_cons.mpr ⟨snd_iadd d0_1262, List.forall_mem_cons.mpr ⟨snd_scr rfl d0_1263, List.forall_mem_cons.mpr ⟨snd_callV (by decide) rfl cn130 ⟨by decide +kernel, by decide +kernel⟩ cm130 (List.forall_mem_cons.mpr ⟨wd1030, cw130⟩) d0_1264, List.forall_mem_cons.mpr ⟨snd_aload_n d0_1267 rfl, List.forall_mem_cons.mpr ⟨snd_aload_n d0_1268 rfl, List.forall_mem_cons.mpr ⟨snd_iload d0_1269, List.forall_mem_cons.mpr ⟨snd_iconst d0_1271 (by decide +kernel), List.forall_mem_cons.mpr ⟨snd_iadd d0_1272, List.forall_mem_cons.mpr ⟨snd_scr rfl d0_1273, List.forall_mem_cons.mpr ⟨snd_aload_n d0_1274 rfl, List.forall_mem_cons.mpr ⟨snd_iload d0_1275, List.forall_mem_cons.mpr ⟨snd_iconst d0_1277 (by decide +kernel), List.forall_mem_cons.mpr ⟨snd_iadd d0_1278, List.forall_mem_cons.mpr ⟨snd_scr rfl d0_1279, List.forall_mem_cons.mpr ⟨snd_aload_n d0_1280 rfl, List.forall_mem_cons.mpr ⟨snd_iload d0_1281, List.forall_mem_cons.mpr ⟨snd_iconst d0_1283 (by decide +kernel), List.forall_mem_cons.mpr ⟨snd_iadd d0_1284, List.forall_mem_cons.mpr ⟨snd_scr rfl d0_1285, List.forall_mem_cons.mpr ⟨snd_aload_n d0_1286 rfl, List.forall_mem_cons.mpr ⟨snd_iload d0_1287, List.forall_mem_cons.mpr ⟨snd_iconst d0_1289 (by decide +kernel), List.forall_mem_cons.mpr ⟨snd_iadd d0_1290, List.forall_mem_cons.mpr ⟨snd_scr rfl d0_1291, List.forall_mem_cons.mpr ⟨snd_callV (by decide) rfl cn253 ⟨by decide +kernel, by decide +kernel⟩ cm253 (List.forall_mem_cons.mpr ⟨wd1797, cw253⟩) d0_1292, fun _ h => by cases h⟩⟩⟩⟩⟩⟩⟩⟩⟩⟩⟩⟩⟩⟩⟩⟩⟩⟩⟩⟩⟩⟩⟩⟩⟩⟩⟩⟩⟩⟩
theorem sc0_27 : ∀ q ∈ tc0_27, Snd xtb M0 q.1 q.2 := List.forall_mem_cons.mpr ⟨snd_cmp_eq d0_1295 (by decide), List.forall_mem_cons.mpr ⟨snd_iconst d0_1298 (by decide +kernel), List.forall_mem_cons.mpr ⟨snd_zret rfl d0_1299, List.forall_mem_cons.mpr ⟨snd_aload_n d0_1300 rfl, List.forall_mem_cons.mpr ⟨snd_aload_n d0_1301 rfl, List.forall_mem_cons.mpr ⟨snd_iload d0_1302, List.forall_mem_cons.mpr ⟨snd_iconst d0_1304 (by decide +kernel), List.forall_mem_cons.mpr ⟨snd_iadd d0_1305, List.forall_mem_cons.mpr ⟨snd_scr rfl d0_1306, List.forall_mem_cons.mpr ⟨snd_aload_n d0_1307 rfl, List.forall_mem_cons.mpr ⟨snd_iload d0_1308, List.forall_mem_cons.mpr ⟨snd_iconst d0_1310 (by decide +kernel), List.forall_mem_cons.mpr ⟨snd_iadd d0_1311, List.forall_mem_cons.mpr ⟨snd_scr rfl d0_1312, List.forall_mem_cons.mpr ⟨snd_callV (by decide) rfl cn131 ⟨by decide +kernel, by decide +kernel⟩ cm131 (List.forall_mem_cons.mpr ⟨wd1045, cw131⟩) d0_1313, List.forall_mem_cons.mpr ⟨snd_aload_n d0_1316 rfl, List.forall_mem_cons.mpr ⟨snd_aload_n d0_1317 rfl, List.forall_mem_cons.mpr ⟨snd_iload d0_1318, List.forall_mem_cons.mpr ⟨snd_iconst d0_1320 (by decide +kernel), List.forall_mem_cons.mpr ⟨snd_iadd d0_1321, List.forall_mem_cons.mpr ⟨snd_scr rfl d0_1322, List.forall_mem_cons.mpr ⟨snd_aload_n d0_1323 rfl, List.forall_mem_cons.mpr ⟨snd_iload d0_1324, List.forall_mem_cons.mpr ⟨snd_iconst d0_1326 (by decide +kernel), List.forall_mem_cons.mpr ⟨snd_iadd d0_1327, List.forall_mem_cons.mpr ⟨snd_scr rfl d0_1328, List.forall_mem_cons.mpr ⟨snd_callV (by decide) rfl cn254 ⟨by decide +kernel, by decide +kernel⟩ cm254 (List.forall_mem_cons.mpr ⟨wd1805, cw254⟩) d0_1329, List.forall_mem_cons.mpr ⟨snd_cmp_eq d0_1332 (by decide), List.forall_mem_cons.mpr ⟨snd_iconst d0_1335 (by decide +kernel), List.forall_mem_cons.mpr ⟨snd_zret rfl d0_1336, fun _ h => by cases h⟩⟩⟩⟩⟩⟩⟩⟩⟩⟩⟩⟩⟩⟩⟩⟩⟩⟩⟩⟩⟩⟩⟩⟩⟩⟩⟩⟩⟩⟩
theorem sc0_28 : ∀ q ∈ tc0_28, Snd xtb M0 q.1 q.2 := List.forall_mem_cons.mpr ⟨snd_aload_n d0_1337 rfl, List.forall_mem_cons.mpr ⟨snd_aload_n d0_1338 rfl, List.forall_mem_cons.mpr ⟨snd_iload d0_1339, List.forall_mem_cons.mpr ⟨snd_iconst d0_1341 (by decide +kernel), List.forall_mem_cons.mpr ⟨snd_iadd d0_1342, List.forall_mem_cons.mpr ⟨snd_scr rfl d0_1343, List.forall_mem_cons.mpr ⟨snd_aload_n d0_1344 rfl, List.forall_mem_cons.mpr ⟨snd_iload d0_1345, List.forall_mem_cons.mpr ⟨snd_iconst d0_1347 (by decide +kernel), List.forall_mem_cons.mpr ⟨snd_iadd d0_1348, List.forall_mem_cons.mpr ⟨snd_scr rfl d0_1349, List.forall_mem_cons.mpr ⟨snd_aload_n d0_1350 rfl, List.forall_mem_cons.mpr ⟨snd_iload d0_1351, List.forall_mem_cons.mpr ⟨snd_iconst d0_1353 (by decide +kernel), List.forall_mem_cons.mpr ⟨snd_iadd d0_1354, List.forall_mem_cons.mpr ⟨snd_scr rfl d0_1355, List.forall_mem_cons.mpr ⟨snd_aload_n d0_1356 rfl, List.forall_mem_cons.mpr ⟨snd_iload d0_1357, List.forall_mem_cons.mpr ⟨snd_iconst d0_1359 (by decide +kernel), List.forall_mem_cons.mpr ⟨snd_iadd d0_1360, List.forall_mem_cons.mpr ⟨snd_scr rfl d0_1361, List.forall_mem_cons.mpr ⟨snd_aload_n d0_1362 rfl, List.forall_mem_cons.mpr ⟨snd_iload d0_1363, List.forall_mem_cons.mpr ⟨snd_iconst d0_1365 (by decide +kernel), List.forall_mem_cons.mpr ⟨snd_iadd d0_1366, List.forall_mem_cons.mpr ⟨snd_scr rfl d0_1367, List.forall_mem_cons.mpr ⟨snd_aload_n d0_1368 rfl, List.forall_mem_cons.mpr ⟨snd_iload d0_1369, List.forall_mem_cons.mpr ⟨snd_bipush d0_1371 (by decide +kernel), List.forall_mem_cons.mpr ⟨snd_iadd d0_1373, fun _ h => by cases h⟩⟩⟩⟩⟩⟩⟩⟩⟩⟩⟩⟩⟩⟩⟩⟩⟩⟩⟩⟩⟩⟩⟩⟩⟩⟩⟩⟩⟩⟩
theorem sc0_29 : ∀ q ∈ tc0_29, Snd xtb M0 q.1 q.2 := List.forall_mem_cons.mpr ⟨snd_scr rfl d0_1374, List.forall_mem_cons.mpr ⟨snd_callV (by decide) rfl cn132 ⟨by decide +kernel, by decide +kernel⟩ cm132 (List.forall_mem_cons.mpr ⟨wd1055, cw132⟩) d0_1375, List.forall_mem_cons.mpr ⟨snd_aload_n d0_1378 rfl, List.forall_mem_cons.mpr ⟨snd_aload_n d0_1379 rfl, List.forall_mem_cons.mpr ⟨snd_iload d0_1380, List.forall_mem_cons.mpr ⟨snd_iconst d0_1382 (by decide +kernel), List.forall_mem_cons.mpr ⟨snd_iadd d0_1383, List.forall_mem_cons.mpr ⟨snd_scr rfl d0_1384, List.forall_mem_cons.mpr ⟨snd_aload_n d0_1385 rfl, List.forall_mem_cons.mpr ⟨snd_iload d0_1386, List.forall_mem_cons.mpr ⟨snd_iconst d0_1388 (by decide +kernel), List.forall_mem_cons.mpr ⟨snd_iadd d0_1389, List.forall_mem_cons.mpr ⟨snd_scr rfl d0_1390, List.forall_mem_cons.mpr ⟨snd_aload_n d0_1391 rfl, List.forall_mem_cons.mpr ⟨snd_iload d0_1392, List.forall_mem_cons.mpr ⟨snd_iconst d0_1394 (by decide +kernel), List.forall_mem_cons.mpr ⟨snd_iadd d0_1395, List.forall_mem_cons.mpr ⟨snd_scr rfl d0_1396, List.forall_mem_cons.mpr ⟨snd_aload_n d0_1397 rfl, List.forall_mem_cons.mpr ⟨snd_iload d0_1398, List.forall_mem_cons.mpr ⟨snd_iconst d0_1400 (by decide +kernel), List.forall_mem_cons.mpr ⟨snd_iadd d0_1401, List.forall_mem_cons.mpr ⟨snd_scr rfl d0_1402, List.forall_mem_cons.mpr ⟨snd_aload_n d0_1403 rfl, List.forall_mem_cons.mpr ⟨snd_iload d0_1404, List.forall_mem_cons.mpr ⟨snd_iconst d0_1406 (by decide +kernel), List.forall_mem_cons.mpr ⟨snd_iadd d0_1407, List.forall_mem_cons.mpr ⟨snd_scr rfl d0_1408, List.forall_mem_cons.mpr ⟨snd_aload_n d0_1409 rfl, List.forall_mem_cons.mpr ⟨snd_iload d0_1410, fun _ h => by cases h⟩⟩⟩⟩⟩⟩⟩⟩⟩⟩⟩⟩⟩⟩⟩⟩⟩⟩⟩⟩⟩⟩⟩⟩⟩⟩⟩⟩⟩⟩
theorem sc0_30 : ∀ q ∈ tc0_30, Snd xtb M0 q.1 q.2 := List.forall_mem_cons.mpr ⟨snd_bipush d0_1412 (by decide +kernel), List.forall_mem_cons.mpr ⟨snd_iadd d0_1414, List.forall_mem_cons.mpr ⟨snd_scr rfl d0_1415, List.forall_mem_cons.mpr ⟨snd_callV (by decide) rfl cn259 ⟨by decide +kernel, by decide +kernel⟩ cm259 (List.forall_mem_cons.mpr ⟨wd1809, cw259⟩) d0_1416, List.forall_mem_cons.mpr ⟨snd_cmp_eq d0_1419 (by decide), List.forall_mem_cons.mpr ⟨snd_iconst d0_1422 (by decide +kernel), List.forall_mem_cons.mpr ⟨snd_zret rfl d0_1423, List.forall_mem_cons.mpr ⟨snd_aload_n d0_1424 rfl, List.forall_mem_cons.mpr ⟨snd_aload_n d0_1425 rfl, List.forall_mem_cons.mpr ⟨snd_iload d0_1426, List.forall_mem_cons.mpr ⟨snd_iconst d0_1428 (by decide +kernel), List.forall_mem_cons.mpr ⟨snd_iadd d0_1429, List.forall_mem_cons.mpr ⟨snd_scr rfl d0_1430, List.forall_mem_cons.mpr ⟨snd_aload_n d0_1431 rfl, List.forall_mem_cons.mpr ⟨snd_iload d0_1432, List.forall_mem_cons.mpr ⟨snd_iconst d0_1434 (by decide +kernel), List.forall_mem_cons.mpr ⟨snd_iadd d0_1435, List.forall_mem_cons.mpr ⟨snd_scr rfl d0_1436, List.forall_mem_cons.mpr ⟨snd_aload_n d0_1437 rfl, List.forall_mem_cons.mpr ⟨snd_iload d0_1438, List.forall_mem_cons.mpr ⟨snd_iconst d0_1440 (by decide +kernel), List.forall_mem_cons.mpr ⟨snd_iadd d0_1441, List.forall_mem_cons.mpr ⟨snd_scr rfl d0_1442, List.forall_mem_cons.mpr ⟨snd_aload_n d0_1443 rfl, List.forall_mem_cons.mpr ⟨snd_iload d0_1444, List.forall_mem_cons.mpr ⟨snd_iconst d0_1446 (by decide +kernel), List.forall_mem_cons.mpr ⟨snd_iadd d0_1447, List.forall_mem_cons.mpr ⟨snd_scr rfl d0_1448, List.forall_mem_cons.mpr ⟨snd_aload_n d0_1449 rfl, List.forall_mem_cons.mpr ⟨snd_iload d0_1450, fun _ h => by cases h⟩⟩⟩⟩⟩⟩⟩⟩⟩⟩⟩⟩⟩⟩⟩⟩⟩⟩⟩⟩⟩⟩⟩⟩⟩⟩⟩⟩⟩⟩
theorem sc0_31 : ∀ q ∈ tc0_31, Snd xtb M0 q.1 q.2 := List.forall_mem_cons.mpr ⟨snd_iconst d0_1452 (by decide +kernel), List.forall_mem_cons.mpr ⟨snd_iadd d0_1453, List.forall_mem_cons.mpr ⟨snd_scr rfl d0_1454, List.forall_mem_cons.mpr ⟨snd_aload_n d0_1455 rfl, List.forall_mem_cons.mpr ⟨snd_iload d0_1456, List.forall_mem_cons.mpr ⟨snd_bipush d0_1458 (by decide +kernel), List.forall_mem_cons.mpr ⟨snd_iadd d0_1460, List.forall_mem_cons.mpr ⟨snd_scr rfl d0_1461, List.forall_mem_cons.mpr ⟨snd_aload_n d0_1462 rfl, List.forall_mem_cons.mpr ⟨snd_iload d0_1463, List.forall_mem_cons.mpr ⟨snd_bipush d0_1465 (by decide +kernel), List.forall_mem_cons.mpr ⟨snd_iadd d0_1467, List.forall_mem_cons.mpr ⟨snd_scr rfl d0_1468, List.forall_mem_cons.mpr ⟨snd_callV (by decide) rfl cn133 ⟨by decide +kernel, by decide +kernel⟩ cm133 (List.forall_mem_cons.mpr ⟨wd1096, cw133⟩) d0_1469, List.forall_mem_cons.mpr ⟨snd_aload_n d0_1472 rfl, List.forall_mem_cons.mpr ⟨snd_aload_n d0_1473 rfl, List.forall_mem_cons.mpr ⟨snd_iload d0_1474, List.forall_mem_cons.mpr ⟨snd_iconst d0_1476 (by decide +kernel), List.forall_mem_cons.mpr ⟨snd_iadd d0_1477, List.forall_mem_cons.mpr ⟨snd_scr rfl d0_1478, List.forall_mem_cons.mpr ⟨snd_aload_n d0_1479 rfl, List.forall_mem_cons.mpr ⟨snd_iload d0_1480, List.forall_mem_cons.mpr ⟨snd_iconst d0_1482 (by decide +kernel), List.forall_mem_cons.mpr ⟨snd_iadd d0_1483, List.forall_mem_cons.mpr ⟨snd_scr rfl d0_1484, List.forall_mem_cons.mpr ⟨snd_aload_n d0_1485 rfl, List.forall_mem_cons.mpr ⟨snd_iload d0_1486, List.forall_mem_cons.mpr ⟨snd_iconst d0_1488 (by decide +kernel), List.forall_mem_cons.mpr ⟨snd_iadd d0_1489, List.forall_mem_cons.mpr ⟨snd_scr rfl d0_1490, fun _ h => by cases h⟩⟩⟩⟩⟩⟩⟩⟩⟩⟩⟩⟩⟩⟩⟩⟩⟩⟩⟩⟩⟩⟩⟩⟩⟩⟩⟩⟩⟩⟩
theorem sc0_32 : ∀ q ∈ tc0_32, Snd xtb M0 q.1 q.2 := List.forall_mem_cons.mpr ⟨snd_aload_n d0_1491 rfl, List.forall_mem_cons.mpr ⟨snd_iload d0_1492, List.forall_mem_cons.mpr ⟨snd_iconst d0_1494 (by decide +kernel), List.forall_mem_cons.mpr ⟨snd_iadd d0_1495, List.forall_mem_cons.mpr ⟨snd_scr rfl d0_1496, List.forall_mem_cons.mpr ⟨snd_aload_n d0_1497 rfl, List.forall_mem_cons.mpr ⟨snd_iload d0_1498, List.forall_mem_cons.mpr ⟨snd_iconst d0_1500 (by decide +kernel), List.forall_mem_cons.mpr ⟨snd_iadd d0_1501, List.forall_mem_cons.mpr ⟨snd_scr rfl d0_1502, List.forall_mem_cons.mpr ⟨snd_aload_n d0_1503 rfl, List.forall_mem_cons.mpr ⟨snd_iload d0_1504, List.forall_mem_cons.mpr ⟨snd_bipush d0_1506 (by decide +kernel), List.forall_mem_cons.mpr ⟨snd_iadd d0_1508, List.forall_mem_cons.mpr ⟨snd_scr rfl d0_1509, List.forall_mem_cons.mpr ⟨snd_aload_n d0_1510 rfl, List.forall_mem_cons.mpr ⟨snd_iload d0_1511, List.forall_mem_cons.mpr ⟨snd_bipush d0_1513 (by decide +kernel), List.forall_mem_cons.mpr ⟨snd_iadd d0_1515, List.forall_mem_cons.mpr ⟨snd_scr rfl d0_1516, List.forall_mem_cons.mpr ⟨snd_callV (by decide) rfl cn260 ⟨by decide +kernel, by decide +kernel⟩ cm260 (List.forall_mem_cons.mpr ⟨wd1829, cw260⟩) d0_1517, List.forall_mem_cons.mpr ⟨snd_cmp_eq d0_1520 (by decide), List.forall_mem_cons.mpr ⟨snd_iconst d0_1523 (by decide +kernel), List.forall_mem_cons.mpr ⟨snd_zret rfl d0_1524, List.forall_mem_cons.mpr ⟨snd_aload_n d0_1525 rfl, List.forall_mem_cons.mpr ⟨snd_aload_n d0_1526 rfl, List.forall_mem_cons.mpr ⟨snd_iload d0_1527, List.forall_mem_cons.mpr ⟨snd_iconst d0_1529 (by decide +kernel), List.forall_mem_cons.mpr ⟨snd_iadd d0_1530, List.forall_mem_cons.mpr ⟨snd_scr rfl d0_1531, fun _ h => by cases h⟩⟩⟩⟩⟩⟩⟩⟩⟩⟩⟩⟩⟩⟩⟩⟩⟩⟩⟩⟩⟩⟩⟩⟩⟩⟩⟩⟩⟩⟩
theorem sc0_33 : ∀ q ∈ tc0_33, Snd xtb M0 q.1 q.2 := List.forall_mem_cons.mpr ⟨snd_aload_n d0_1532 rfl, List.forall_mem_cons.mpr ⟨snd_iload d0_1533, List.forall_mem_cons.mpr ⟨snd_iconst d0_1535 (by decide +kernel), List.forall_mem_cons.mpr ⟨snd_iadd d0_1536, List.forall_mem_cons.mpr ⟨snd_scr rfl d0_1537, List.forall_mem_cons.mpr ⟨snd_callV (by decide) rfl cn134 ⟨by decide +kernel, by decide +kernel⟩ cm134 (List.forall_mem_cons.mpr ⟨wd1117, cw134⟩) d0_1538, List.forall_mem_cons.mpr ⟨snd_aload_n d0_1541 rfl, List.forall_mem_cons.mpr ⟨snd_aload_n d0_1542 rfl, List.forall_mem_cons.mpr ⟨snd_iload d0_1543, List.forall_mem_cons.mpr ⟨snd_iconst d0_1545 (by decide +kernel), List.forall_mem_cons.mpr ⟨snd_iadd d0_1546, List.forall_mem_cons.mpr ⟨snd_scr rfl d0_1547, List.forall_mem_cons.mpr ⟨snd_aload_n d0_1548 rfl, List.forall_mem_cons.mpr ⟨snd_iload d0_1549, List.forall_mem_cons.mpr ⟨snd_iconst d0_1551 (by decide +kernel), List.forall_mem_cons.mpr ⟨snd_iadd d0_1552, List.forall_mem_cons.mpr ⟨snd_scr rfl d0_1553, List.forall_mem_cons.mpr ⟨snd_callV (by decide) rfl cn267 ⟨by decide +kernel, by decide +kernel⟩ cm267 (List.forall_mem_cons.mpr ⟨wd1833, cw267⟩) d0_1554, List.forall_mem_cons.mpr ⟨snd_cmp_eq d0_1557 (by decide), List.forall_mem_cons.mpr ⟨snd_iconst d0_1560 (by decide +kernel), List.forall_mem_cons.mpr ⟨snd_zret rfl d0_1561, List.forall_mem_cons.mpr ⟨snd_aload_n d0_1562 rfl, List.forall_mem_cons.mpr ⟨snd_aload_n d0_1563 rfl, List.forall_mem_cons.mpr ⟨snd_iload d0_1564, List.forall_mem_cons.mpr ⟨snd_iconst d0_1566 (by decide +kernel), List.forall_mem_cons.mpr ⟨snd_iadd d0_1567, List.forall_mem_cons.mpr ⟨snd_scr rfl d0_1568, List.forall_mem_cons.mpr ⟨snd_aload_n d0_1569 rfl, List.forall_mem_cons.mpr ⟨snd_iload d0_1570, List.forall_mem_cons.mpr ⟨snd_iconst d0_1572 (by decide +kernel), fun _ h => by cases h⟩⟩⟩⟩⟩⟩⟩⟩⟩⟩⟩⟩⟩⟩⟩⟩⟩⟩⟩⟩⟩⟩⟩⟩⟩⟩⟩⟩⟩⟩
theorem sc0_34 : ∀ q ∈ tc0_34, Snd xtb M0 q.1 q.2 := List.forall_mem_cons.mpr ⟨snd_iadd d0_1573, List.forall_mem_cons.mpr ⟨snd_scr rfl d0_1574, List.forall_mem_cons.mpr ⟨snd_aload_n d0_1575 rfl, List.forall_mem_cons.mpr ⟨snd_iload d0_1576, List.forall_mem_cons.mpr ⟨snd_iconst d0_1578 (by decide +kernel), List.forall_mem_cons.mpr ⟨snd_iadd d0_1579, List.forall_mem_cons.mpr ⟨snd_scr rfl d0_1580, List.forall_mem_cons.mpr ⟨snd_callV (by decide) rfl cn135 ⟨by decide +kernel, by decide +kernel⟩ cm135 (List.forall_mem_cons.mpr ⟨wd1131, cw135⟩) d0_1581, List.forall_mem_cons.mpr ⟨snd_aload_n d0_1584 rfl, List.forall_mem_cons.mpr ⟨snd_aload_n d0_1585 rfl, List.forall_mem_cons.mpr ⟨snd_iload d0_1586, List.forall_mem_cons.mpr ⟨snd_iconst d0_1588 (by decide +kernel), List.forall_mem_cons.mpr ⟨snd_iadd d0_1589, List.forall_mem_cons.mpr ⟨snd_scr rfl d0_1590, List.forall_mem_cons.mpr ⟨snd_aload_n d0_1591 rfl, List.forall_mem_cons.mpr ⟨snd_iload d0_1592, List.forall_mem_cons.mpr ⟨snd_iconst d0_1594 (by decide +kernel), List.forall_mem_cons.mpr ⟨snd_iadd d0_1595, List.forall_mem_cons.mpr ⟨snd_scr rfl d0_1596, List.forall_mem_cons.mpr ⟨snd_aload_n d0_1597 rfl, List.forall_mem_cons.mpr ⟨snd_iload d0_1598, List.forall_mem_cons.mpr ⟨snd_iconst d0_1600 (by decide +kernel), List.forall_mem_cons.mpr ⟨snd_iadd d0_1601, List.forall_mem_cons.mpr ⟨snd_scr rfl d0_1602, List.forall_mem_cons.mpr ⟨snd_callV (by decide) rfl cn268 ⟨by decide +kernel, by decide +kernel⟩ cm268 (List.forall_mem_cons.mpr ⟨wd1861, cw268⟩) d0_1603, List.forall_mem_cons.mpr ⟨snd_cmp_eq d0_1606 (by decide), List.forall_mem_cons.mpr ⟨snd_iconst d0_1609 (by decide +kernel), List.forall_mem_cons.mpr ⟨snd_zret rfl d0_1610, List.forall_mem_cons.mpr ⟨snd_aload_n d0_1611 rfl, List.forall_mem_cons.mpr ⟨snd_callV (by decide) rfl cn136 ⟨by decide +kernel, by decide +kernel⟩ cm136 (List.forall_mem_cons.mpr ⟨wd1139, cw136⟩) d0_1612, fun _ h => by cases h⟩⟩⟩⟩⟩⟩⟩⟩⟩⟩⟩⟩⟩⟩⟩⟩⟩⟩⟩⟩⟩⟩⟩⟩⟩⟩⟩⟩⟩⟩
theorem sc0_35 : ∀ q ∈ tc0_35, Snd xtb M0 q.1 q.2 := List.forall_mem_cons.mpr ⟨snd_aload_n d0_1615 rfl, List.forall_mem_cons.mpr ⟨snd_callV (by decide) rfl cn271 ⟨by decide +kernel, by decide +kernel⟩ cm271 (List.forall_mem_cons.mpr ⟨wd1865, cw271⟩) d0_1616, List.forall_mem_cons.mpr ⟨snd_cmp_eq d0_1619 (by decide), List.forall_mem_cons.mpr ⟨snd_iconst d0_1622 (by decide +kernel), List.forall_mem_cons.mpr ⟨snd_zret rfl d0_1623, List.forall_mem_cons.mpr ⟨snd_aload_n d0_1624 rfl, List.forall_mem_cons.mpr ⟨snd_aload_n d0_1625 rfl, List.forall_mem_cons.mpr ⟨snd_iload d0_1626, List.forall_mem_cons.mpr ⟨snd_iconst d0_1628 (by decide +kernel), List.forall_mem_cons.mpr ⟨snd_iadd d0_1629, List.forall_mem_cons.mpr ⟨snd_scr rfl d0_1630, List.forall_mem_cons.mpr ⟨snd_aload_n d0_1631 rfl, List.forall_mem_cons.mpr ⟨snd_iload d0_1632, List.forall_mem_cons.mpr ⟨snd_iconst d0_1634 (by decide +kernel), List.forall_mem_cons.mpr ⟨snd_iadd d0_1635, List.forall_mem_cons.mpr ⟨snd_scr rfl d0_1636, List.forall_mem_cons.mpr ⟨snd_callV (by decide) rfl cn137 ⟨by decide +kernel, by decide +kernel⟩ cm137 (List.forall_mem_cons.mpr ⟨wd1147, cw137⟩) d0_1637, List.forall_mem_cons.mpr ⟨snd_aload_n d0_1640 rfl, List.forall_mem_cons.mpr ⟨snd_aload_n d0_1641 rfl, List.forall_mem_cons.mpr ⟨snd_iload d0_1642, List.forall_mem_cons.mpr ⟨snd_iconst d0_1644 (by decide +kernel), List.forall_mem_cons.mpr ⟨snd_iadd d0_1645, List.forall_mem_cons.mpr ⟨snd_scr rfl d0_1646, List.forall_mem_cons.mpr ⟨snd_aload_n d0_1647 rfl, List.forall_mem_cons.mpr ⟨snd_iload d0_1648, List.forall_mem_cons.mpr ⟨snd_iconst d0_1650 (by decide +kernel), List.forall_mem_cons.mpr ⟨snd_iadd d0_1651, List.forall_mem_cons.mpr ⟨snd_scr rfl d0_1652, List.forall_mem_cons.mpr ⟨snd_callV (by decide) rfl cn272 ⟨by decide +kernel, by decide +kernel⟩ cm272 (List.forall_mem_cons.mpr ⟨wd1877, cw272⟩) d0_1653, List.forall_mem_cons.mpr ⟨snd_cmp_eq d0_1656 (by decide), fun _ h => by cases h⟩⟩⟩⟩⟩⟩⟩⟩⟩⟩⟩⟩⟩⟩⟩⟩⟩⟩⟩⟩⟩⟩⟩⟩⟩⟩⟩⟩⟩⟩
theorem sc0_36 : ∀ q ∈ tc0_36, Snd xtb M0 q.1 q.2 := List.forall_mem_cons.mpr ⟨snd_iconst d0_1659 (by decide +kernel), List.forall_mem_cons.mpr ⟨snd_zret rfl d0_1660, List.forall_mem_cons.mpr ⟨snd_aload_n d0_1661 rfl, List.forall_mem_cons.mpr ⟨snd_aload_n d0_1662 rfl, List.forall_mem_cons.mpr ⟨snd_iload d0_1663, List.forall_mem_cons.mpr ⟨snd_iconst d0_1665 (by decide +kernel), List.forall_mem_cons.mpr ⟨snd_iadd d0_1666, List.forall_mem_cons.mpr ⟨snd_scr rfl d0_1667, List.forall_mem_cons.mpr ⟨snd_aload_n d0_1668 rfl, List.forall_mem_cons.mpr ⟨snd_iload d0_1669, List.forall_mem_cons.mpr ⟨snd_iconst d0_1671 (by decide +kernel), List.forall_mem_cons.mpr ⟨snd_iadd d0_1672, List.forall_mem_cons.mpr ⟨snd_scr rfl d0_1673, List.forall_mem_cons.mpr ⟨snd_callV (by decide) rfl cn138 ⟨by decide +kernel, by decide +kernel⟩ cm138 (List.forall_mem_cons.mpr ⟨wd1156, cw138⟩) d0_1674, List.forall_mem_cons.mpr ⟨snd_aload_n d0_1677 rfl, List.forall_mem_cons.mpr ⟨snd_aload_n d0_1678 rfl, List.forall_mem_cons.mpr ⟨snd_iload d0_1679, List.forall_mem_cons.mpr ⟨snd_iconst d0_1681 (by decide +kernel), List.forall_mem_cons.mpr ⟨snd_iadd d0_1682, List.forall_mem_cons.mpr ⟨snd_scr rfl d0_1683, List.forall_mem_cons.mpr ⟨snd_aload_n d0_1684 rfl, List.forall_mem_cons.mpr ⟨snd_iload d0_1685, List.forall_mem_cons.mpr ⟨snd_iconst d0_1687 (by decide +kernel), List.forall_mem_cons.mpr ⟨snd_iadd d0_1688, List.forall_mem_cons.mpr ⟨snd_scr rfl d0_1689, List.forall_mem_cons.mpr ⟨snd_callV (by decide) rfl cn273 ⟨by decide +kernel, by decide +kernel⟩ cm273 (List.forall_mem_cons.mpr ⟨wd1881, cw273⟩) d0_1690, List.forall_mem_cons.mpr ⟨snd_cmp_eq d0_1693 (by decide), List.forall_mem_cons.mpr ⟨snd_iconst d0_1696 (by decide +kernel), List.forall_mem_cons.mpr ⟨snd_zret rfl d0_1697, List.forall_mem_cons.mpr ⟨snd_aload_n d0_1698 rfl, fun _ h => by cases h⟩⟩⟩⟩⟩⟩⟩⟩⟩⟩⟩⟩⟩⟩⟩⟩⟩⟩⟩⟩⟩⟩⟩⟩⟩⟩⟩⟩⟩⟩
theorem sc0_37 : ∀ q ∈ tc0_37, Snd xtb M0 q.1 q.2 := List.forall_mem_cons.mpr ⟨snd_callV (by decide) rfl cn139 ⟨by decide +kernel, by decide +kernel⟩ cm139 (List.forall_mem_cons.mpr ⟨wd1164, cw139⟩) d0_1699, List.forall_mem_cons.mpr ⟨snd_aload_n d0_1702 rfl, List.forall_mem_cons.mpr ⟨snd_callV (by decide) rfl cn279 ⟨by decide +kernel, by decide +kernel⟩ cm279 (List.forall_mem_cons.mpr ⟨wd1885, cw279⟩) d0_1703, List.forall_mem_cons.mpr ⟨snd_cmp_eq d0_1706 (by decide), List.forall_mem_cons.mpr ⟨snd_iconst d0_1709 (by decide +kernel), List.forall_mem_cons.mpr ⟨snd_zret rfl d0_1710, List.forall_mem_cons.mpr ⟨snd_aload_n d0_1711 rfl, List.forall_mem_cons.mpr ⟨snd_aload_n d0_1712 rfl, List.forall_mem_cons.mpr ⟨snd_iload d0_1713, List.forall_mem_cons.mpr ⟨snd_iconst d0_1715 (by decide +kernel), List.forall_mem_cons.mpr ⟨snd_iadd d0_1716, List.forall_mem_cons.mpr ⟨snd_scr rfl d0_1717, List.forall_mem_cons.mpr ⟨snd_aload_n d0_1718 rfl, List.forall_mem_cons.mpr ⟨snd_iload d0_1719, List.forall_mem_cons.mpr ⟨snd_iconst d0_1721 (by decide +kernel), List.forall_mem_cons.mpr ⟨snd_iadd d0_1722, List.forall_mem_cons.mpr ⟨snd_scr rfl d0_1723, List.forall_mem_cons.mpr ⟨snd_callV (by decide) rfl cn140 ⟨by decide +kernel, by decide +kernel⟩ cm140 (List.forall_mem_cons.mpr ⟨wd1168, cw140⟩) d0_1724, List.forall_mem_cons.mpr ⟨snd_aload_n d0_1727 rfl, List.forall_mem_cons.mpr ⟨snd_aload_n d0_1728 rfl, List.forall_mem_cons.mpr ⟨snd_iload d0_1729, List.forall_mem_cons.mpr ⟨snd_iconst d0_1731 (by decide +kernel), List.forall_mem_cons.mpr ⟨snd_iadd d0_1732, List.forall_mem_cons.mpr ⟨snd_scr rfl d0_1733, List.forall_mem_cons.mpr ⟨snd_aload_n d0_1734 rfl, List.forall_mem_cons.mpr ⟨snd_iload d0_1735, List.forall_mem_cons.mpr ⟨snd_iconst d0_1737 (by decide +kernel), List.forall_mem_cons.mpr ⟨snd_iadd d0_1738, List.forall_mem_cons.mpr ⟨snd_scr rfl d0_1739, List.forall_mem_cons.mpr ⟨snd_callV (by decide) rfl cn280 ⟨by decide +kernel, by decide +kernel⟩ cm280 (List.forall_mem_cons.mpr ⟨wd1889, cw280⟩) d0_1740, fun _ h => by cases h⟩⟩⟩⟩⟩⟩⟩⟩⟩⟩⟩⟩⟩⟩⟩⟩⟩⟩⟩⟩⟩⟩⟩⟩⟩⟩⟩⟩⟩⟩
theorem sc0_38 : ∀ q ∈ tc0_38, Snd xtb M0 q.1 q.2 := List.forall_mem_cons.mpr ⟨snd_cmp_eq d0_1743 (by decide), List.forall_mem_cons.mpr ⟨snd_iconst d0_1746 (by decide +kernel), List.forall_mem_cons.mpr ⟨snd_zret rfl d0_1747, List.forall_mem_cons.mpr ⟨snd_aload_n d0_1748 rfl, List.forall_mem_cons.mpr ⟨snd_aload_n d0_1749 rfl, List.forall_mem_cons.mpr ⟨snd_iload d0_1750, List.forall_mem_cons.mpr ⟨snd_iconst d0_1752 (by decide +kernel), List.forall_mem_cons.mpr ⟨snd_iadd d0_1753, List.forall_mem_cons.mpr ⟨snd_scr rfl d0_1754, List.forall_mem_cons.mpr ⟨snd_aload_n d0_1755 rfl, List.forall_mem_cons.mpr ⟨snd_iload d0_1756, List.forall_mem_cons.mpr ⟨snd_iconst d0_1758 (by decide +kernel), List.forall_mem_cons.mpr ⟨snd_iadd d0_1759, List.forall_mem_cons.mpr ⟨snd_scr rfl d0_1760, List.forall_mem_cons.mpr ⟨snd_callV (by decide) rfl cn141 ⟨by decide +kernel, by decide +kernel⟩ cm141 (List.forall_mem_cons.mpr ⟨wd1181, cw141⟩) d0_1761, List.forall_mem_cons.mpr ⟨snd_aload_n d0_1764 rfl, List.forall_mem_cons.mpr ⟨snd_aload_n d0_1765 rfl, List.forall_mem_cons.mpr ⟨snd_iload d0_1766, List.forall_mem_cons.mpr ⟨snd_iconst d0_1768 (by decide +kernel), List.forall_mem_cons.mpr ⟨snd_iadd d0_1769, List.forall_mem_cons.mpr ⟨snd_scr rfl d0_1770, List.forall_mem_cons.mpr ⟨snd_aload_n d0_1771 rfl, List.forall_mem_cons.mpr ⟨snd_iload d0_1772, List.forall_mem_cons.mpr ⟨snd_iconst d0_1774 (by decide +kernel), List.forall_mem_cons.mpr ⟨snd_iadd d0_1775, List.forall_mem_cons.mpr ⟨snd_scr rfl d0_1776, List.forall_mem_cons.mpr ⟨snd_callV (by decide) rfl cn281 ⟨by decide +kernel, by decide +kernel⟩ cm281 (List.forall_mem_cons.mpr ⟨wd1897, cw281⟩) d0_1777, List.forall_mem_cons.mpr ⟨snd_cmp_eq d0_1780 (by decide), List.forall_mem_cons.mpr ⟨snd_iconst d0_1783 (by decide +kernel), List.forall_mem_cons.mpr ⟨snd_zret rfl d0_1784, fun _ h => by cases h⟩⟩⟩⟩⟩⟩⟩⟩⟩⟩⟩⟩⟩⟩⟩⟩⟩⟩⟩⟩⟩⟩⟩⟩⟩⟩⟩⟩⟩⟩
theorem sc0_39 : ∀ q ∈ tc0_39, Snd xtb M0 q.1 q.2 := List.forall_mem_cons.mpr ⟨snd_aload_n d0_1785 rfl, List.forall_mem_cons.mpr ⟨snd_aload_n d0_1786 rfl, List.forall_mem_cons.mpr ⟨snd_iload d0_1787, List.forall_mem_cons.mpr ⟨snd_iconst d0_1789 (by decide +kernel), List.forall_mem_cons.mpr ⟨snd_iadd d0_1790, List.forall_mem_cons.mpr ⟨snd_scr rfl d0_1791, List.forall_mem_cons.mpr ⟨snd_aload_n d0_1792 rfl, List.forall_mem_cons.mpr ⟨snd_iload d0_1793, List.forall_mem_cons.mpr ⟨snd_iconst d0_1795 (by decide +kernel), List.forall_mem_cons.mpr ⟨snd_iadd d0_1796, List.forall_mem_cons.mpr ⟨snd_scr rfl d0_1797, List.forall_mem_cons.mpr ⟨snd_callV (by decide) rfl cn142 ⟨by decide +kernel, by decide +kernel⟩ cm142 (List.forall_mem_cons.mpr ⟨wd1189, cw142⟩) d0_1798, List.forall_mem_cons.mpr ⟨snd_aload_n d0_1801 rfl, List.forall_mem_cons.mpr ⟨snd_aload_n d0_1802 rfl, List.forall_mem_cons.mpr ⟨snd_iload d0_1803, List.forall_mem_cons.mpr ⟨snd_iconst d0_1805 (by decide +kernel), List.forall_mem_cons.mpr ⟨snd_iadd d0_1806, List.forall_mem_cons.mpr ⟨snd_scr rfl d0_1807, List.forall_mem_cons.mpr ⟨snd_aload_n d0_1808 rfl, List.forall_mem_cons.mpr ⟨snd_iload d0_1809, List.forall_mem_cons.mpr ⟨snd_iconst d0_1811 (by decide +kernel), List.forall_mem_cons.mpr ⟨snd_iadd d0_1812, List.forall_mem_cons.mpr ⟨snd_scr rfl d0_1813, List.forall_mem_cons.mpr ⟨snd_callV (by decide) rfl cn283 ⟨by decide +kernel, by decide +kernel⟩ cm283 (List.forall_mem_cons.mpr ⟨wd1905, cw283⟩) d0_1814, List.forall_mem_cons.mpr ⟨snd_cmp_eq d0_1817 (by decide), List.forall_mem_cons.mpr ⟨snd_iconst d0_1820 (by decide +kernel), List.forall_mem_cons.mpr ⟨snd_zret rfl d0_1821, List.forall_mem_cons.mpr ⟨snd_aload_n d0_1822 rfl, List.forall_mem_cons.mpr ⟨snd_callV (by decide) rfl cn143 ⟨by decide +kernel, by decide +kernel⟩ cm143 (List.forall_mem_cons.mpr ⟨wd1202, cw143⟩) d0_1823, List.forall_mem_cons.mpr ⟨snd_aload_n d0_1826 rfl, fun _ h => by cases h⟩⟩⟩⟩⟩⟩⟩⟩⟩⟩⟩⟩⟩⟩⟩⟩⟩⟩⟩⟩⟩⟩⟩⟩⟩⟩⟩⟩⟩⟩
theorem sc0_40 : ∀ q ∈ tc0_40, Snd xtb M0 q.1 q.2 := List.forall_mem_cons.mpr ⟨snd_callV (by decide) rfl cn287 ⟨by decide +kernel, by decide +kernel⟩ cm287 (List.forall_mem_cons.mpr ⟨wd1933, cw287⟩) d0_1827, List.forall_mem_cons.mpr ⟨snd_cmp_eq d0_1830 (by decide), List.forall_mem_cons.mpr ⟨snd_iconst d0_1833 (by decide +kernel), List.forall_mem_cons.mpr ⟨snd_zret rfl d0_1834, List.forall_mem_cons.mpr ⟨snd_aload_n d0_1835 rfl, List.forall_mem_cons.mpr ⟨snd_aload_n d0_1836 rfl, List.forall_mem_cons.mpr ⟨snd_iload d0_1837, List.forall_mem_cons.mpr ⟨snd_iconst d0_1839 (by decide +kernel), List.forall_mem_cons.mpr ⟨snd_iadd d0_1840, List.forall_mem_cons.mpr ⟨snd_scr rfl d0_1841, List.forall_mem_cons.mpr ⟨snd_callV (by decide) rfl cn144 ⟨by decide +kernel, by decide +kernel⟩ cm144 (List.forall_mem_cons.mpr ⟨wd1210, cw144⟩) d0_1842, List.forall_mem_cons.mpr ⟨snd_aload_n d0_1845 rfl, List.forall_mem_cons.mpr ⟨snd_aload_n d0_1846 rfl, List.forall_mem_cons.mpr ⟨snd_iload d0_1847, List.forall_mem_cons.mpr ⟨snd_iconst d0_1849 (by decide +kernel), List.forall_mem_cons.mpr ⟨snd_iadd d0_1850, List.forall_mem_cons.mpr ⟨snd_scr rfl d0_1851, List.forall_mem_cons.mpr ⟨snd_callV (by decide) rfl cn288 ⟨by decide +kernel, by decide +kernel⟩ cm288 (List.forall_mem_cons.mpr ⟨wd1941, cw288⟩) d0_1852, List.forall_mem_cons.mpr ⟨snd_cmp_eq d0_1855 (by decide), List.forall_mem_cons.mpr ⟨snd_iconst d0_1858 (by decide +kernel), List.forall_mem_cons.mpr ⟨snd_zret rfl d0_1859, List.forall_mem_cons.mpr ⟨snd_aload_n d0_1860 rfl, List.forall_mem_cons.mpr ⟨snd_aload_n d0_1861 rfl, List.forall_mem_cons.mpr ⟨snd_iload d0_1862, List.forall_mem_cons.mpr ⟨snd_iconst d0_1864 (by decide +kernel), List.forall_mem_cons.mpr ⟨snd_iadd d0_1865, List.forall_mem_cons.mpr ⟨snd_scr rfl d0_1866, List.forall_mem_cons.mpr ⟨snd_callV (by decide) rfl cn145 ⟨by decide +kernel, by decide +kernel⟩ cm145 (List.forall_mem_cons.mpr ⟨wd1214, cw145⟩) d0_1867, List.forall_mem_cons.mpr ⟨snd_aload_n d0_1870 rfl, List.forall_mem_cons.mpr ⟨snd_aload_n d0_1871 rfl, fun _ h => by cases h⟩⟩⟩⟩⟩⟩⟩⟩⟩⟩⟩⟩⟩⟩⟩⟩⟩⟩⟩⟩⟩⟩⟩⟩⟩⟩⟩⟩⟩⟩
theorem sc0_41 : ∀ q ∈ tc0_41, Snd xtb M0 q.1 q.2 := List.forall_mem_cons.mpr ⟨snd_iload d0_1872, List.forall_mem_cons.mpr ⟨snd_iconst d0_1874 (by decide +kernel), List.forall_mem_cons.mpr ⟨snd_iadd d0_1875, List.forall_mem_cons.mpr ⟨snd_scr rfl d0_1876, List.forall_mem_cons.mpr ⟨snd_callV (by decide) rfl cn284 ⟨by decide +kernel, by decide +kernel⟩ cm284 (List.forall_mem_cons.mpr ⟨wd1925, cw284⟩) d0_1877, List.forall_mem_cons.mpr ⟨snd_cmp_eq d0_1880 (by decide), List.forall_mem_cons.mpr ⟨snd_iconst d0_1883 (by decide +kernel), List.forall_mem_cons.mpr ⟨snd_zret rfl d0_1884, List.forall_mem_cons.mpr ⟨snd_aload_n d0_1885 rfl, List.forall_mem_cons.mpr ⟨snd_aload_n d0_1886 rfl, List.forall_mem_cons.mpr ⟨snd_iload d0_1887, List.forall_mem_cons.mpr ⟨snd_iconst d0_1889 (by decide +kernel), List.forall_mem_cons.mpr ⟨snd_iadd d0_1890, List.forall_mem_cons.mpr ⟨snd_scr rfl d0_1891, List.forall_mem_cons.mpr ⟨snd_aload_n d0_1892 rfl, List.forall_mem_cons.mpr ⟨snd_iload d0_1893, List.forall_mem_cons.mpr ⟨snd_iconst d0_1895 (by decide +kernel), List.forall_mem_cons.mpr ⟨snd_iadd d0_1896, List.forall_mem_cons.mpr ⟨snd_scr rfl d0_1897, List.forall_mem_cons.mpr ⟨snd_aload_n d0_1898 rfl, List.forall_mem_cons.mpr ⟨snd_iload d0_1899, List.forall_mem_cons.mpr ⟨snd_iconst d0_1901 (by decide +kernel), List.forall_mem_cons.mpr ⟨snd_iadd d0_1902, List.forall_mem_cons.mpr ⟨snd_scr rfl d0_1903, List.forall_mem_cons.mpr ⟨snd_aload_n d0_1904 rfl, List.forall_mem_cons.mpr ⟨snd_iload d0_1905, List.forall_mem_cons.mpr ⟨snd_iconst d0_1907 (by decide +kernel), List.forall_mem_cons.mpr ⟨snd_iadd d0_1908, List.forall_mem_cons.mpr ⟨snd_scr rfl d0_1909, List.forall_mem_cons.mpr ⟨snd_aload_n d0_1910 rfl, fun _ h => by cases h⟩⟩⟩⟩⟩⟩⟩⟩⟩⟩⟩⟩⟩⟩⟩⟩⟩⟩⟩⟩⟩⟩⟩⟩⟩⟩⟩⟩⟩⟩
theorem sc0_42 : ∀ q ∈ tc0_42, Snd xtb M0 q.1 q.2 := List.forall_mem_cons.mpr ⟨snd_iload d0_1911, List.forall_mem_cons.mpr ⟨snd_iconst d0_1913 (by decide +kernel), List.forall_mem_cons.mpr ⟨snd_iadd d0_1914, List.forall_mem_cons.mpr ⟨snd_scr rfl d0_1915, List.forall_mem_cons.mpr ⟨snd_aload_n d0_1916 rfl, List.forall_mem_cons.mpr ⟨snd_iload d0_1917, List.forall_mem_cons.mpr ⟨snd_bipush d0_1919 (by decide +kernel), List.forall_mem_cons.mpr ⟨snd_iadd d0_1921, List.forall_mem_cons.mpr ⟨snd_scr rfl d0_1922, List.forall_mem_cons.mpr ⟨snd_callV (by decide) rfl cn146 ⟨by decide +kernel, by decide +kernel⟩ cm146 (List.forall_mem_cons.mpr ⟨wd1231, cw146⟩) d0_1923, List.forall_mem_cons.mpr ⟨snd_aload_n d0_1926 rfl, List.forall_mem_cons.mpr ⟨snd_aload_n d0_1927 rfl, List.forall_mem_cons.mpr ⟨snd_iload d0_1928, List.forall_mem_cons.mpr ⟨snd_iconst d0_1930 (by decide +kernel), List.forall_mem_cons.mpr ⟨snd_iadd d0_1931, List.forall_mem_cons.mpr ⟨snd_scr rfl d0_1932, List.forall_mem_cons.mpr ⟨snd_aload_n d0_1933 rfl, List.forall_mem_cons.mpr ⟨snd_iload d0_1934, List.forall_mem_cons.mpr ⟨snd_iconst d0_1936 (by decide +kernel), List.forall_mem_cons.mpr ⟨snd_iadd d0_1937, List.forall_mem_cons.mpr ⟨snd_scr rfl d0_1938, List.forall_mem_cons.mpr ⟨snd_aload_n d0_1939 rfl, List.forall_mem_cons.mpr ⟨snd_iload d0_1940, List.forall_mem_cons.mpr ⟨snd_iconst d0_1942 (by decide +kernel), List.forall_mem_cons.mpr ⟨snd_iadd d0_1943, List.forall_mem_cons.mpr ⟨snd_scr rfl d0_1944, List.forall_mem_cons.mpr ⟨snd_aload_n d0_1945 rfl, List.forall_mem_cons.mpr ⟨snd_iload d0_1946, List.forall_mem_cons.mpr ⟨snd_iconst d0_1948 (by decide +kernel), List.forall_mem_cons.mpr ⟨snd_iadd d0_1949, fun _ h => by cases h⟩⟩⟩⟩⟩⟩⟩⟩⟩⟩⟩⟩⟩⟩⟩⟩⟩⟩⟩⟩⟩⟩⟩⟩⟩⟩⟩⟩⟩⟩
theorem sc0_43 : ∀ q ∈ tc0_43, Snd xtb M0 q.1 q.2 := List.forall_mem_cons.mpr ⟨snd_scr rfl d0_1950, List.forall_mem_cons.mpr ⟨snd_aload_n d0_1951 rfl, List.forall_mem_cons.mpr ⟨snd_iload d0_1952, List.forall_mem_cons.mpr ⟨snd_iconst d0_1954 (by decide +kernel), List.forall_mem_cons.mpr ⟨snd_iadd d0_1955, List.forall_mem_cons.mpr ⟨snd_scr rfl d0_1956, List.forall_mem_cons.mpr ⟨snd_aload_n d0_1957 rfl, List.forall_mem_cons.mpr ⟨snd_iload d0_1958, List.forall_mem_cons.mpr ⟨snd_bipush d0_1960 (by decide +kernel), List.forall_mem_cons.mpr ⟨snd_iadd d0_1962, List.forall_mem_cons.mpr ⟨snd_scr rfl d0_1963, List.forall_mem_cons.mpr ⟨snd_callV (by decide) rfl cn290 ⟨by decide +kernel, by decide +kernel⟩ cm290 (List.forall_mem_cons.mpr ⟨wd1945, cw290⟩) d0_1964, List.forall_mem_cons.mpr ⟨snd_cmp_eq d0_1967 (by decide), List.forall_mem_cons.mpr ⟨snd_iconst d0_1970 (by decide +kernel), List.forall_mem_cons.mpr ⟨snd_zret rfl d0_1971, List.forall_mem_cons.mpr ⟨snd_aload_n d0_1972 rfl, List.forall_mem_cons.mpr ⟨snd_aload_n d0_1973 rfl, List.forall_mem_cons.mpr ⟨snd_iload d0_1974, List.forall_mem_cons.mpr ⟨snd_iconst d0_1976 (by decide +kernel), List.forall_mem_cons.mpr ⟨snd_iadd d0_1977, List.forall_mem_cons.mpr ⟨snd_scr rfl d0_1978, List.forall_mem_cons.mpr ⟨snd_aload_n d0_1979 rfl, List.forall_mem_cons.mpr ⟨snd_iload d0_1980, List.forall_mem_cons.mpr ⟨snd_iconst d0_1982 (by decide +kernel), List.forall_mem_cons.mpr ⟨snd_iadd d0_1983, List.forall_mem_cons.mpr ⟨snd_scr rfl d0_1984, List.forall_mem_cons.mpr ⟨snd_callV (by decide) rfl cn147 ⟨by decide +kernel, by decide +kernel⟩ cm147 (List.forall_mem_cons.mpr ⟨wd1235, cw147⟩) d0_1985, List.forall_mem_cons.mpr ⟨snd_aload_n d0_1988 rfl, List.forall_mem_cons.mpr ⟨snd_aload_n d0_1989 rfl, List.forall_mem_cons.mpr ⟨snd_iload d0_1990, fun _ h => by cases h⟩⟩⟩⟩⟩⟩⟩⟩⟩⟩⟩⟩⟩⟩⟩⟩⟩⟩⟩⟩⟩⟩⟩⟩⟩⟩⟩⟩⟩⟩
theorem sc0_44 : ∀ q ∈ tc0_44, Snd xtb M0 q.1 q.2 := List.forall_mem_cons.mpr ⟨snd_iconst d0_1992 (by decide +kernel), List.forall_mem_cons.mpr ⟨snd_iadd d0_1993, List.forall_mem_cons.mpr ⟨snd_scr rfl d0_1994, List.forall_mem_cons.mpr ⟨snd_aload_n d0_1995 rfl, List.forall_mem_cons.mpr ⟨snd_iload d0_1996, List.forall_mem_cons.mpr ⟨snd_iconst d0_1998 (by decide +kernel), List.forall_mem_cons.mpr ⟨snd_iadd d0_1999, List.forall_mem_cons.mpr ⟨snd_scr rfl d0_2000, List.forall_mem_cons.mpr ⟨snd_callV (by decide) rfl cn291 ⟨by decide +kernel, by decide +kernel⟩ cm291 (List.forall_mem_cons.mpr ⟨wd1949, cw291⟩) d0_2001, List.forall_mem_cons.mpr ⟨snd_cmp_eq d0_2004 (by decide), List.forall_mem_cons.mpr ⟨snd_iconst d0_2007 (by decide +kernel), List.forall_mem_cons.mpr ⟨snd_zret rfl d0_2008, List.forall_mem_cons.mpr ⟨snd_aload_n d0_2009 rfl, List.forall_mem_cons.mpr ⟨snd_aload_n d0_2010 rfl, List.forall_mem_cons.mpr ⟨snd_iload d0_2011, List.forall_mem_cons.mpr ⟨snd_iconst d0_2013 (by decide +kernel), List.forall_mem_cons.mpr ⟨snd_iadd d0_2014, List.forall_mem_cons.mpr ⟨snd_scr rfl d0_2015, List.forall_mem_cons.mpr ⟨snd_aload_n d0_2016 rfl, List.forall_mem_cons.mpr ⟨snd_iload d0_2017, List.forall_mem_cons.mpr ⟨snd_iconst d0_2019 (by decide +kernel), List.forall_mem_cons.mpr ⟨snd_iadd d0_2020, List.forall_mem_cons.mpr ⟨snd_scr rfl d0_2021, List.forall_mem_cons.mpr ⟨snd_aload_n d0_2022 rfl, List.forall_mem_cons.mpr ⟨snd_iload d0_2023, List.forall_mem_cons.mpr ⟨snd_iconst d0_2025 (by decide +kernel), List.forall_mem_cons.mpr ⟨snd_iadd d0_2026, List.forall_mem_cons.mpr ⟨snd_scr rfl d0_2027, List.forall_mem_cons.mpr ⟨snd_aload_n d0_2028 rfl, List.forall_mem_cons.mpr ⟨snd_iload d0_2029, fun _ h => by cases h⟩⟩⟩⟩⟩⟩⟩⟩⟩⟩⟩⟩⟩⟩⟩⟩⟩⟩⟩⟩⟩⟩⟩⟩⟩⟩⟩⟩⟩⟩
theorem sc0_45 : ∀ q ∈ tc0_45, Snd xtb M0 q.1 q.2 := List.forall_mem_cons.mpr ⟨snd_iconst d0_2031 (by decide +kernel), List.forall_mem_cons.mpr ⟨snd_iadd d0_2032, List.forall_mem_cons.mpr ⟨snd_scr rfl d0_2033, List.forall_mem_cons.mpr ⟨snd_callV (by decide) rfl cn148 ⟨by decide +kernel, by decide +kernel⟩ cm148 (List.forall_mem_cons.mpr ⟨wd1239, cw148⟩) d0_2034, List.forall_mem_cons.mpr ⟨snd_aload_n d0_2037 rfl, List.forall_mem_cons.mpr ⟨snd_aload_n d0_2038 rfl, List.forall_mem_cons.mpr ⟨snd_iload d0_2039, List.forall_mem_cons.mpr ⟨snd_iconst d0_2041 (by decide +kernel), List.forall_mem_cons.mpr ⟨snd_iadd d0_2042, List.forall_mem_cons.mpr ⟨snd_scr rfl d0_2043, List.forall_mem_cons.mpr ⟨snd_aload_n d0_2044 rfl, List.forall_mem_cons.mpr ⟨snd_iload d0_2045, List.forall_mem_cons.mpr ⟨snd_iconst d0_2047 (by decide +kernel), List.forall_mem_cons.mpr ⟨snd_iadd d0_2048, List.forall_mem_cons.mpr ⟨snd_scr rfl d0_2049, List.forall_mem_cons.mpr ⟨snd_aload_n d0_2050 rfl, List.forall_mem_cons.mpr ⟨snd_iload d0_2051, List.forall_mem_cons.mpr ⟨snd_iconst d0_2053 (by decide +kernel), List.forall_mem_cons.mpr ⟨snd_iadd d0_2054, List.forall_mem_cons.mpr ⟨snd_scr rfl d0_2055, List.forall_mem_cons.mpr ⟨snd_aload_n d0_2056 rfl, List.forall_mem_cons.mpr ⟨snd_iload d0_2057, List.forall_mem_cons.mpr ⟨snd_iconst d0_2059 (by decide +kernel), List.forall_mem_cons.mpr ⟨snd_iadd d0_2060, List.forall_mem_cons.mpr ⟨snd_scr rfl d0_2061, List.forall_mem_cons.mpr ⟨snd_callV (by decide) rfl cn293 ⟨by decide +kernel, by decide +kernel⟩ cm293 (List.forall_mem_cons.mpr ⟨wd1953, cw293⟩) d0_2062, List.forall_mem_cons.mpr ⟨snd_cmp_eq d0_2065 (by decide), List.forall_mem_cons.mpr ⟨snd_iconst d0_2068 (by decide +kernel), List.forall_mem_cons.mpr ⟨snd_zret rfl d0_2069, List.forall_mem_cons.mpr ⟨snd_aload_n d0_2070 rfl, fun _ h => by cases h⟩⟩⟩⟩⟩⟩⟩⟩⟩⟩⟩⟩⟩⟩⟩⟩⟩⟩⟩⟩⟩⟩⟩⟩⟩⟩⟩⟩⟩⟩
theorem sc0_46 : ∀ q ∈ tc0_46, Snd xtb M0 q.1 q.2 := List.forall_mem_cons.mpr ⟨snd_aload_n d0_2071 rfl, List.forall_mem_cons.mpr ⟨snd_iload d0_2072, List.forall_mem_cons.mpr ⟨snd_iconst d0_2074 (by decide +kernel), List.forall_mem_cons.mpr ⟨snd_iadd d0_2075, List.forall_mem_cons.mpr ⟨snd_scr rfl d0_2076, List.forall_mem_cons.mpr ⟨snd_aload_n d0_2077 rfl, List.forall_mem_cons.mpr ⟨snd_iload d0_2078, List.forall_mem_cons.mpr ⟨snd_iconst d0_2080 (by decide +kernel), List.forall_mem_cons.mpr ⟨snd_iadd d0_2081, List.forall_mem_cons.mpr ⟨snd_scr rfl d0_2082, List.forall_mem_cons.mpr ⟨snd_aload_n d0_2083 rfl, List.forall_mem_cons.mpr ⟨snd_iload d0_2084, List.forall_mem_cons.mpr ⟨snd_iconst d0_2086 (by decide +kernel), List.forall_mem_cons.mpr ⟨snd_iadd d0_2087, List.forall_mem_cons.mpr ⟨snd_scr rfl d0_2088, List.forall_mem_cons.mpr ⟨snd_aload_n d0_2089 rfl, List.forall_mem_cons.mpr ⟨snd_iload d0_2090, List.forall_mem_cons.mpr ⟨snd_iconst d0_2092 (by decide +kernel), List.forall_mem_cons.mpr ⟨snd_iadd d0_2093, List.forall_mem_cons.mpr ⟨snd_scr rfl d0_2094, List.forall_mem_cons.mpr ⟨snd_callV (by decide) rfl cn149 ⟨by decide +kernel, by decide +kernel⟩ cm149 (List.forall_mem_cons.mpr ⟨wd1254, cw149⟩) d0_2095, List.forall_mem_cons.mpr ⟨snd_aload_n d0_2098 rfl, List.forall_mem_cons.mpr ⟨snd_aload_n d0_2099 rfl, List.forall_mem_cons.mpr ⟨snd_iload d0_2100, List.forall_mem_cons.mpr ⟨snd_iconst d0_2102 (by decide +kernel), List.forall_mem_cons.mpr ⟨snd_iadd d0_2103, List.forall_mem_cons.mpr ⟨snd_scr rfl d0_2104, List.forall_mem_cons.mpr ⟨snd_aload_n d0_2105 rfl, List.forall_mem_cons.mpr ⟨snd_iload d0_2106, List.forall_mem_cons.mpr ⟨snd_iconst d0_2108 (by decide +kernel), fun _ h => by cases h⟩⟩⟩⟩⟩⟩⟩⟩⟩⟩⟩⟩⟩⟩⟩⟩⟩⟩⟩⟩⟩⟩⟩⟩⟩⟩⟩⟩⟩⟩
theorem sc0_47 : ∀ q ∈ tc0_47, Snd xtb M0 q.1 q.2 := List.forall_mem_cons.mpr ⟨snd_iadd d0_2109, List.forall_mem_cons.mpr ⟨snd_scr rfl d0_2110, List.forall_mem_cons.mpr ⟨snd_aload_n d0_2111 rfl, List.forall_mem_cons.mpr ⟨snd_iload d0_2112, List.forall_mem_cons.mpr ⟨snd_iconst d0_2114 (by decide +kernel), List.forall_mem_cons.mpr ⟨snd_iadd d0_2115, List.forall_mem_cons.mpr ⟨snd_scr rfl d0_2116, List.forall_mem_cons.mpr ⟨snd_aload_n d0_2117 rfl, List.forall_mem_cons.mpr ⟨snd_iload d0_2118, List.forall_mem_cons.mpr ⟨snd_iconst d0_2120 (by decide +kernel), List.forall_mem_cons.mpr ⟨snd_iadd d0_2121, List.forall_mem_cons.mpr ⟨snd_scr rfl d0_2122, List.forall_mem_cons.mpr ⟨snd_callV (by decide) rfl cn294 ⟨by decide +kernel, by decide +kernel⟩ cm294 (List.forall_mem_cons.mpr ⟨wd1961, cw294⟩) d0_2123, List.forall_mem_cons.mpr ⟨snd_cmp_eq d0_2126 (by decide), List.forall_mem_cons.mpr ⟨snd_iconst d0_2129 (by decide +kernel), List.forall_mem_cons.mpr ⟨snd_zret rfl d0_2130, List.forall_mem_cons.mpr ⟨snd_aload_n d0_2131 rfl, List.forall_mem_cons.mpr ⟨snd_callV (by decide) rfl cn150 ⟨by decide +kernel, by decide +kernel⟩ cm150 (List.forall_mem_cons.mpr ⟨wd1260, cw150⟩) d0_2132, List.forall_mem_cons.mpr ⟨snd_aload_n d0_2135 rfl, List.forall_mem_cons.mpr ⟨snd_callV (by decide) rfl cn295 ⟨by decide +kernel, by decide +kernel⟩ cm295 (List.forall_mem_cons.mpr ⟨wd1965, cw295⟩) d0_2136, List.forall_mem_cons.mpr ⟨snd_cmp_eq d0_2139 (by decide), List.forall_mem_cons.mpr ⟨snd_iconst d0_2142 (by decide +kernel), List.forall_mem_cons.mpr ⟨snd_zret rfl d0_2143, List.forall_mem_cons.mpr ⟨snd_aload_n d0_2144 rfl, List.forall_mem_cons.mpr ⟨snd_aload_n d0_2145 rfl, List.forall_mem_cons.mpr ⟨snd_iload d0_2146, List.forall_mem_cons.mpr ⟨snd_iconst d0_2148 (by decide +kernel), List.forall_mem_cons.mpr ⟨snd_iadd d0_2149, List.forall_mem_cons.mpr ⟨snd_scr rfl d0_2150, List.forall_mem_cons.mpr ⟨snd_aload_n d0_2151 rfl, fun _ h => by cases h⟩⟩⟩⟩⟩⟩⟩⟩⟩⟩⟩⟩⟩⟩⟩⟩⟩⟩⟩⟩⟩⟩⟩⟩⟩⟩⟩⟩⟩⟩
theorem sc0_48 : ∀ q ∈ tc0_48, q.1 ≠ 2152 → Snd xtb M0 q.1 q.2 := List.forall_mem_cons.mpr ⟨(fun h => absurd rfl h), List.forall_mem_cons.mpr ⟨(fun _ => snd_istore d0_2155), List.forall_mem_cons.mpr ⟨(fun _ => snd_aload_n d0_2157 rfl), List.forall_mem_cons.mpr ⟨(fun _ => snd_aload_n d0_2158 rfl), List.forall_mem_cons.mpr ⟨(fun _ => snd_iload d0_2159), List.forall_mem_cons.mpr ⟨(fun _ => snd_iconst d0_2161 (by decide +kernel)), List.forall_mem_cons.mpr ⟨(fun _ => snd_iadd d0_2162), List.forall_mem_cons.mpr ⟨(fun _ => snd_scr rfl d0_2163), List.forall_mem_cons.mpr ⟨(fun _ => snd_callV (by decide) rfl cn297 ⟨by decide +kernel, by decide +kernel⟩ cm297 (List.forall_mem_cons.mpr ⟨wd1973, cw297⟩) d0_2164), List.forall_mem_cons.mpr ⟨(fun _ => snd_istore d0_2167), List.forall_mem_cons.mpr ⟨(fun _ => snd_aload_n d0_2169 rfl), List.forall_mem_cons.mpr ⟨(fun _ => snd_callV (by decide) rfl cn171 ⟨by decide +kernel, by decide +kernel⟩ cm171 (List.forall_mem_cons.mpr ⟨wd1464, cw171⟩) d0_2170), List.forall_mem_cons.mpr ⟨(fun _ => snd_iload d0_2173), List.forall_mem_cons.mpr ⟨(fun _ => snd_cmp_eq d0_2175 (by decide)), List.forall_mem_cons.mpr ⟨(fun _ => snd_iconst d0_2178 (by decide +kernel)), List.forall_mem_cons.mpr ⟨(fun _ => snd_zret rfl d0_2179), List.forall_mem_cons.mpr ⟨(fun _ => snd_iload d0_2180), List.forall_mem_cons.mpr ⟨(fun _ => snd_if_ne d0_2182 (by decide)), List.forall_mem_cons.mpr ⟨(fun _ => snd_aload_n d0_2185 rfl), List.forall_mem_cons.mpr ⟨(fun _ => snd_iconst d0_2186 (by decide +kernel)), List.forall_mem_cons.mpr ⟨(fun _ => snd_lald d0_2187), List.forall_mem_cons.mpr ⟨(fun _ => snd_iload d0_2188), List.forall_mem_cons.mpr ⟨(fun _ => snd_i2l d0_2190), List.forall_mem_cons.mpr ⟨(fun _ => snd_lcmp d0_2191), List.forall_mem_cons.mpr ⟨(fun _ => snd_if_eq d0_2192 (by decide)), List.forall_mem_cons.mpr ⟨(fun _ => snd_iconst d0_2195 (by decide +kernel)), List.forall_mem_cons.mpr ⟨(fun _ => snd_zret rfl d0_2196), List.forall_mem_cons.mpr ⟨(fun _ => snd_goto d0_2197 (by decide)), List.forall_mem_cons.mpr ⟨(fun _ => snd_aload_n d0_2200 rfl), List.forall_mem_cons.mpr ⟨(fun _ => snd_aload_n d0_2201 rfl), fun _ h => by cases h⟩⟩⟩⟩⟩⟩⟩⟩⟩⟩⟩⟩⟩⟩⟩⟩⟩⟩⟩⟩⟩⟩⟩⟩⟩⟩⟩⟩⟩⟩
theorem sc0_49 : ∀ q ∈ tc0_49, Snd xtb M0 q.1 q.2 := List.forall_mem_cons.mpr ⟨snd_iload d0_2202, List.forall_mem_cons.mpr ⟨snd_iconst d0_2204 (by decide +kernel), List.forall_mem_cons.mpr ⟨snd_iadd d0_2205, List.forall_mem_cons.mpr ⟨snd_scr rfl d0_2206, List.forall_mem_cons.mpr ⟨snd_callV (by decide) rfl cn151 ⟨by decide +kernel, by decide +kernel⟩ cm151 (List.forall_mem_cons.mpr ⟨wd1272, cw151⟩) d0_2207, List.forall_mem_cons.mpr ⟨snd_aload_n d0_2210 rfl, List.forall_mem_cons.mpr ⟨snd_aload_n d0_2211 rfl, List.forall_mem_cons.mpr ⟨snd_iload d0_2212, List.forall_mem_cons.mpr ⟨snd_iconst d0_2214 (by decide +kernel), List.forall_mem_cons.mpr ⟨snd_iadd d0_2215, List.forall_mem_cons.mpr ⟨snd_scr rfl d0_2216, List.forall_mem_cons.mpr ⟨snd_callV (by decide) rfl cn299 ⟨by decide +kernel, by decide +kernel⟩ cm299 (List.forall_mem_cons.mpr ⟨wd1981, cw299⟩) d0_2217, List.forall_mem_cons.mpr ⟨snd_cmp_eq d0_2220 (by decide), List.forall_mem_cons.mpr ⟨snd_iconst d0_2223 (by decide +kernel), List.forall_mem_cons.mpr ⟨snd_zret rfl d0_2224, List.forall_mem_cons.mpr ⟨snd_aload_n d0_2225 rfl, List.forall_mem_cons.mpr ⟨snd_callV (by decide) rfl cn152 ⟨by decide +kernel, by decide +kernel⟩ cm152 (List.forall_mem_cons.mpr ⟨wd1280, cw152⟩) d0_2226, List.forall_mem_cons.mpr ⟨snd_aload_n d0_2229 rfl, List.forall_mem_cons.mpr ⟨snd_callV (by decide) rfl cn300 ⟨by decide +kernel, by decide +kernel⟩ cm300 (List.forall_mem_cons.mpr ⟨wd1989, cw300⟩) d0_2230, List.forall_mem_cons.mpr ⟨snd_cmp_eq d0_2233 (by decide), List.forall_mem_cons.mpr ⟨snd_iconst d0_2236 (by decide +kernel), List.forall_mem_cons.mpr ⟨snd_zret rfl d0_2237, List.forall_mem_cons.mpr ⟨snd_iinc d0_2238 (by decide +kernel), List.forall_mem_cons.mpr ⟨snd_goto d0_2241 (by decide), List.forall_mem_cons.mpr ⟨snd_iconst d0_2244 (by decide +kernel), List.forall_mem_cons.mpr ⟨snd_zret rfl d0_2245, fun _ h => by cases h⟩⟩⟩⟩⟩⟩⟩⟩⟩⟩⟩⟩⟩⟩⟩⟩⟩⟩⟩⟩⟩⟩⟩⟩⟩⟩
