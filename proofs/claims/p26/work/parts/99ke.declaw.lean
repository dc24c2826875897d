/-! The rows that decode the law, the rest. -/
theorem dL_law_281 : decode cL_law 281 = .ok (.iconst 4, 1) := by decide +kernel
theorem dL_law_282 : decode cL_law 282 = .ok (.iload 7, 2) := by decide +kernel
theorem dL_law_284 : decode cL_law 284 = .ok (.aload_n 3, 1) := by decide +kernel
theorem dL_law_285 : decode cL_law 285 = .ok (.iconst 0, 1) := by decide +kernel
theorem dL_law_286 : decode cL_law 286 = .ok (.iaload, 1) := by decide +kernel
theorem dL_law_287 : decode cL_law 287 = .ok (.irem, 1) := by decide +kernel
theorem dL_law_288 : decode cL_law 288 = .ok (.imul, 1) := by decide +kernel
theorem dL_law_289 : decode cL_law 289 = .ok (.iconst 2, 1) := by decide +kernel
theorem dL_law_290 : decode cL_law 290 = .ok (.iadd, 1) := by decide +kernel
theorem dL_law_291 : decode cL_law 291 = .ok (.iaload, 1) := by decide +kernel
theorem dL_law_292 : decode cL_law 292 = .ok (.istore 13, 2) := by decide +kernel
theorem dL_law_294 : decode cL_law 294 = .ok (.aload_n 2, 1) := by decide +kernel
theorem dL_law_295 : decode cL_law 295 = .ok (.iconst 4, 1) := by decide +kernel
theorem dL_law_296 : decode cL_law 296 = .ok (.iload 7, 2) := by decide +kernel
theorem dL_law_298 : decode cL_law 298 = .ok (.aload_n 3, 1) := by decide +kernel
theorem dL_law_299 : decode cL_law 299 = .ok (.iconst 0, 1) := by decide +kernel
theorem dL_law_300 : decode cL_law 300 = .ok (.iaload, 1) := by decide +kernel
theorem dL_law_301 : decode cL_law 301 = .ok (.irem, 1) := by decide +kernel
theorem dL_law_302 : decode cL_law 302 = .ok (.imul, 1) := by decide +kernel
theorem dL_law_303 : decode cL_law 303 = .ok (.iconst 3, 1) := by decide +kernel
theorem dL_law_304 : decode cL_law 304 = .ok (.iadd, 1) := by decide +kernel
theorem dL_law_305 : decode cL_law 305 = .ok (.iaload, 1) := by decide +kernel
theorem dL_law_306 : decode cL_law 306 = .ok (.istore 14, 2) := by decide +kernel
theorem dL_law_308 : decode cL_law 308 = .ok (.aload_n 1, 1) := by decide +kernel
theorem dL_law_309 : decode cL_law 309 = .ok (.aload_n 2, 1) := by decide +kernel
theorem dL_law_310 : decode cL_law 310 = .ok (.aload_n 3, 1) := by decide +kernel
theorem dL_law_311 : decode cL_law 311 = .ok (.iload 11, 2) := by decide +kernel
theorem dL_law_313 : decode cL_law 313 = .ok (.iload 12, 2) := by decide +kernel
theorem dL_law_315 : decode cL_law 315 = .ok (.iload 13, 2) := by decide +kernel
theorem dL_law_317 : decode cL_law 317 = .ok (.iload 14, 2) := by decide +kernel
theorem dL_law_319 : decode cL_law 319 = .ok (.invokestatic 171, 3) := by decide +kernel
theorem dL_law_322 : decode cL_law 322 = .ok (.istore 4, 2) := by decide +kernel
theorem dL_law_324 : decode cL_law 324 = .ok (.iload 4, 2) := by decide +kernel
theorem dL_law_326 : decode cL_law 326 = .ok (.ifCond .eq 90, 3) := by decide +kernel
theorem dL_law_329 : decode cL_law 329 = .ok (.aload_n 1, 1) := by decide +kernel
theorem dL_law_330 : decode cL_law 330 = .ok (.aload_n 2, 1) := by decide +kernel
theorem dL_law_331 : decode cL_law 331 = .ok (.aload_n 3, 1) := by decide +kernel
theorem dL_law_332 : decode cL_law 332 = .ok (.invokestatic 175, 3) := by decide +kernel
theorem dL_law_335 : decode cL_law 335 = .ok (.ifCond .eq 81, 3) := by decide +kernel
theorem dL_law_338 : decode cL_law 338 = .ok (.aload_n 1, 1) := by decide +kernel
theorem dL_law_339 : decode cL_law 339 = .ok (.aload_n 2, 1) := by decide +kernel
theorem dL_law_340 : decode cL_law 340 = .ok (.aload_n 3, 1) := by decide +kernel
theorem dL_law_341 : decode cL_law 341 = .ok (.invokestatic 179, 3) := by decide +kernel
theorem dL_law_344 : decode cL_law 344 = .ok (.ifCond .eq 72, 3) := by decide +kernel
theorem dL_law_347 : decode cL_law 347 = .ok (.aload_n 1, 1) := by decide +kernel
theorem dL_law_348 : decode cL_law 348 = .ok (.invokestatic 182, 3) := by decide +kernel
theorem dL_law_351 : decode cL_law 351 = .ok (.ifCond .eq 65, 3) := by decide +kernel
theorem dL_law_354 : decode cL_law 354 = .ok (.aload_n 1, 1) := by decide +kernel
theorem dL_law_355 : decode cL_law 355 = .ok (.aload_n 2, 1) := by decide +kernel
theorem dL_law_356 : decode cL_law 356 = .ok (.aload_n 3, 1) := by decide +kernel
theorem dL_law_357 : decode cL_law 357 = .ok (.iload 7, 2) := by decide +kernel
theorem dL_law_359 : decode cL_law 359 = .ok (.bipush 7, 2) := by decide +kernel
theorem dL_law_361 : decode cL_law 361 = .ok (.idiv, 1) := by decide +kernel
theorem dL_law_362 : decode cL_law 362 = .ok (.bipush 101, 2) := by decide +kernel
theorem dL_law_364 : decode cL_law 364 = .ok (.irem, 1) := by decide +kernel
theorem dL_law_365 : decode cL_law 365 = .ok (.invokestatic 186, 3) := by decide +kernel
theorem dL_law_368 : decode cL_law 368 = .ok (.ifCond .eq 48, 3) := by decide +kernel
theorem dL_law_371 : decode cL_law 371 = .ok (.aload_n 1, 1) := by decide +kernel
theorem dL_law_372 : decode cL_law 372 = .ok (.aload_n 2, 1) := by decide +kernel
theorem dL_law_373 : decode cL_law 373 = .ok (.aload_n 3, 1) := by decide +kernel
theorem dL_law_374 : decode cL_law 374 = .ok (.iload 7, 2) := by decide +kernel
theorem dL_law_376 : decode cL_law 376 = .ok (.sipush 700, 3) := by decide +kernel
theorem dL_law_379 : decode cL_law 379 = .ok (.idiv, 1) := by decide +kernel
theorem dL_law_380 : decode cL_law 380 = .ok (.bipush 6, 2) := by decide +kernel
theorem dL_law_382 : decode cL_law 382 = .ok (.irem, 1) := by decide +kernel
theorem dL_law_383 : decode cL_law 383 = .ok (.bipush 20, 2) := by decide +kernel
theorem dL_law_385 : decode cL_law 385 = .ok (.imul, 1) := by decide +kernel
theorem dL_law_386 : decode cL_law 386 = .ok (.invokestatic 186, 3) := by decide +kernel
theorem dL_law_389 : decode cL_law 389 = .ok (.ifCond .eq 27, 3) := by decide +kernel
theorem dL_law_392 : decode cL_law 392 = .ok (.iload 5, 2) := by decide +kernel
theorem dL_law_394 : decode cL_law 394 = .ok (.bipush 9, 2) := by decide +kernel
theorem dL_law_396 : decode cL_law 396 = .ok (.irem, 1) := by decide +kernel
theorem dL_law_397 : decode cL_law 397 = .ok (.ifCond .gt 15, 3) := by decide +kernel
theorem dL_law_400 : decode cL_law 400 = .ok (.aload_n 1, 1) := by decide +kernel
theorem dL_law_401 : decode cL_law 401 = .ok (.aload_n 3, 1) := by decide +kernel
theorem dL_law_402 : decode cL_law 402 = .ok (.iload 6, 2) := by decide +kernel
theorem dL_law_404 : decode cL_law 404 = .ok (.iconst 3, 1) := by decide +kernel
theorem dL_law_405 : decode cL_law 405 = .ok (.idiv, 1) := by decide +kernel
theorem dL_law_406 : decode cL_law 406 = .ok (.invokestatic 159, 3) := by decide +kernel
theorem dL_law_409 : decode cL_law 409 = .ok (.ifCond .eq 7, 3) := by decide +kernel
theorem dL_law_412 : decode cL_law 412 = .ok (.iconst 1, 1) := by decide +kernel
theorem dL_law_413 : decode cL_law 413 = .ok (.goto 4, 3) := by decide +kernel
theorem dL_law_416 : decode cL_law 416 = .ok (.iconst 0, 1) := by decide +kernel
theorem dL_law_417 : decode cL_law 417 = .ok (.istore 4, 2) := by decide +kernel
theorem dL_law_419 : decode cL_law 419 = .ok (.iconst 0, 1) := by decide +kernel
theorem dL_law_420 : decode cL_law 420 = .ok (.istore 9, 2) := by decide +kernel
theorem dL_law_422 : decode cL_law 422 = .ok (.iload 9, 2) := by decide +kernel
theorem dL_law_424 : decode cL_law 424 = .ok (.bipush 10, 2) := by decide +kernel
theorem dL_law_426 : decode cL_law 426 = .ok (.if_icmp .ge 50, 3) := by decide +kernel
theorem dL_law_429 : decode cL_law 429 = .ok (.iload 4, 2) := by decide +kernel
theorem dL_law_431 : decode cL_law 431 = .ok (.ifCond .eq 45, 3) := by decide +kernel
theorem dL_law_434 : decode cL_law 434 = .ok (.aload_n 1, 1) := by decide +kernel
theorem dL_law_435 : decode cL_law 435 = .ok (.aload_n 2, 1) := by decide +kernel
theorem dL_law_436 : decode cL_law 436 = .ok (.aload_n 3, 1) := by decide +kernel
theorem dL_law_437 : decode cL_law 437 = .ok (.iload 7, 2) := by decide +kernel
theorem dL_law_439 : decode cL_law 439 = .ok (.iconst 5, 1) := by decide +kernel
theorem dL_law_440 : decode cL_law 440 = .ok (.idiv, 1) := by decide +kernel
theorem dL_law_441 : decode cL_law 441 = .ok (.bipush 29, 2) := by decide +kernel
theorem dL_law_443 : decode cL_law 443 = .ok (.iload 9, 2) := by decide +kernel
theorem dL_law_445 : decode cL_law 445 = .ok (.imul, 1) := by decide +kernel
theorem dL_law_446 : decode cL_law 446 = .ok (.iadd, 1) := by decide +kernel
theorem dL_law_447 : decode cL_law 447 = .ok (.bipush 101, 2) := by decide +kernel
theorem dL_law_449 : decode cL_law 449 = .ok (.irem, 1) := by decide +kernel
theorem dL_law_450 : decode cL_law 450 = .ok (.iload 7, 2) := by decide +kernel
theorem dL_law_452 : decode cL_law 452 = .ok (.sipush 500, 3) := by decide +kernel
theorem dL_law_455 : decode cL_law 455 = .ok (.idiv, 1) := by decide +kernel
theorem dL_law_456 : decode cL_law 456 = .ok (.bipush 43, 2) := by decide +kernel
theorem dL_law_458 : decode cL_law 458 = .ok (.iload 9, 2) := by decide +kernel
theorem dL_law_460 : decode cL_law 460 = .ok (.imul, 1) := by decide +kernel
theorem dL_law_461 : decode cL_law 461 = .ok (.iadd, 1) := by decide +kernel
theorem dL_law_462 : decode cL_law 462 = .ok (.bipush 101, 2) := by decide +kernel
theorem dL_law_464 : decode cL_law 464 = .ok (.irem, 1) := by decide +kernel
theorem dL_law_465 : decode cL_law 465 = .ok (.invokestatic 189, 3) := by decide +kernel
theorem dL_law_468 : decode cL_law 468 = .ok (.istore 4, 2) := by decide +kernel
theorem dL_law_470 : decode cL_law 470 = .ok (.iinc 9 1, 3) := by decide +kernel
theorem dL_law_473 : decode cL_law 473 = .ok (.goto (-51), 3) := by decide +kernel
theorem dL_law_476 : decode cL_law 476 = .ok (.iload 4, 2) := by decide +kernel
theorem dL_law_478 : decode cL_law 478 = .ok (.ifCond .eq 37, 3) := by decide +kernel
theorem dL_law_481 : decode cL_law 481 = .ok (.aload_n 3, 1) := by decide +kernel
theorem dL_law_482 : decode cL_law 482 = .ok (.iconst 0, 1) := by decide +kernel
theorem dL_law_483 : decode cL_law 483 = .ok (.iaload, 1) := by decide +kernel
theorem dL_law_484 : decode cL_law 484 = .ok (.ifCond .eq 27, 3) := by decide +kernel
theorem dL_law_487 : decode cL_law 487 = .ok (.aload_n 1, 1) := by decide +kernel
theorem dL_law_488 : decode cL_law 488 = .ok (.aload_n 2, 1) := by decide +kernel
theorem dL_law_489 : decode cL_law 489 = .ok (.aload_n 3, 1) := by decide +kernel
theorem dL_law_490 : decode cL_law 490 = .ok (.iload 7, 2) := by decide +kernel
theorem dL_law_492 : decode cL_law 492 = .ok (.aload_n 3, 1) := by decide +kernel
theorem dL_law_493 : decode cL_law 493 = .ok (.iconst 0, 1) := by decide +kernel
theorem dL_law_494 : decode cL_law 494 = .ok (.iaload, 1) := by decide +kernel
theorem dL_law_495 : decode cL_law 495 = .ok (.irem, 1) := by decide +kernel
theorem dL_law_496 : decode cL_law 496 = .ok (.iload 7, 2) := by decide +kernel
theorem dL_law_498 : decode cL_law 498 = .ok (.bipush 12, 2) := by decide +kernel
theorem dL_law_500 : decode cL_law 500 = .ok (.idiv, 1) := by decide +kernel
theorem dL_law_501 : decode cL_law 501 = .ok (.aload_n 3, 1) := by decide +kernel
theorem dL_law_502 : decode cL_law 502 = .ok (.iconst 0, 1) := by decide +kernel
theorem dL_law_503 : decode cL_law 503 = .ok (.iaload, 1) := by decide +kernel
theorem dL_law_504 : decode cL_law 504 = .ok (.irem, 1) := by decide +kernel
theorem dL_law_505 : decode cL_law 505 = .ok (.invokestatic 193, 3) := by decide +kernel
theorem dL_law_508 : decode cL_law 508 = .ok (.ifCond .eq 7, 3) := by decide +kernel
theorem dL_law_511 : decode cL_law 511 = .ok (.iconst 1, 1) := by decide +kernel
theorem dL_law_512 : decode cL_law 512 = .ok (.goto 4, 3) := by decide +kernel
theorem dL_law_515 : decode cL_law 515 = .ok (.iconst 0, 1) := by decide +kernel
theorem dL_law_516 : decode cL_law 516 = .ok (.istore 4, 2) := by decide +kernel
theorem dL_law_518 : decode cL_law 518 = .ok (.iinc 5 1, 3) := by decide +kernel
theorem dL_law_521 : decode cL_law 521 = .ok (.goto (-468), 3) := by decide +kernel
theorem dL_law_524 : decode cL_law 524 = .ok (.iload 4, 2) := by decide +kernel
theorem dL_law_526 : decode cL_law 526 = .ok (.ireturn, 1) := by decide +kernel
