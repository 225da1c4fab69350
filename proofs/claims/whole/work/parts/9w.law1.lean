theorem dL_law_248 : decode cL_law 248 = .ok (.aload_n 1, 1) := by decide +kernel
theorem dL_law_249 : decode cL_law 249 = .ok (.aload_n 0, 1) := by decide +kernel
theorem dL_law_250 : decode cL_law 250 = .ok (.iload 4, 2) := by decide +kernel
theorem dL_law_252 : decode cL_law 252 = .ok (.iconst 1, 1) := by decide +kernel
theorem dL_law_253 : decode cL_law 253 = .ok (.iadd, 1) := by decide +kernel
theorem dL_law_254 : decode cL_law 254 = .ok (.iaload, 1) := by decide +kernel
theorem dL_law_255 : decode cL_law 255 = .ok (.invokevirtual 21, 3) := by decide +kernel
theorem dL_law_258 : decode cL_law 258 = .ok (.aload_n 2, 1) := by decide +kernel
theorem dL_law_259 : decode cL_law 259 = .ok (.aload_n 0, 1) := by decide +kernel
theorem dL_law_260 : decode cL_law 260 = .ok (.iload 4, 2) := by decide +kernel
theorem dL_law_262 : decode cL_law 262 = .ok (.iconst 1, 1) := by decide +kernel
theorem dL_law_263 : decode cL_law 263 = .ok (.iadd, 1) := by decide +kernel
theorem dL_law_264 : decode cL_law 264 = .ok (.iaload, 1) := by decide +kernel
theorem dL_law_265 : decode cL_law 265 = .ok (.invokevirtual 25, 3) := by decide +kernel
theorem dL_law_268 : decode cL_law 268 = .ok (.if_icmp .eq 1596, 3) := by decide +kernel
theorem dL_law_273 : decode cL_law 273 = .ok (.aload_n 1, 1) := by decide +kernel
theorem dL_law_274 : decode cL_law 274 = .ok (.aload_n 0, 1) := by decide +kernel
theorem dL_law_275 : decode cL_law 275 = .ok (.iload 4, 2) := by decide +kernel
theorem dL_law_277 : decode cL_law 277 = .ok (.iconst 1, 1) := by decide +kernel
theorem dL_law_278 : decode cL_law 278 = .ok (.iadd, 1) := by decide +kernel
theorem dL_law_279 : decode cL_law 279 = .ok (.iaload, 1) := by decide +kernel
theorem dL_law_280 : decode cL_law 280 = .ok (.aload_n 0, 1) := by decide +kernel
theorem dL_law_281 : decode cL_law 281 = .ok (.iload 4, 2) := by decide +kernel
theorem dL_law_283 : decode cL_law 283 = .ok (.iconst 2, 1) := by decide +kernel
theorem dL_law_284 : decode cL_law 284 = .ok (.iadd, 1) := by decide +kernel
theorem dL_law_285 : decode cL_law 285 = .ok (.iaload, 1) := by decide +kernel
theorem dL_law_286 : decode cL_law 286 = .ok (.invokevirtual 26, 3) := by decide +kernel
theorem dL_law_289 : decode cL_law 289 = .ok (.aload_n 2, 1) := by decide +kernel
theorem dL_law_290 : decode cL_law 290 = .ok (.aload_n 0, 1) := by decide +kernel
theorem dL_law_291 : decode cL_law 291 = .ok (.iload 4, 2) := by decide +kernel
theorem dL_law_293 : decode cL_law 293 = .ok (.iconst 1, 1) := by decide +kernel
theorem dL_law_294 : decode cL_law 294 = .ok (.iadd, 1) := by decide +kernel
theorem dL_law_295 : decode cL_law 295 = .ok (.iaload, 1) := by decide +kernel
theorem dL_law_296 : decode cL_law 296 = .ok (.aload_n 0, 1) := by decide +kernel
theorem dL_law_297 : decode cL_law 297 = .ok (.iload 4, 2) := by decide +kernel
theorem dL_law_299 : decode cL_law 299 = .ok (.iconst 2, 1) := by decide +kernel
theorem dL_law_300 : decode cL_law 300 = .ok (.iadd, 1) := by decide +kernel
theorem dL_law_301 : decode cL_law 301 = .ok (.iaload, 1) := by decide +kernel
theorem dL_law_302 : decode cL_law 302 = .ok (.invokevirtual 30, 3) := by decide +kernel
theorem dL_law_305 : decode cL_law 305 = .ok (.if_icmp .eq 1559, 3) := by decide +kernel
theorem dL_law_310 : decode cL_law 310 = .ok (.aload_n 1, 1) := by decide +kernel
theorem dL_law_311 : decode cL_law 311 = .ok (.aload_n 0, 1) := by decide +kernel
theorem dL_law_312 : decode cL_law 312 = .ok (.iload 4, 2) := by decide +kernel
theorem dL_law_314 : decode cL_law 314 = .ok (.iconst 1, 1) := by decide +kernel
theorem dL_law_315 : decode cL_law 315 = .ok (.iadd, 1) := by decide +kernel
theorem dL_law_316 : decode cL_law 316 = .ok (.iaload, 1) := by decide +kernel
theorem dL_law_317 : decode cL_law 317 = .ok (.aload_n 0, 1) := by decide +kernel
theorem dL_law_318 : decode cL_law 318 = .ok (.iload 4, 2) := by decide +kernel
theorem dL_law_320 : decode cL_law 320 = .ok (.iconst 2, 1) := by decide +kernel
theorem dL_law_321 : decode cL_law 321 = .ok (.iadd, 1) := by decide +kernel
theorem dL_law_322 : decode cL_law 322 = .ok (.iaload, 1) := by decide +kernel
theorem dL_law_323 : decode cL_law 323 = .ok (.aload_n 0, 1) := by decide +kernel
theorem dL_law_324 : decode cL_law 324 = .ok (.iload 4, 2) := by decide +kernel
theorem dL_law_326 : decode cL_law 326 = .ok (.iconst 3, 1) := by decide +kernel
theorem dL_law_327 : decode cL_law 327 = .ok (.iadd, 1) := by decide +kernel
theorem dL_law_328 : decode cL_law 328 = .ok (.iaload, 1) := by decide +kernel
theorem dL_law_329 : decode cL_law 329 = .ok (.invokevirtual 31, 3) := by decide +kernel
theorem dL_law_332 : decode cL_law 332 = .ok (.aload_n 2, 1) := by decide +kernel
theorem dL_law_333 : decode cL_law 333 = .ok (.aload_n 0, 1) := by decide +kernel
theorem dL_law_334 : decode cL_law 334 = .ok (.iload 4, 2) := by decide +kernel
theorem dL_law_336 : decode cL_law 336 = .ok (.iconst 1, 1) := by decide +kernel
theorem dL_law_337 : decode cL_law 337 = .ok (.iadd, 1) := by decide +kernel
theorem dL_law_338 : decode cL_law 338 = .ok (.iaload, 1) := by decide +kernel
theorem dL_law_339 : decode cL_law 339 = .ok (.aload_n 0, 1) := by decide +kernel
theorem dL_law_340 : decode cL_law 340 = .ok (.iload 4, 2) := by decide +kernel
theorem dL_law_342 : decode cL_law 342 = .ok (.iconst 2, 1) := by decide +kernel
theorem dL_law_343 : decode cL_law 343 = .ok (.iadd, 1) := by decide +kernel
theorem dL_law_344 : decode cL_law 344 = .ok (.iaload, 1) := by decide +kernel
theorem dL_law_345 : decode cL_law 345 = .ok (.aload_n 0, 1) := by decide +kernel
theorem dL_law_346 : decode cL_law 346 = .ok (.iload 4, 2) := by decide +kernel
theorem dL_law_348 : decode cL_law 348 = .ok (.iconst 3, 1) := by decide +kernel
theorem dL_law_349 : decode cL_law 349 = .ok (.iadd, 1) := by decide +kernel
theorem dL_law_350 : decode cL_law 350 = .ok (.iaload, 1) := by decide +kernel
theorem dL_law_351 : decode cL_law 351 = .ok (.invokevirtual 35, 3) := by decide +kernel
theorem dL_law_354 : decode cL_law 354 = .ok (.if_icmp .eq 1510, 3) := by decide +kernel
theorem dL_law_359 : decode cL_law 359 = .ok (.aload_n 1, 1) := by decide +kernel
theorem dL_law_360 : decode cL_law 360 = .ok (.aload_n 0, 1) := by decide +kernel
theorem dL_law_361 : decode cL_law 361 = .ok (.iload 4, 2) := by decide +kernel
theorem dL_law_363 : decode cL_law 363 = .ok (.iconst 1, 1) := by decide +kernel
theorem dL_law_364 : decode cL_law 364 = .ok (.iadd, 1) := by decide +kernel
theorem dL_law_365 : decode cL_law 365 = .ok (.iaload, 1) := by decide +kernel
theorem dL_law_366 : decode cL_law 366 = .ok (.aload_n 0, 1) := by decide +kernel
theorem dL_law_367 : decode cL_law 367 = .ok (.iload 4, 2) := by decide +kernel
theorem dL_law_369 : decode cL_law 369 = .ok (.iconst 2, 1) := by decide +kernel
theorem dL_law_370 : decode cL_law 370 = .ok (.iadd, 1) := by decide +kernel
theorem dL_law_371 : decode cL_law 371 = .ok (.iaload, 1) := by decide +kernel
theorem dL_law_372 : decode cL_law 372 = .ok (.invokevirtual 36, 3) := by decide +kernel
theorem dL_law_375 : decode cL_law 375 = .ok (.aload_n 2, 1) := by decide +kernel
theorem dL_law_376 : decode cL_law 376 = .ok (.aload_n 0, 1) := by decide +kernel
theorem dL_law_377 : decode cL_law 377 = .ok (.iload 4, 2) := by decide +kernel
theorem dL_law_379 : decode cL_law 379 = .ok (.iconst 1, 1) := by decide +kernel
theorem dL_law_380 : decode cL_law 380 = .ok (.iadd, 1) := by decide +kernel
theorem dL_law_381 : decode cL_law 381 = .ok (.iaload, 1) := by decide +kernel
theorem dL_law_382 : decode cL_law 382 = .ok (.aload_n 0, 1) := by decide +kernel
theorem dL_law_383 : decode cL_law 383 = .ok (.iload 4, 2) := by decide +kernel
theorem dL_law_385 : decode cL_law 385 = .ok (.iconst 2, 1) := by decide +kernel
theorem dL_law_386 : decode cL_law 386 = .ok (.iadd, 1) := by decide +kernel
theorem dL_law_387 : decode cL_law 387 = .ok (.iaload, 1) := by decide +kernel
theorem dL_law_388 : decode cL_law 388 = .ok (.invokevirtual 39, 3) := by decide +kernel
theorem dL_law_391 : decode cL_law 391 = .ok (.if_icmp .eq 1473, 3) := by decide +kernel
theorem dL_law_396 : decode cL_law 396 = .ok (.aload_n 1, 1) := by decide +kernel
theorem dL_law_397 : decode cL_law 397 = .ok (.aload_n 0, 1) := by decide +kernel
theorem dL_law_398 : decode cL_law 398 = .ok (.iload 4, 2) := by decide +kernel
theorem dL_law_400 : decode cL_law 400 = .ok (.iconst 1, 1) := by decide +kernel
theorem dL_law_401 : decode cL_law 401 = .ok (.iadd, 1) := by decide +kernel
theorem dL_law_402 : decode cL_law 402 = .ok (.iaload, 1) := by decide +kernel
theorem dL_law_403 : decode cL_law 403 = .ok (.aload_n 0, 1) := by decide +kernel
theorem dL_law_404 : decode cL_law 404 = .ok (.iload 4, 2) := by decide +kernel
theorem dL_law_406 : decode cL_law 406 = .ok (.iconst 2, 1) := by decide +kernel
theorem dL_law_407 : decode cL_law 407 = .ok (.iadd, 1) := by decide +kernel
theorem dL_law_408 : decode cL_law 408 = .ok (.iaload, 1) := by decide +kernel
theorem dL_law_409 : decode cL_law 409 = .ok (.invokevirtual 40, 3) := by decide +kernel
theorem dL_law_412 : decode cL_law 412 = .ok (.aload_n 2, 1) := by decide +kernel
theorem dL_law_413 : decode cL_law 413 = .ok (.aload_n 0, 1) := by decide +kernel
theorem dL_law_414 : decode cL_law 414 = .ok (.iload 4, 2) := by decide +kernel
theorem dL_law_416 : decode cL_law 416 = .ok (.iconst 1, 1) := by decide +kernel
theorem dL_law_417 : decode cL_law 417 = .ok (.iadd, 1) := by decide +kernel
theorem dL_law_418 : decode cL_law 418 = .ok (.iaload, 1) := by decide +kernel
theorem dL_law_419 : decode cL_law 419 = .ok (.aload_n 0, 1) := by decide +kernel
theorem dL_law_420 : decode cL_law 420 = .ok (.iload 4, 2) := by decide +kernel
theorem dL_law_422 : decode cL_law 422 = .ok (.iconst 2, 1) := by decide +kernel
theorem dL_law_423 : decode cL_law 423 = .ok (.iadd, 1) := by decide +kernel
theorem dL_law_424 : decode cL_law 424 = .ok (.iaload, 1) := by decide +kernel
theorem dL_law_425 : decode cL_law 425 = .ok (.invokevirtual 43, 3) := by decide +kernel
theorem dL_law_428 : decode cL_law 428 = .ok (.if_icmp .eq 1436, 3) := by decide +kernel
theorem dL_law_433 : decode cL_law 433 = .ok (.aload_n 1, 1) := by decide +kernel
theorem dL_law_434 : decode cL_law 434 = .ok (.aload_n 0, 1) := by decide +kernel
theorem dL_law_435 : decode cL_law 435 = .ok (.iload 4, 2) := by decide +kernel
theorem dL_law_437 : decode cL_law 437 = .ok (.iconst 1, 1) := by decide +kernel
theorem dL_law_438 : decode cL_law 438 = .ok (.iadd, 1) := by decide +kernel
theorem dL_law_439 : decode cL_law 439 = .ok (.iaload, 1) := by decide +kernel
theorem dL_law_440 : decode cL_law 440 = .ok (.aload_n 0, 1) := by decide +kernel
theorem dL_law_441 : decode cL_law 441 = .ok (.iload 4, 2) := by decide +kernel
theorem dL_law_443 : decode cL_law 443 = .ok (.iconst 2, 1) := by decide +kernel
theorem dL_law_444 : decode cL_law 444 = .ok (.iadd, 1) := by decide +kernel
theorem dL_law_445 : decode cL_law 445 = .ok (.iaload, 1) := by decide +kernel
theorem dL_law_446 : decode cL_law 446 = .ok (.aload_n 0, 1) := by decide +kernel
theorem dL_law_447 : decode cL_law 447 = .ok (.iload 4, 2) := by decide +kernel
theorem dL_law_449 : decode cL_law 449 = .ok (.iconst 3, 1) := by decide +kernel
theorem dL_law_450 : decode cL_law 450 = .ok (.iadd, 1) := by decide +kernel
theorem dL_law_451 : decode cL_law 451 = .ok (.iaload, 1) := by decide +kernel
theorem dL_law_452 : decode cL_law 452 = .ok (.aload_n 0, 1) := by decide +kernel
theorem dL_law_453 : decode cL_law 453 = .ok (.iload 4, 2) := by decide +kernel
theorem dL_law_455 : decode cL_law 455 = .ok (.iconst 4, 1) := by decide +kernel
theorem dL_law_456 : decode cL_law 456 = .ok (.iadd, 1) := by decide +kernel
theorem dL_law_457 : decode cL_law 457 = .ok (.iaload, 1) := by decide +kernel
theorem dL_law_458 : decode cL_law 458 = .ok (.aload_n 0, 1) := by decide +kernel
theorem dL_law_459 : decode cL_law 459 = .ok (.iload 4, 2) := by decide +kernel
theorem dL_law_461 : decode cL_law 461 = .ok (.iconst 5, 1) := by decide +kernel
theorem dL_law_462 : decode cL_law 462 = .ok (.iadd, 1) := by decide +kernel
theorem dL_law_463 : decode cL_law 463 = .ok (.iaload, 1) := by decide +kernel
theorem dL_law_464 : decode cL_law 464 = .ok (.invokevirtual 44, 3) := by decide +kernel
theorem dL_law_467 : decode cL_law 467 = .ok (.aload_n 2, 1) := by decide +kernel
theorem dL_law_468 : decode cL_law 468 = .ok (.aload_n 0, 1) := by decide +kernel
theorem dL_law_469 : decode cL_law 469 = .ok (.iload 4, 2) := by decide +kernel
theorem dL_law_471 : decode cL_law 471 = .ok (.iconst 1, 1) := by decide +kernel
theorem dL_law_472 : decode cL_law 472 = .ok (.iadd, 1) := by decide +kernel
theorem dL_law_473 : decode cL_law 473 = .ok (.iaload, 1) := by decide +kernel
theorem dL_law_474 : decode cL_law 474 = .ok (.aload_n 0, 1) := by decide +kernel
theorem dL_law_475 : decode cL_law 475 = .ok (.iload 4, 2) := by decide +kernel
theorem dL_law_477 : decode cL_law 477 = .ok (.iconst 2, 1) := by decide +kernel
theorem dL_law_478 : decode cL_law 478 = .ok (.iadd, 1) := by decide +kernel
theorem dL_law_479 : decode cL_law 479 = .ok (.iaload, 1) := by decide +kernel
theorem dL_law_480 : decode cL_law 480 = .ok (.aload_n 0, 1) := by decide +kernel
theorem dL_law_481 : decode cL_law 481 = .ok (.iload 4, 2) := by decide +kernel
theorem dL_law_483 : decode cL_law 483 = .ok (.iconst 3, 1) := by decide +kernel
theorem dL_law_484 : decode cL_law 484 = .ok (.iadd, 1) := by decide +kernel
theorem dL_law_485 : decode cL_law 485 = .ok (.iaload, 1) := by decide +kernel
theorem dL_law_486 : decode cL_law 486 = .ok (.aload_n 0, 1) := by decide +kernel
theorem dL_law_487 : decode cL_law 487 = .ok (.iload 4, 2) := by decide +kernel
theorem dL_law_489 : decode cL_law 489 = .ok (.iconst 4, 1) := by decide +kernel
theorem dL_law_490 : decode cL_law 490 = .ok (.iadd, 1) := by decide +kernel
theorem dL_law_491 : decode cL_law 491 = .ok (.iaload, 1) := by decide +kernel
theorem dL_law_492 : decode cL_law 492 = .ok (.aload_n 0, 1) := by decide +kernel
theorem dL_law_493 : decode cL_law 493 = .ok (.iload 4, 2) := by decide +kernel
theorem dL_law_495 : decode cL_law 495 = .ok (.iconst 5, 1) := by decide +kernel
theorem dL_law_496 : decode cL_law 496 = .ok (.iadd, 1) := by decide +kernel
theorem dL_law_497 : decode cL_law 497 = .ok (.iaload, 1) := by decide +kernel
theorem dL_law_498 : decode cL_law 498 = .ok (.invokevirtual 48, 3) := by decide +kernel
theorem dL_law_501 : decode cL_law 501 = .ok (.if_icmp .eq 1363, 3) := by decide +kernel
theorem dL_law_506 : decode cL_law 506 = .ok (.aload_n 1, 1) := by decide +kernel
theorem dL_law_507 : decode cL_law 507 = .ok (.aload_n 0, 1) := by decide +kernel
theorem dL_law_508 : decode cL_law 508 = .ok (.iload 4, 2) := by decide +kernel
theorem dL_law_510 : decode cL_law 510 = .ok (.iconst 1, 1) := by decide +kernel
theorem dL_law_511 : decode cL_law 511 = .ok (.iadd, 1) := by decide +kernel
theorem dL_law_512 : decode cL_law 512 = .ok (.iaload, 1) := by decide +kernel
theorem dL_law_513 : decode cL_law 513 = .ok (.invokevirtual 49, 3) := by decide +kernel
theorem dL_law_516 : decode cL_law 516 = .ok (.aload_n 2, 1) := by decide +kernel
theorem dL_law_517 : decode cL_law 517 = .ok (.aload_n 0, 1) := by decide +kernel
theorem dL_law_518 : decode cL_law 518 = .ok (.iload 4, 2) := by decide +kernel
theorem dL_law_520 : decode cL_law 520 = .ok (.iconst 1, 1) := by decide +kernel
theorem dL_law_521 : decode cL_law 521 = .ok (.iadd, 1) := by decide +kernel
theorem dL_law_522 : decode cL_law 522 = .ok (.iaload, 1) := by decide +kernel
theorem dL_law_523 : decode cL_law 523 = .ok (.invokevirtual 52, 3) := by decide +kernel
theorem dL_law_526 : decode cL_law 526 = .ok (.if_icmp .eq 1338, 3) := by decide +kernel
theorem dL_law_531 : decode cL_law 531 = .ok (.aload_n 1, 1) := by decide +kernel
theorem dL_law_532 : decode cL_law 532 = .ok (.aload_n 0, 1) := by decide +kernel
theorem dL_law_533 : decode cL_law 533 = .ok (.iload 4, 2) := by decide +kernel
theorem dL_law_535 : decode cL_law 535 = .ok (.iconst 1, 1) := by decide +kernel
theorem dL_law_536 : decode cL_law 536 = .ok (.iadd, 1) := by decide +kernel
theorem dL_law_537 : decode cL_law 537 = .ok (.iaload, 1) := by decide +kernel
theorem dL_law_538 : decode cL_law 538 = .ok (.aload_n 0, 1) := by decide +kernel
theorem dL_law_539 : decode cL_law 539 = .ok (.iload 4, 2) := by decide +kernel
theorem dL_law_541 : decode cL_law 541 = .ok (.iconst 2, 1) := by decide +kernel
theorem dL_law_542 : decode cL_law 542 = .ok (.iadd, 1) := by decide +kernel
theorem dL_law_543 : decode cL_law 543 = .ok (.iaload, 1) := by decide +kernel
theorem dL_law_544 : decode cL_law 544 = .ok (.invokevirtual 53, 3) := by decide +kernel
theorem dL_law_547 : decode cL_law 547 = .ok (.aload_n 2, 1) := by decide +kernel
theorem dL_law_548 : decode cL_law 548 = .ok (.aload_n 0, 1) := by decide +kernel
theorem dL_law_549 : decode cL_law 549 = .ok (.iload 4, 2) := by decide +kernel
theorem dL_law_551 : decode cL_law 551 = .ok (.iconst 1, 1) := by decide +kernel
theorem dL_law_552 : decode cL_law 552 = .ok (.iadd, 1) := by decide +kernel
theorem dL_law_553 : decode cL_law 553 = .ok (.iaload, 1) := by decide +kernel
theorem dL_law_554 : decode cL_law 554 = .ok (.aload_n 0, 1) := by decide +kernel
theorem dL_law_555 : decode cL_law 555 = .ok (.iload 4, 2) := by decide +kernel
theorem dL_law_557 : decode cL_law 557 = .ok (.iconst 2, 1) := by decide +kernel
theorem dL_law_558 : decode cL_law 558 = .ok (.iadd, 1) := by decide +kernel
theorem dL_law_559 : decode cL_law 559 = .ok (.iaload, 1) := by decide +kernel
theorem dL_law_560 : decode cL_law 560 = .ok (.invokevirtual 56, 3) := by decide +kernel
theorem dL_law_563 : decode cL_law 563 = .ok (.if_icmp .eq 1301, 3) := by decide +kernel
theorem dL_law_568 : decode cL_law 568 = .ok (.aload_n 1, 1) := by decide +kernel
theorem dL_law_569 : decode cL_law 569 = .ok (.aload_n 0, 1) := by decide +kernel
theorem dL_law_570 : decode cL_law 570 = .ok (.iload 4, 2) := by decide +kernel
theorem dL_law_572 : decode cL_law 572 = .ok (.iconst 1, 1) := by decide +kernel
theorem dL_law_573 : decode cL_law 573 = .ok (.iadd, 1) := by decide +kernel
theorem dL_law_574 : decode cL_law 574 = .ok (.iaload, 1) := by decide +kernel
theorem dL_law_575 : decode cL_law 575 = .ok (.aload_n 0, 1) := by decide +kernel
theorem dL_law_576 : decode cL_law 576 = .ok (.iload 4, 2) := by decide +kernel
theorem dL_law_578 : decode cL_law 578 = .ok (.iconst 2, 1) := by decide +kernel
theorem dL_law_579 : decode cL_law 579 = .ok (.iadd, 1) := by decide +kernel
theorem dL_law_580 : decode cL_law 580 = .ok (.iaload, 1) := by decide +kernel
theorem dL_law_581 : decode cL_law 581 = .ok (.invokevirtual 57, 3) := by decide +kernel
theorem dL_law_584 : decode cL_law 584 = .ok (.aload_n 2, 1) := by decide +kernel
theorem dL_law_585 : decode cL_law 585 = .ok (.aload_n 0, 1) := by decide +kernel
theorem dL_law_586 : decode cL_law 586 = .ok (.iload 4, 2) := by decide +kernel
theorem dL_law_588 : decode cL_law 588 = .ok (.iconst 1, 1) := by decide +kernel
theorem dL_law_589 : decode cL_law 589 = .ok (.iadd, 1) := by decide +kernel
theorem dL_law_590 : decode cL_law 590 = .ok (.iaload, 1) := by decide +kernel
theorem dL_law_591 : decode cL_law 591 = .ok (.aload_n 0, 1) := by decide +kernel
theorem dL_law_592 : decode cL_law 592 = .ok (.iload 4, 2) := by decide +kernel
theorem dL_law_594 : decode cL_law 594 = .ok (.iconst 2, 1) := by decide +kernel
theorem dL_law_595 : decode cL_law 595 = .ok (.iadd, 1) := by decide +kernel
theorem dL_law_596 : decode cL_law 596 = .ok (.iaload, 1) := by decide +kernel
theorem dL_law_597 : decode cL_law 597 = .ok (.invokevirtual 60, 3) := by decide +kernel
theorem dL_law_600 : decode cL_law 600 = .ok (.if_icmp .eq 1264, 3) := by decide +kernel
theorem dL_law_605 : decode cL_law 605 = .ok (.aload_n 1, 1) := by decide +kernel
theorem dL_law_606 : decode cL_law 606 = .ok (.aload_n 0, 1) := by decide +kernel
theorem dL_law_607 : decode cL_law 607 = .ok (.iload 4, 2) := by decide +kernel
theorem dL_law_609 : decode cL_law 609 = .ok (.iconst 1, 1) := by decide +kernel
theorem dL_law_610 : decode cL_law 610 = .ok (.iadd, 1) := by decide +kernel
theorem dL_law_611 : decode cL_law 611 = .ok (.iaload, 1) := by decide +kernel
theorem dL_law_612 : decode cL_law 612 = .ok (.aload_n 0, 1) := by decide +kernel
theorem dL_law_613 : decode cL_law 613 = .ok (.iload 4, 2) := by decide +kernel
theorem dL_law_615 : decode cL_law 615 = .ok (.iconst 2, 1) := by decide +kernel
theorem dL_law_616 : decode cL_law 616 = .ok (.iadd, 1) := by decide +kernel
theorem dL_law_617 : decode cL_law 617 = .ok (.iaload, 1) := by decide +kernel
theorem dL_law_618 : decode cL_law 618 = .ok (.aload_n 0, 1) := by decide +kernel
theorem dL_law_619 : decode cL_law 619 = .ok (.iload 4, 2) := by decide +kernel
theorem dL_law_621 : decode cL_law 621 = .ok (.iconst 3, 1) := by decide +kernel
theorem dL_law_622 : decode cL_law 622 = .ok (.iadd, 1) := by decide +kernel
theorem dL_law_623 : decode cL_law 623 = .ok (.iaload, 1) := by decide +kernel
theorem dL_law_624 : decode cL_law 624 = .ok (.invokevirtual 61, 3) := by decide +kernel
theorem dL_law_627 : decode cL_law 627 = .ok (.aload_n 2, 1) := by decide +kernel
theorem dL_law_628 : decode cL_law 628 = .ok (.aload_n 0, 1) := by decide +kernel
theorem dL_law_629 : decode cL_law 629 = .ok (.iload 4, 2) := by decide +kernel
theorem dL_law_631 : decode cL_law 631 = .ok (.iconst 1, 1) := by decide +kernel
theorem dL_law_632 : decode cL_law 632 = .ok (.iadd, 1) := by decide +kernel
theorem dL_law_633 : decode cL_law 633 = .ok (.iaload, 1) := by decide +kernel
theorem dL_law_634 : decode cL_law 634 = .ok (.aload_n 0, 1) := by decide +kernel
theorem dL_law_635 : decode cL_law 635 = .ok (.iload 4, 2) := by decide +kernel
theorem dL_law_637 : decode cL_law 637 = .ok (.iconst 2, 1) := by decide +kernel
theorem dL_law_638 : decode cL_law 638 = .ok (.iadd, 1) := by decide +kernel
theorem dL_law_639 : decode cL_law 639 = .ok (.iaload, 1) := by decide +kernel
theorem dL_law_640 : decode cL_law 640 = .ok (.aload_n 0, 1) := by decide +kernel
theorem dL_law_641 : decode cL_law 641 = .ok (.iload 4, 2) := by decide +kernel
theorem dL_law_643 : decode cL_law 643 = .ok (.iconst 3, 1) := by decide +kernel
theorem dL_law_644 : decode cL_law 644 = .ok (.iadd, 1) := by decide +kernel
theorem dL_law_645 : decode cL_law 645 = .ok (.iaload, 1) := by decide +kernel
theorem dL_law_646 : decode cL_law 646 = .ok (.invokevirtual 64, 3) := by decide +kernel
theorem dL_law_649 : decode cL_law 649 = .ok (.if_icmp .eq 1215, 3) := by decide +kernel
theorem dL_law_654 : decode cL_law 654 = .ok (.aload_n 1, 1) := by decide +kernel
theorem dL_law_655 : decode cL_law 655 = .ok (.aload_n 0, 1) := by decide +kernel
theorem dL_law_656 : decode cL_law 656 = .ok (.iload 4, 2) := by decide +kernel
theorem dL_law_658 : decode cL_law 658 = .ok (.iconst 1, 1) := by decide +kernel
theorem dL_law_659 : decode cL_law 659 = .ok (.iadd, 1) := by decide +kernel
theorem dL_law_660 : decode cL_law 660 = .ok (.iaload, 1) := by decide +kernel
theorem dL_law_661 : decode cL_law 661 = .ok (.aload_n 0, 1) := by decide +kernel
theorem dL_law_662 : decode cL_law 662 = .ok (.iload 4, 2) := by decide +kernel
theorem dL_law_664 : decode cL_law 664 = .ok (.iconst 2, 1) := by decide +kernel
theorem dL_law_665 : decode cL_law 665 = .ok (.iadd, 1) := by decide +kernel
theorem dL_law_666 : decode cL_law 666 = .ok (.iaload, 1) := by decide +kernel
theorem dL_law_667 : decode cL_law 667 = .ok (.invokevirtual 65, 3) := by decide +kernel
theorem dL_law_670 : decode cL_law 670 = .ok (.aload_n 2, 1) := by decide +kernel
theorem dL_law_671 : decode cL_law 671 = .ok (.aload_n 0, 1) := by decide +kernel
theorem dL_law_672 : decode cL_law 672 = .ok (.iload 4, 2) := by decide +kernel
theorem dL_law_674 : decode cL_law 674 = .ok (.iconst 1, 1) := by decide +kernel
theorem dL_law_675 : decode cL_law 675 = .ok (.iadd, 1) := by decide +kernel
theorem dL_law_676 : decode cL_law 676 = .ok (.iaload, 1) := by decide +kernel
theorem dL_law_677 : decode cL_law 677 = .ok (.aload_n 0, 1) := by decide +kernel
theorem dL_law_678 : decode cL_law 678 = .ok (.iload 4, 2) := by decide +kernel
theorem dL_law_680 : decode cL_law 680 = .ok (.iconst 2, 1) := by decide +kernel
theorem dL_law_681 : decode cL_law 681 = .ok (.iadd, 1) := by decide +kernel
theorem dL_law_682 : decode cL_law 682 = .ok (.iaload, 1) := by decide +kernel
theorem dL_law_683 : decode cL_law 683 = .ok (.invokevirtual 68, 3) := by decide +kernel
theorem dL_law_686 : decode cL_law 686 = .ok (.if_icmp .eq 1178, 3) := by decide +kernel
theorem dL_law_691 : decode cL_law 691 = .ok (.aload_n 1, 1) := by decide +kernel
theorem dL_law_692 : decode cL_law 692 = .ok (.aload_n 0, 1) := by decide +kernel
theorem dL_law_693 : decode cL_law 693 = .ok (.iload 4, 2) := by decide +kernel
theorem dL_law_695 : decode cL_law 695 = .ok (.iconst 1, 1) := by decide +kernel
theorem dL_law_696 : decode cL_law 696 = .ok (.iadd, 1) := by decide +kernel
theorem dL_law_697 : decode cL_law 697 = .ok (.iaload, 1) := by decide +kernel
theorem dL_law_698 : decode cL_law 698 = .ok (.aload_n 0, 1) := by decide +kernel
theorem dL_law_699 : decode cL_law 699 = .ok (.iload 4, 2) := by decide +kernel
theorem dL_law_701 : decode cL_law 701 = .ok (.iconst 2, 1) := by decide +kernel
theorem dL_law_702 : decode cL_law 702 = .ok (.iadd, 1) := by decide +kernel
theorem dL_law_703 : decode cL_law 703 = .ok (.iaload, 1) := by decide +kernel
theorem dL_law_704 : decode cL_law 704 = .ok (.invokevirtual 69, 3) := by decide +kernel
theorem dL_law_707 : decode cL_law 707 = .ok (.aload_n 2, 1) := by decide +kernel
theorem dL_law_708 : decode cL_law 708 = .ok (.aload_n 0, 1) := by decide +kernel
theorem dL_law_709 : decode cL_law 709 = .ok (.iload 4, 2) := by decide +kernel
theorem dL_law_711 : decode cL_law 711 = .ok (.iconst 1, 1) := by decide +kernel
theorem dL_law_712 : decode cL_law 712 = .ok (.iadd, 1) := by decide +kernel
theorem dL_law_713 : decode cL_law 713 = .ok (.iaload, 1) := by decide +kernel
theorem dL_law_714 : decode cL_law 714 = .ok (.aload_n 0, 1) := by decide +kernel
theorem dL_law_715 : decode cL_law 715 = .ok (.iload 4, 2) := by decide +kernel
theorem dL_law_717 : decode cL_law 717 = .ok (.iconst 2, 1) := by decide +kernel
theorem dL_law_718 : decode cL_law 718 = .ok (.iadd, 1) := by decide +kernel
theorem dL_law_719 : decode cL_law 719 = .ok (.iaload, 1) := by decide +kernel
theorem dL_law_720 : decode cL_law 720 = .ok (.invokevirtual 72, 3) := by decide +kernel
theorem dL_law_723 : decode cL_law 723 = .ok (.if_icmp .eq 1141, 3) := by decide +kernel
/-! THE LAW: what holds at its loop's head; a number of the script. -/
abbrev LV (b B : Nat) (iv : Int32) : List (Nat × Value) := [(0, .ref b), (1, .ref (B + 0)), (2, .ref (B + 136)), (3, .ref (B + 182)), (4, .int iv)]
def LH (p : Program) (s : State) (m : MethodId) (meth : Method) (c : Code) (D : va_G) (ct : Nat → ClassId) (B b L : Nat) (xs : Nat → Int32) (adK adV sa : Nat → Nat) : Prop :=
  XC D ct p s m #[Value.ref b] meth c cL_law 8 (some .boolean) RL ∧ SK adK adV B s ∧ EK sa B s ∧ va_X b L xs s s.heap ∧ b < s.heap.size ∧ b < B
def FIN (p : Program) (e : Env) (s : State) (m : MethodId) (below : List Frame) (meth : Method) (c : Code) (l : Launch) (D : va_G) (ct : Nat → ClassId) (B b cells slots : Nat) (Q : State → Prop) (iv : Int32) : Prop :=
  ∀ (S' : St) (M' : MM) (H' : Heap) (locs' : List Loc) (ls' : Array Slot), IC S' M' → IR S' M' → MP D ct B s.heap S' H' → va_S (AB B) s.heap H' locs' → lv_has ls' 8 (LV b B iv) → W p l e room_1 s m #[Value.ref b] below meth c H' locs' (cells + 50) (slots + 100) Q (F0 m 1864 ls' [])
section LAW
variable {p : Program} {e : Env} {s : State} {m : MethodId} {below : List Frame} {meth : Method} {c : Code} {l : Launch} {D : va_G} {ct : Nat → ClassId} {B b L : Nat} {xs : Nat → Int32} {adK adV sa : Nat → Nat} {S : St} {T : TT} {im : Option TT} {sh : Nat → Sh} {H : Heap} {locs : List Loc} {ls : Array Slot} {cells slots : Nat} {Q : State → Prop} {iv : Int32}
theorem ar (A : LH p s m meth c D ct B b L xs adK adV sa) (hS : va_S (AB B) s.heap H locs) (hl : lv_has ls 8 (LV b B iv)) {pc : Nat} {n : Int} {v : Int32} {rest : List Value} (d0 : decode cL_law pc = .ok (.aload_n 0, 1)) (d1 : decode cL_law (pc + 1) = .ok (.iload 4, 2)) (d3 : decode cL_law (pc + 3) = .ok (.iconst n, 1)) (hv : Int32.ofInt n = v) (d4 : decode cL_law (pc + 4) = .ok (.iadd, 1)) (d5 : decode cL_law (pc + 5) = .ok (.iaload, 1)) (hin : vp_in (iv + v) L)
    (kk : W p l e room_1 s m #[Value.ref b] below meth c H locs cells slots Q (F0 m (pc + 6) ls (.int (xs (iv + v).toNatClampNeg) :: rest))) : W p l e room_1 s m #[Value.ref b] below meth c H locs cells slots Q (F0 m pc ls rest) := by
  obtain ⟨hx, hb, hr, hml, hown, hts, hK, hlocks, hN⟩ := id A.1
  have hbA : ¬ AB B b := Nat.not_le.mpr A.2.2.2.2.2
  refine lv_aload_n hx hb d0 rfl (lv_at hl 0 rfl) ?_
  refine lv_iload hx hb d1 (lv_at hl 4 rfl) ?_
  refine lv_iconst (v := v) hx hb d3 hv ?_
  refine lv_iadd hx hb d4 ?_
  exact va_sld hx hb A.2.2.2.1 A.2.2.2.2.1 hbA hS hin d5 kk
theorem lcmp_0 (r : Int64) : lg_cmp r r = 0 := by simp [lg_cmp]
set_option maxRecDepth 100000 in
set_option maxHeartbeats 4000000 in
theorem L_0 (A : LH p s m meth c D ct B b L xs adK adV sa) (c0 : IC S (T, im, sh)) (g0 : IR S (T, im, sh)) (hP : MP D ct B s.heap S H) (hS : va_S (AB B) s.heap H locs) (hl : lv_has ls 8 (LV b B iv)) (hin : ∀ j : Nat, j < 6 → vp_in (iv + nI j) L) (hc : cells + 50 ≤ room_1.cells) (hs : slots + 100 ≤ room_1.slots) (fin : FIN p e s m below meth c l D ct B b cells slots Q iv) : W p l e room_1 s m #[Value.ref b] below meth c H locs cells slots Q (F0 m 248 ls []) := by
  obtain ⟨hx, hb, hr, hml, hown, hts, hK, hlocks, hN⟩ := id A.1
  obtain ⟨r, S1, S2, M2, f1, f2, c2, g2⟩ := J_town c0 g0 (xs (iv + nI 1).toNatClampNeg)
  refine lv_aload_n hx hb dL_law_248 rfl (lv_at hl 1 rfl) ?_
  refine ar A hS hl (v := nI 1) dL_law_249 dL_law_250 dL_law_252 (by decide) dL_law_253 dL_law_254 (hin 1 (by decide)) ?_
  refine n_Iw (kVE (As := [.int (xs (iv + nI 1).toNatClampNeg)]) A.1 A.2.1 hS (c_X11_town l (xs (iv + nI 1).toNatClampNeg) f1) ⟨wd_256, wd_253, wd_254, wd_255, wd_1⟩ kd_X11_town ⟨Nat.le_of_ble_eq_true rfl, Nat.le_of_ble_eq_true rfl⟩ hP (lay_X11 B ct S) rfl rfl hl.1 rfl (Nat.le_of_ble_eq_true rfl) dL_law_255 ⟨by omega, by omega⟩) hS (fun H locs hP hS => ?_)
  refine lv_aload_n hx hb dL_law_258 rfl (lv_at hl 2 rfl) ?_
  refine ar A hS hl (v := nI 1) dL_law_259 dL_law_260 dL_law_262 (by decide) dL_law_263 dL_law_264 (hin 1 (by decide)) ?_
  refine n_Iw (kV (As := [.int (xs (iv + nI 1).toNatClampNeg)]) A.1 (c_X12_town l (xs (iv + nI 1).toNatClampNeg) f2) ⟨wd_1362, wd_1359, wd_1360, wd_1361, wd_6⟩ kd_X12_town ⟨Nat.le_of_ble_eq_true rfl, Nat.le_of_ble_eq_true rfl⟩ hP (lay_X12 B ct S1) rfl rfl hl.1 rfl (Nat.le_of_ble_eq_true rfl) dL_law_265 ⟨by omega, by omega⟩) hS (fun H locs hP hS => ?_)
  refine lv_icmp_eq (tgt := 1864) hx hb dL_law_268 (by decide) (fun _ => ?_) (fun q => absurd rfl q)
  exact W.widen (by omega) (by omega) (fin _ _ _ _ _ c2 g2 hP hS hl)
set_option maxRecDepth 100000 in
set_option maxHeartbeats 4000000 in
theorem L_1 (A : LH p s m meth c D ct B b L xs adK adV sa) (c0 : IC S (T, im, sh)) (g0 : IR S (T, im, sh)) (hP : MP D ct B s.heap S H) (hS : va_S (AB B) s.heap H locs) (hl : lv_has ls 8 (LV b B iv)) (hin : ∀ j : Nat, j < 6 → vp_in (iv + nI j) L) (hc : cells + 50 ≤ room_1.cells) (hs : slots + 100 ≤ room_1.slots) (fin : FIN p e s m below meth c l D ct B b cells slots Q iv) : W p l e room_1 s m #[Value.ref b] below meth c H locs cells slots Q (F0 m 273 ls []) := by
  obtain ⟨hx, hb, hr, hml, hown, hts, hK, hlocks, hN⟩ := id A.1
  obtain ⟨r, S2, f1, f2, c2, g2⟩ := J_person c0 g0 (xs (iv + nI 1).toNatClampNeg) (xs (iv + nI 2).toNatClampNeg)
  refine lv_aload_n hx hb dL_law_273 rfl (lv_at hl 1 rfl) ?_
  refine ar A hS hl (v := nI 1) dL_law_274 dL_law_275 dL_law_277 (by decide) dL_law_278 dL_law_279 (hin 1 (by decide)) ?_
  refine ar A hS hl (v := nI 2) dL_law_280 dL_law_281 dL_law_283 (by decide) dL_law_284 dL_law_285 (hin 2 (by decide)) ?_
  refine n_I (kV (As := [.int (xs (iv + nI 1).toNatClampNeg), .int (xs (iv + nI 2).toNatClampNeg)]) A.1 (c_X11_person l (xs (iv + nI 1).toNatClampNeg) (xs (iv + nI 2).toNatClampNeg) f1) ⟨wd_473, wd_470, wd_471, wd_472, wd_1⟩ kd_X11_person ⟨Nat.le_of_ble_eq_true rfl, Nat.le_of_ble_eq_true rfl⟩ hP (lay_X11 B ct S) rfl rfl hl.1 rfl (Nat.le_of_ble_eq_true rfl) dL_law_286 ⟨by omega, by omega⟩) hS (fun H locs hP hS => ?_)
  refine lv_aload_n hx hb dL_law_289 rfl (lv_at hl 2 rfl) ?_
  refine ar A hS hl (v := nI 1) dL_law_290 dL_law_291 dL_law_293 (by decide) dL_law_294 dL_law_295 (hin 1 (by decide)) ?_
  refine ar A hS hl (v := nI 2) dL_law_296 dL_law_297 dL_law_299 (by decide) dL_law_300 dL_law_301 (hin 2 (by decide)) ?_
  refine n_Iw (kV (As := [.int (xs (iv + nI 1).toNatClampNeg), .int (xs (iv + nI 2).toNatClampNeg)]) A.1 (c_X12_person l (xs (iv + nI 1).toNatClampNeg) (xs (iv + nI 2).toNatClampNeg) f2) ⟨wd_1444, wd_1441, wd_1442, wd_1443, wd_6⟩ kd_X12_person ⟨Nat.le_of_ble_eq_true rfl, Nat.le_of_ble_eq_true rfl⟩ hP (lay_X12 B ct S) rfl rfl hl.1 rfl (Nat.le_of_ble_eq_true rfl) dL_law_302 ⟨by omega, by omega⟩) hS (fun H locs hP hS => ?_)
  refine lv_icmp_eq (tgt := 1864) hx hb dL_law_305 (by decide) (fun _ => ?_) (fun q => absurd rfl q)
  exact W.widen (by omega) (by omega) (fin _ _ _ _ _ c2 g2 hP hS hl)
set_option maxRecDepth 100000 in
set_option maxHeartbeats 4000000 in
theorem L_2 (A : LH p s m meth c D ct B b L xs adK adV sa) (c0 : IC S (T, im, sh)) (g0 : IR S (T, im, sh)) (hP : MP D ct B s.heap S H) (hS : va_S (AB B) s.heap H locs) (hl : lv_has ls 8 (LV b B iv)) (hin : ∀ j : Nat, j < 6 → vp_in (iv + nI j) L) (hc : cells + 50 ≤ room_1.cells) (hs : slots + 100 ≤ room_1.slots) (fin : FIN p e s m below meth c l D ct B b cells slots Q iv) : W p l e room_1 s m #[Value.ref b] below meth c H locs cells slots Q (F0 m 310 ls []) := by
  obtain ⟨hx, hb, hr, hml, hown, hts, hK, hlocks, hN⟩ := id A.1
  obtain ⟨r, S2, f1, f2, c2, g2⟩ := J_weighs c0 g0 (xs (iv + nI 1).toNatClampNeg) (xs (iv + nI 2).toNatClampNeg) (xs (iv + nI 3).toNatClampNeg)
  refine lv_aload_n hx hb dL_law_310 rfl (lv_at hl 1 rfl) ?_
  refine ar A hS hl (v := nI 1) dL_law_311 dL_law_312 dL_law_314 (by decide) dL_law_315 dL_law_316 (hin 1 (by decide)) ?_
  refine ar A hS hl (v := nI 2) dL_law_317 dL_law_318 dL_law_320 (by decide) dL_law_321 dL_law_322 (hin 2 (by decide)) ?_
  refine ar A hS hl (v := nI 3) dL_law_323 dL_law_324 dL_law_326 (by decide) dL_law_327 dL_law_328 (hin 3 (by decide)) ?_
  refine n_I (kV (As := [.int (xs (iv + nI 1).toNatClampNeg), .int (xs (iv + nI 2).toNatClampNeg), .int (xs (iv + nI 3).toNatClampNeg)]) A.1 (c_X11_weighs l (xs (iv + nI 1).toNatClampNeg) (xs (iv + nI 2).toNatClampNeg) (xs (iv + nI 3).toNatClampNeg) f1) ⟨wd_499, wd_496, wd_497, wd_498, wd_1⟩ kd_X11_weighs ⟨Nat.le_of_ble_eq_true rfl, Nat.le_of_ble_eq_true rfl⟩ hP (lay_X11 B ct S) rfl rfl hl.1 rfl (Nat.le_of_ble_eq_true rfl) dL_law_329 ⟨by omega, by omega⟩) hS (fun H locs hP hS => ?_)
  refine lv_aload_n hx hb dL_law_332 rfl (lv_at hl 2 rfl) ?_
  refine ar A hS hl (v := nI 1) dL_law_333 dL_law_334 dL_law_336 (by decide) dL_law_337 dL_law_338 (hin 1 (by decide)) ?_
  refine ar A hS hl (v := nI 2) dL_law_339 dL_law_340 dL_law_342 (by decide) dL_law_343 dL_law_344 (hin 2 (by decide)) ?_
  refine ar A hS hl (v := nI 3) dL_law_345 dL_law_346 dL_law_348 (by decide) dL_law_349 dL_law_350 (hin 3 (by decide)) ?_
  refine n_Iw (kV (As := [.int (xs (iv + nI 1).toNatClampNeg), .int (xs (iv + nI 2).toNatClampNeg), .int (xs (iv + nI 3).toNatClampNeg)]) A.1 (c_X12_weighs l (xs (iv + nI 1).toNatClampNeg) (xs (iv + nI 2).toNatClampNeg) (xs (iv + nI 3).toNatClampNeg) f2) ⟨wd_1456, wd_1453, wd_1454, wd_1455, wd_6⟩ kd_X12_weighs ⟨Nat.le_of_ble_eq_true rfl, Nat.le_of_ble_eq_true rfl⟩ hP (lay_X12 B ct S) rfl rfl hl.1 rfl (Nat.le_of_ble_eq_true rfl) dL_law_351 ⟨by omega, by omega⟩) hS (fun H locs hP hS => ?_)
  refine lv_icmp_eq (tgt := 1864) hx hb dL_law_354 (by decide) (fun _ => ?_) (fun q => absurd rfl q)
  exact W.widen (by omega) (by omega) (fin _ _ _ _ _ c2 g2 hP hS hl)
set_option maxRecDepth 100000 in
set_option maxHeartbeats 4000000 in
theorem L_3 (A : LH p s m meth c D ct B b L xs adK adV sa) (c0 : IC S (T, im, sh)) (g0 : IR S (T, im, sh)) (hP : MP D ct B s.heap S H) (hS : va_S (AB B) s.heap H locs) (hl : lv_has ls 8 (LV b B iv)) (hin : ∀ j : Nat, j < 6 → vp_in (iv + nI j) L) (hc : cells + 50 ≤ room_1.cells) (hs : slots + 100 ≤ room_1.slots) (fin : FIN p e s m below meth c l D ct B b cells slots Q iv) : W p l e room_1 s m #[Value.ref b] below meth c H locs cells slots Q (F0 m 359 ls []) := by
  obtain ⟨hx, hb, hr, hml, hown, hts, hK, hlocks, hN⟩ := id A.1
  obtain ⟨r, S2, f1, f2, c2, g2⟩ := J_strength c0 g0 (xs (iv + nI 1).toNatClampNeg) (xs (iv + nI 2).toNatClampNeg)
  refine lv_aload_n hx hb dL_law_359 rfl (lv_at hl 1 rfl) ?_
  refine ar A hS hl (v := nI 1) dL_law_360 dL_law_361 dL_law_363 (by decide) dL_law_364 dL_law_365 (hin 1 (by decide)) ?_
  refine ar A hS hl (v := nI 2) dL_law_366 dL_law_367 dL_law_369 (by decide) dL_law_370 dL_law_371 (hin 2 (by decide)) ?_
  refine n_I (kV (As := [.int (xs (iv + nI 1).toNatClampNeg), .int (xs (iv + nI 2).toNatClampNeg)]) A.1 (c_X11_strength l (xs (iv + nI 1).toNatClampNeg) (xs (iv + nI 2).toNatClampNeg) f1) ⟨wd_528, wd_525, wd_526, wd_527, wd_1⟩ kd_X11_strength ⟨Nat.le_of_ble_eq_true rfl, Nat.le_of_ble_eq_true rfl⟩ hP (lay_X11 B ct S) rfl rfl hl.1 rfl (Nat.le_of_ble_eq_true rfl) dL_law_372 ⟨by omega, by omega⟩) hS (fun H locs hP hS => ?_)
  refine lv_aload_n hx hb dL_law_375 rfl (lv_at hl 2 rfl) ?_
  refine ar A hS hl (v := nI 1) dL_law_376 dL_law_377 dL_law_379 (by decide) dL_law_380 dL_law_381 (hin 1 (by decide)) ?_
  refine ar A hS hl (v := nI 2) dL_law_382 dL_law_383 dL_law_385 (by decide) dL_law_386 dL_law_387 (hin 2 (by decide)) ?_
  refine n_Iw (kV (As := [.int (xs (iv + nI 1).toNatClampNeg), .int (xs (iv + nI 2).toNatClampNeg)]) A.1 (c_X12_strength l (xs (iv + nI 1).toNatClampNeg) (xs (iv + nI 2).toNatClampNeg) f2) ⟨wd_1469, wd_1466, wd_1467, wd_1468, wd_6⟩ kd_X12_strength ⟨Nat.le_of_ble_eq_true rfl, Nat.le_of_ble_eq_true rfl⟩ hP (lay_X12 B ct S) rfl rfl hl.1 rfl (Nat.le_of_ble_eq_true rfl) dL_law_388 ⟨by omega, by omega⟩) hS (fun H locs hP hS => ?_)
  refine lv_icmp_eq (tgt := 1864) hx hb dL_law_391 (by decide) (fun _ => ?_) (fun q => absurd rfl q)
  exact W.widen (by omega) (by omega) (fin _ _ _ _ _ c2 g2 hP hS hl)
set_option maxRecDepth 100000 in
set_option maxHeartbeats 4000000 in
theorem L_4 (A : LH p s m meth c D ct B b L xs adK adV sa) (c0 : IC S (T, im, sh)) (g0 : IR S (T, im, sh)) (hP : MP D ct B s.heap S H) (hS : va_S (AB B) s.heap H locs) (hl : lv_has ls 8 (LV b B iv)) (hin : ∀ j : Nat, j < 6 → vp_in (iv + nI j) L) (hc : cells + 50 ≤ room_1.cells) (hs : slots + 100 ≤ room_1.slots) (fin : FIN p e s m below meth c l D ct B b cells slots Q iv) : W p l e room_1 s m #[Value.ref b] below meth c H locs cells slots Q (F0 m 396 ls []) := by
  obtain ⟨hx, hb, hr, hml, hown, hts, hK, hlocks, hN⟩ := id A.1
  obtain ⟨r, S2, f1, f2, c2, g2⟩ := J_price c0 g0 (xs (iv + nI 1).toNatClampNeg) (xs (iv + nI 2).toNatClampNeg)
  refine lv_aload_n hx hb dL_law_396 rfl (lv_at hl 1 rfl) ?_
  refine ar A hS hl (v := nI 1) dL_law_397 dL_law_398 dL_law_400 (by decide) dL_law_401 dL_law_402 (hin 1 (by decide)) ?_
  refine ar A hS hl (v := nI 2) dL_law_403 dL_law_404 dL_law_406 (by decide) dL_law_407 dL_law_408 (hin 2 (by decide)) ?_
  refine n_I (kV (As := [.int (xs (iv + nI 1).toNatClampNeg), .int (xs (iv + nI 2).toNatClampNeg)]) A.1 (c_X11_price l (xs (iv + nI 1).toNatClampNeg) (xs (iv + nI 2).toNatClampNeg) f1) ⟨wd_550, wd_547, wd_548, wd_549, wd_1⟩ kd_X11_price ⟨Nat.le_of_ble_eq_true rfl, Nat.le_of_ble_eq_true rfl⟩ hP (lay_X11 B ct S) rfl rfl hl.1 rfl (Nat.le_of_ble_eq_true rfl) dL_law_409 ⟨by omega, by omega⟩) hS (fun H locs hP hS => ?_)
  refine lv_aload_n hx hb dL_law_412 rfl (lv_at hl 2 rfl) ?_
  refine ar A hS hl (v := nI 1) dL_law_413 dL_law_414 dL_law_416 (by decide) dL_law_417 dL_law_418 (hin 1 (by decide)) ?_
  refine ar A hS hl (v := nI 2) dL_law_419 dL_law_420 dL_law_422 (by decide) dL_law_423 dL_law_424 (hin 2 (by decide)) ?_
  refine n_Iw (kV (As := [.int (xs (iv + nI 1).toNatClampNeg), .int (xs (iv + nI 2).toNatClampNeg)]) A.1 (c_X12_price l (xs (iv + nI 1).toNatClampNeg) (xs (iv + nI 2).toNatClampNeg) f2) ⟨wd_1482, wd_1479, wd_1480, wd_1481, wd_6⟩ kd_X12_price ⟨Nat.le_of_ble_eq_true rfl, Nat.le_of_ble_eq_true rfl⟩ hP (lay_X12 B ct S) rfl rfl hl.1 rfl (Nat.le_of_ble_eq_true rfl) dL_law_425 ⟨by omega, by omega⟩) hS (fun H locs hP hS => ?_)
  refine lv_icmp_eq (tgt := 1864) hx hb dL_law_428 (by decide) (fun _ => ?_) (fun q => absurd rfl q)
  exact W.widen (by omega) (by omega) (fin _ _ _ _ _ c2 g2 hP hS hl)
set_option maxRecDepth 100000 in
set_option maxHeartbeats 4000000 in
theorem L_5 (A : LH p s m meth c D ct B b L xs adK adV sa) (c0 : IC S (T, im, sh)) (g0 : IR S (T, im, sh)) (hP : MP D ct B s.heap S H) (hS : va_S (AB B) s.heap H locs) (hl : lv_has ls 8 (LV b B iv)) (hin : ∀ j : Nat, j < 6 → vp_in (iv + nI j) L) (hc : cells + 50 ≤ room_1.cells) (hs : slots + 100 ≤ room_1.slots) (fin : FIN p e s m below meth c l D ct B b cells slots Q iv) : W p l e room_1 s m #[Value.ref b] below meth c H locs cells slots Q (F0 m 433 ls []) := by
  obtain ⟨hx, hb, hr, hml, hown, hts, hK, hlocks, hN⟩ := id A.1
  obtain ⟨r, S1, S2, M2, f1, f2, c2, g2⟩ := J_comes c0 g0 (xs (iv + nI 1).toNatClampNeg) (xs (iv + nI 2).toNatClampNeg) (xs (iv + nI 3).toNatClampNeg) (xs (iv + nI 4).toNatClampNeg) (xs (iv + nI 5).toNatClampNeg)
  refine lv_aload_n hx hb dL_law_433 rfl (lv_at hl 1 rfl) ?_
  refine ar A hS hl (v := nI 1) dL_law_434 dL_law_435 dL_law_437 (by decide) dL_law_438 dL_law_439 (hin 1 (by decide)) ?_
  refine ar A hS hl (v := nI 2) dL_law_440 dL_law_441 dL_law_443 (by decide) dL_law_444 dL_law_445 (hin 2 (by decide)) ?_
  refine ar A hS hl (v := nI 3) dL_law_446 dL_law_447 dL_law_449 (by decide) dL_law_450 dL_law_451 (hin 3 (by decide)) ?_
  refine ar A hS hl (v := nI 4) dL_law_452 dL_law_453 dL_law_455 (by decide) dL_law_456 dL_law_457 (hin 4 (by decide)) ?_
  refine ar A hS hl (v := nI 5) dL_law_458 dL_law_459 dL_law_461 (by decide) dL_law_462 dL_law_463 (hin 5 (by decide)) ?_
  refine n_Iw (kV (As := [.int (xs (iv + nI 1).toNatClampNeg), .int (xs (iv + nI 2).toNatClampNeg), .int (xs (iv + nI 3).toNatClampNeg), .int (xs (iv + nI 4).toNatClampNeg), .int (xs (iv + nI 5).toNatClampNeg)]) A.1 (c_X11_comes l (xs (iv + nI 1).toNatClampNeg) (xs (iv + nI 2).toNatClampNeg) (xs (iv + nI 3).toNatClampNeg) (xs (iv + nI 4).toNatClampNeg) (xs (iv + nI 5).toNatClampNeg) f1) ⟨wd_575, wd_572, wd_573, wd_574, wd_1⟩ kd_X11_comes ⟨Nat.le_of_ble_eq_true rfl, Nat.le_of_ble_eq_true rfl⟩ hP (lay_X11 B ct S) rfl rfl hl.1 rfl (Nat.le_of_ble_eq_true rfl) dL_law_464 ⟨by omega, by omega⟩) hS (fun H locs hP hS => ?_)
  refine lv_aload_n hx hb dL_law_467 rfl (lv_at hl 2 rfl) ?_
  refine ar A hS hl (v := nI 1) dL_law_468 dL_law_469 dL_law_471 (by decide) dL_law_472 dL_law_473 (hin 1 (by decide)) ?_
  refine ar A hS hl (v := nI 2) dL_law_474 dL_law_475 dL_law_477 (by decide) dL_law_478 dL_law_479 (hin 2 (by decide)) ?_
  refine ar A hS hl (v := nI 3) dL_law_480 dL_law_481 dL_law_483 (by decide) dL_law_484 dL_law_485 (hin 3 (by decide)) ?_
  refine ar A hS hl (v := nI 4) dL_law_486 dL_law_487 dL_law_489 (by decide) dL_law_490 dL_law_491 (hin 4 (by decide)) ?_
  refine ar A hS hl (v := nI 5) dL_law_492 dL_law_493 dL_law_495 (by decide) dL_law_496 dL_law_497 (hin 5 (by decide)) ?_
  refine n_Iw (kV (As := [.int (xs (iv + nI 1).toNatClampNeg), .int (xs (iv + nI 2).toNatClampNeg), .int (xs (iv + nI 3).toNatClampNeg), .int (xs (iv + nI 4).toNatClampNeg), .int (xs (iv + nI 5).toNatClampNeg)]) A.1 (c_X12_comes l (xs (iv + nI 1).toNatClampNeg) (xs (iv + nI 2).toNatClampNeg) (xs (iv + nI 3).toNatClampNeg) (xs (iv + nI 4).toNatClampNeg) (xs (iv + nI 5).toNatClampNeg) f2) ⟨wd_1493, wd_1490, wd_1491, wd_1492, wd_6⟩ kd_X12_comes ⟨Nat.le_of_ble_eq_true rfl, Nat.le_of_ble_eq_true rfl⟩ hP (lay_X12 B ct S1) rfl rfl hl.1 rfl (Nat.le_of_ble_eq_true rfl) dL_law_498 ⟨by omega, by omega⟩) hS (fun H locs hP hS => ?_)
  refine lv_icmp_eq (tgt := 1864) hx hb dL_law_501 (by decide) (fun _ => ?_) (fun q => absurd rfl q)
  exact W.widen (by omega) (by omega) (fin _ _ _ _ _ c2 g2 hP hS hl)
set_option maxRecDepth 100000 in
set_option maxHeartbeats 4000000 in
theorem L_6 (A : LH p s m meth c D ct B b L xs adK adV sa) (c0 : IC S (T, im, sh)) (g0 : IR S (T, im, sh)) (hP : MP D ct B s.heap S H) (hS : va_S (AB B) s.heap H locs) (hl : lv_has ls 8 (LV b B iv)) (hin : ∀ j : Nat, j < 6 → vp_in (iv + nI j) L) (hc : cells + 50 ≤ room_1.cells) (hs : slots + 100 ≤ room_1.slots) (fin : FIN p e s m below meth c l D ct B b cells slots Q iv) : W p l e room_1 s m #[Value.ref b] below meth c H locs cells slots Q (F0 m 506 ls []) := by
  obtain ⟨hx, hb, hr, hml, hown, hts, hK, hlocks, hN⟩ := id A.1
  obtain ⟨r, S1, S2, M2, f1, f2, c2, g2⟩ := J_leaves c0 g0 (xs (iv + nI 1).toNatClampNeg)
  refine lv_aload_n hx hb dL_law_506 rfl (lv_at hl 1 rfl) ?_
  refine ar A hS hl (v := nI 1) dL_law_507 dL_law_508 dL_law_510 (by decide) dL_law_511 dL_law_512 (hin 1 (by decide)) ?_
  refine n_Iw (kV (As := [.int (xs (iv + nI 1).toNatClampNeg)]) A.1 (c_X11_leaves l (xs (iv + nI 1).toNatClampNeg) f1) ⟨wd_581, wd_578, wd_579, wd_580, wd_1⟩ kd_X11_leaves ⟨Nat.le_of_ble_eq_true rfl, Nat.le_of_ble_eq_true rfl⟩ hP (lay_X11 B ct S) rfl rfl hl.1 rfl (Nat.le_of_ble_eq_true rfl) dL_law_513 ⟨by omega, by omega⟩) hS (fun H locs hP hS => ?_)
  refine lv_aload_n hx hb dL_law_516 rfl (lv_at hl 2 rfl) ?_
  refine ar A hS hl (v := nI 1) dL_law_517 dL_law_518 dL_law_520 (by decide) dL_law_521 dL_law_522 (hin 1 (by decide)) ?_
  refine n_Iw (kV (As := [.int (xs (iv + nI 1).toNatClampNeg)]) A.1 (c_X12_leaves l (xs (iv + nI 1).toNatClampNeg) f2) ⟨wd_1501, wd_1498, wd_1499, wd_1500, wd_6⟩ kd_X12_leaves ⟨Nat.le_of_ble_eq_true rfl, Nat.le_of_ble_eq_true rfl⟩ hP (lay_X12 B ct S1) rfl rfl hl.1 rfl (Nat.le_of_ble_eq_true rfl) dL_law_523 ⟨by omega, by omega⟩) hS (fun H locs hP hS => ?_)
  refine lv_icmp_eq (tgt := 1864) hx hb dL_law_526 (by decide) (fun _ => ?_) (fun q => absurd rfl q)
  exact W.widen (by omega) (by omega) (fin _ _ _ _ _ c2 g2 hP hS hl)
set_option maxRecDepth 100000 in
set_option maxHeartbeats 4000000 in
theorem L_7 (A : LH p s m meth c D ct B b L xs adK adV sa) (c0 : IC S (T, im, sh)) (g0 : IR S (T, im, sh)) (hP : MP D ct B s.heap S H) (hS : va_S (AB B) s.heap H locs) (hl : lv_has ls 8 (LV b B iv)) (hin : ∀ j : Nat, j < 6 → vp_in (iv + nI j) L) (hc : cells + 50 ≤ room_1.cells) (hs : slots + 100 ≤ room_1.slots) (fin : FIN p e s m below meth c l D ct B b cells slots Q iv) : W p l e room_1 s m #[Value.ref b] below meth c H locs cells slots Q (F0 m 531 ls []) := by
  obtain ⟨hx, hb, hr, hml, hown, hts, hK, hlocks, hN⟩ := id A.1
  obtain ⟨r, S1, S2, M2, f1, f2, c2, g2⟩ := J_mood c0 g0 (xs (iv + nI 1).toNatClampNeg) (xs (iv + nI 2).toNatClampNeg)
  refine lv_aload_n hx hb dL_law_531 rfl (lv_at hl 1 rfl) ?_
  refine ar A hS hl (v := nI 1) dL_law_532 dL_law_533 dL_law_535 (by decide) dL_law_536 dL_law_537 (hin 1 (by decide)) ?_
  refine ar A hS hl (v := nI 2) dL_law_538 dL_law_539 dL_law_541 (by decide) dL_law_542 dL_law_543 (hin 2 (by decide)) ?_
  refine n_Iw (kV (As := [.int (xs (iv + nI 1).toNatClampNeg), .int (xs (iv + nI 2).toNatClampNeg)]) A.1 (c_X11_mood l (xs (iv + nI 1).toNatClampNeg) (xs (iv + nI 2).toNatClampNeg) f1) ⟨wd_589, wd_586, wd_587, wd_588, wd_1⟩ kd_X11_mood ⟨Nat.le_of_ble_eq_true rfl, Nat.le_of_ble_eq_true rfl⟩ hP (lay_X11 B ct S) rfl rfl hl.1 rfl (Nat.le_of_ble_eq_true rfl) dL_law_544 ⟨by omega, by omega⟩) hS (fun H locs hP hS => ?_)
  refine lv_aload_n hx hb dL_law_547 rfl (lv_at hl 2 rfl) ?_
  refine ar A hS hl (v := nI 1) dL_law_548 dL_law_549 dL_law_551 (by decide) dL_law_552 dL_law_553 (hin 1 (by decide)) ?_
  refine ar A hS hl (v := nI 2) dL_law_554 dL_law_555 dL_law_557 (by decide) dL_law_558 dL_law_559 (hin 2 (by decide)) ?_
  refine n_Iw (kV (As := [.int (xs (iv + nI 1).toNatClampNeg), .int (xs (iv + nI 2).toNatClampNeg)]) A.1 (c_X12_mood l (xs (iv + nI 1).toNatClampNeg) (xs (iv + nI 2).toNatClampNeg) f2) ⟨wd_1505, wd_1502, wd_1503, wd_1504, wd_6⟩ kd_X12_mood ⟨Nat.le_of_ble_eq_true rfl, Nat.le_of_ble_eq_true rfl⟩ hP (lay_X12 B ct S1) rfl rfl hl.1 rfl (Nat.le_of_ble_eq_true rfl) dL_law_560 ⟨by omega, by omega⟩) hS (fun H locs hP hS => ?_)
  refine lv_icmp_eq (tgt := 1864) hx hb dL_law_563 (by decide) (fun _ => ?_) (fun q => absurd rfl q)
  exact W.widen (by omega) (by omega) (fin _ _ _ _ _ c2 g2 hP hS hl)
set_option maxRecDepth 100000 in
set_option maxHeartbeats 4000000 in
theorem L_8 (A : LH p s m meth c D ct B b L xs adK adV sa) (c0 : IC S (T, im, sh)) (g0 : IR S (T, im, sh)) (hP : MP D ct B s.heap S H) (hS : va_S (AB B) s.heap H locs) (hl : lv_has ls 8 (LV b B iv)) (hin : ∀ j : Nat, j < 6 → vp_in (iv + nI j) L) (hc : cells + 50 ≤ room_1.cells) (hs : slots + 100 ≤ room_1.slots) (fin : FIN p e s m below meth c l D ct B b cells slots Q iv) : W p l e room_1 s m #[Value.ref b] below meth c H locs cells slots Q (F0 m 568 ls []) := by
  obtain ⟨hx, hb, hr, hml, hown, hts, hK, hlocks, hN⟩ := id A.1
  obtain ⟨r, S1, S2, M2, f1, f2, c2, g2⟩ := J_coins c0 g0 (xs (iv + nI 1).toNatClampNeg) (xs (iv + nI 2).toNatClampNeg)
  refine lv_aload_n hx hb dL_law_568 rfl (lv_at hl 1 rfl) ?_
  refine ar A hS hl (v := nI 1) dL_law_569 dL_law_570 dL_law_572 (by decide) dL_law_573 dL_law_574 (hin 1 (by decide)) ?_
  refine ar A hS hl (v := nI 2) dL_law_575 dL_law_576 dL_law_578 (by decide) dL_law_579 dL_law_580 (hin 2 (by decide)) ?_
  refine n_Iw (kV (As := [.int (xs (iv + nI 1).toNatClampNeg), .int (xs (iv + nI 2).toNatClampNeg)]) A.1 (c_X11_coins l (xs (iv + nI 1).toNatClampNeg) (xs (iv + nI 2).toNatClampNeg) f1) ⟨wd_593, wd_590, wd_591, wd_592, wd_1⟩ kd_X11_coins ⟨Nat.le_of_ble_eq_true rfl, Nat.le_of_ble_eq_true rfl⟩ hP (lay_X11 B ct S) rfl rfl hl.1 rfl (Nat.le_of_ble_eq_true rfl) dL_law_581 ⟨by omega, by omega⟩) hS (fun H locs hP hS => ?_)
  refine lv_aload_n hx hb dL_law_584 rfl (lv_at hl 2 rfl) ?_
  refine ar A hS hl (v := nI 1) dL_law_585 dL_law_586 dL_law_588 (by decide) dL_law_589 dL_law_590 (hin 1 (by decide)) ?_
  refine ar A hS hl (v := nI 2) dL_law_591 dL_law_592 dL_law_594 (by decide) dL_law_595 dL_law_596 (hin 2 (by decide)) ?_
  refine n_Iw (kV (As := [.int (xs (iv + nI 1).toNatClampNeg), .int (xs (iv + nI 2).toNatClampNeg)]) A.1 (c_X12_coins l (xs (iv + nI 1).toNatClampNeg) (xs (iv + nI 2).toNatClampNeg) f2) ⟨wd_1509, wd_1506, wd_1507, wd_1508, wd_6⟩ kd_X12_coins ⟨Nat.le_of_ble_eq_true rfl, Nat.le_of_ble_eq_true rfl⟩ hP (lay_X12 B ct S1) rfl rfl hl.1 rfl (Nat.le_of_ble_eq_true rfl) dL_law_597 ⟨by omega, by omega⟩) hS (fun H locs hP hS => ?_)
  refine lv_icmp_eq (tgt := 1864) hx hb dL_law_600 (by decide) (fun _ => ?_) (fun q => absurd rfl q)
  exact W.widen (by omega) (by omega) (fin _ _ _ _ _ c2 g2 hP hS hl)
set_option maxRecDepth 100000 in
set_option maxHeartbeats 4000000 in
theorem L_9 (A : LH p s m meth c D ct B b L xs adK adV sa) (c0 : IC S (T, im, sh)) (g0 : IR S (T, im, sh)) (hP : MP D ct B s.heap S H) (hS : va_S (AB B) s.heap H locs) (hl : lv_has ls 8 (LV b B iv)) (hin : ∀ j : Nat, j < 6 → vp_in (iv + nI j) L) (hc : cells + 50 ≤ room_1.cells) (hs : slots + 100 ≤ room_1.slots) (fin : FIN p e s m below meth c l D ct B b cells slots Q iv) : W p l e room_1 s m #[Value.ref b] below meth c H locs cells slots Q (F0 m 605 ls []) := by
  obtain ⟨hx, hb, hr, hml, hown, hts, hK, hlocks, hN⟩ := id A.1
  obtain ⟨r, S1, S2, M2, f1, f2, c2, g2⟩ := J_fact c0 g0 (xs (iv + nI 1).toNatClampNeg) (xs (iv + nI 2).toNatClampNeg) (xs (iv + nI 3).toNatClampNeg)
  refine lv_aload_n hx hb dL_law_605 rfl (lv_at hl 1 rfl) ?_
  refine ar A hS hl (v := nI 1) dL_law_606 dL_law_607 dL_law_609 (by decide) dL_law_610 dL_law_611 (hin 1 (by decide)) ?_
  refine ar A hS hl (v := nI 2) dL_law_612 dL_law_613 dL_law_615 (by decide) dL_law_616 dL_law_617 (hin 2 (by decide)) ?_
  refine ar A hS hl (v := nI 3) dL_law_618 dL_law_619 dL_law_621 (by decide) dL_law_622 dL_law_623 (hin 3 (by decide)) ?_
  refine n_Iw (kV (As := [.int (xs (iv + nI 1).toNatClampNeg), .int (xs (iv + nI 2).toNatClampNeg), .int (xs (iv + nI 3).toNatClampNeg)]) A.1 (c_X11_fact l (xs (iv + nI 1).toNatClampNeg) (xs (iv + nI 2).toNatClampNeg) (xs (iv + nI 3).toNatClampNeg) f1) ⟨wd_597, wd_594, wd_595, wd_596, wd_1⟩ kd_X11_fact ⟨Nat.le_of_ble_eq_true rfl, Nat.le_of_ble_eq_true rfl⟩ hP (lay_X11 B ct S) rfl rfl hl.1 rfl (Nat.le_of_ble_eq_true rfl) dL_law_624 ⟨by omega, by omega⟩) hS (fun H locs hP hS => ?_)
  refine lv_aload_n hx hb dL_law_627 rfl (lv_at hl 2 rfl) ?_
  refine ar A hS hl (v := nI 1) dL_law_628 dL_law_629 dL_law_631 (by decide) dL_law_632 dL_law_633 (hin 1 (by decide)) ?_
  refine ar A hS hl (v := nI 2) dL_law_634 dL_law_635 dL_law_637 (by decide) dL_law_638 dL_law_639 (hin 2 (by decide)) ?_
  refine ar A hS hl (v := nI 3) dL_law_640 dL_law_641 dL_law_643 (by decide) dL_law_644 dL_law_645 (hin 3 (by decide)) ?_
  refine n_Iw (kV (As := [.int (xs (iv + nI 1).toNatClampNeg), .int (xs (iv + nI 2).toNatClampNeg), .int (xs (iv + nI 3).toNatClampNeg)]) A.1 (c_X12_fact l (xs (iv + nI 1).toNatClampNeg) (xs (iv + nI 2).toNatClampNeg) (xs (iv + nI 3).toNatClampNeg) f2) ⟨wd_1513, wd_1510, wd_1511, wd_1512, wd_6⟩ kd_X12_fact ⟨Nat.le_of_ble_eq_true rfl, Nat.le_of_ble_eq_true rfl⟩ hP (lay_X12 B ct S1) rfl rfl hl.1 rfl (Nat.le_of_ble_eq_true rfl) dL_law_646 ⟨by omega, by omega⟩) hS (fun H locs hP hS => ?_)
  refine lv_icmp_eq (tgt := 1864) hx hb dL_law_649 (by decide) (fun _ => ?_) (fun q => absurd rfl q)
  exact W.widen (by omega) (by omega) (fin _ _ _ _ _ c2 g2 hP hS hl)
set_option maxRecDepth 100000 in
set_option maxHeartbeats 4000000 in
theorem L_10 (A : LH p s m meth c D ct B b L xs adK adV sa) (c0 : IC S (T, im, sh)) (g0 : IR S (T, im, sh)) (hP : MP D ct B s.heap S H) (hS : va_S (AB B) s.heap H locs) (hl : lv_has ls 8 (LV b B iv)) (hin : ∀ j : Nat, j < 6 → vp_in (iv + nI j) L) (hc : cells + 50 ≤ room_1.cells) (hs : slots + 100 ≤ room_1.slots) (fin : FIN p e s m below meth c l D ct B b cells slots Q iv) : W p l e room_1 s m #[Value.ref b] below meth c H locs cells slots Q (F0 m 654 ls []) := by
  obtain ⟨hx, hb, hr, hml, hown, hts, hK, hlocks, hN⟩ := id A.1
  obtain ⟨r, S2, f1, f2, c2, g2⟩ := J_about c0 g0 (xs (iv + nI 1).toNatClampNeg) (xs (iv + nI 2).toNatClampNeg)
  refine lv_aload_n hx hb dL_law_654 rfl (lv_at hl 1 rfl) ?_
  refine ar A hS hl (v := nI 1) dL_law_655 dL_law_656 dL_law_658 (by decide) dL_law_659 dL_law_660 (hin 1 (by decide)) ?_
  refine ar A hS hl (v := nI 2) dL_law_661 dL_law_662 dL_law_664 (by decide) dL_law_665 dL_law_666 (hin 2 (by decide)) ?_
  refine n_I (kV (As := [.int (xs (iv + nI 1).toNatClampNeg), .int (xs (iv + nI 2).toNatClampNeg)]) A.1 (c_X11_about l (xs (iv + nI 1).toNatClampNeg) (xs (iv + nI 2).toNatClampNeg) f1) ⟨wd_602, wd_599, wd_600, wd_601, wd_1⟩ kd_X11_about ⟨Nat.le_of_ble_eq_true rfl, Nat.le_of_ble_eq_true rfl⟩ hP (lay_X11 B ct S) rfl rfl hl.1 rfl (Nat.le_of_ble_eq_true rfl) dL_law_667 ⟨by omega, by omega⟩) hS (fun H locs hP hS => ?_)
  refine lv_aload_n hx hb dL_law_670 rfl (lv_at hl 2 rfl) ?_
  refine ar A hS hl (v := nI 1) dL_law_671 dL_law_672 dL_law_674 (by decide) dL_law_675 dL_law_676 (hin 1 (by decide)) ?_
  refine ar A hS hl (v := nI 2) dL_law_677 dL_law_678 dL_law_680 (by decide) dL_law_681 dL_law_682 (hin 2 (by decide)) ?_
  refine n_Iw (kV (As := [.int (xs (iv + nI 1).toNatClampNeg), .int (xs (iv + nI 2).toNatClampNeg)]) A.1 (c_X12_about l (xs (iv + nI 1).toNatClampNeg) (xs (iv + nI 2).toNatClampNeg) f2) ⟨wd_1517, wd_1514, wd_1515, wd_1516, wd_6⟩ kd_X12_about ⟨Nat.le_of_ble_eq_true rfl, Nat.le_of_ble_eq_true rfl⟩ hP (lay_X12 B ct S) rfl rfl hl.1 rfl (Nat.le_of_ble_eq_true rfl) dL_law_683 ⟨by omega, by omega⟩) hS (fun H locs hP hS => ?_)
  refine lv_icmp_eq (tgt := 1864) hx hb dL_law_686 (by decide) (fun _ => ?_) (fun q => absurd rfl q)
  exact W.widen (by omega) (by omega) (fin _ _ _ _ _ c2 g2 hP hS hl)
set_option maxRecDepth 100000 in
set_option maxHeartbeats 4000000 in
theorem L_11 (A : LH p s m meth c D ct B b L xs adK adV sa) (c0 : IC S (T, im, sh)) (g0 : IR S (T, im, sh)) (hP : MP D ct B s.heap S H) (hS : va_S (AB B) s.heap H locs) (hl : lv_has ls 8 (LV b B iv)) (hin : ∀ j : Nat, j < 6 → vp_in (iv + nI j) L) (hc : cells + 50 ≤ room_1.cells) (hs : slots + 100 ≤ room_1.slots) (fin : FIN p e s m below meth c l D ct B b cells slots Q iv) : W p l e room_1 s m #[Value.ref b] below meth c H locs cells slots Q (F0 m 691 ls []) := by
  obtain ⟨hx, hb, hr, hml, hown, hts, hK, hlocks, hN⟩ := id A.1
  obtain ⟨r, S1, S2, M2, f1, f2, c2, g2⟩ := J_chance c0 g0 (xs (iv + nI 1).toNatClampNeg) (xs (iv + nI 2).toNatClampNeg)
  refine lv_aload_n hx hb dL_law_691 rfl (lv_at hl 1 rfl) ?_
  refine ar A hS hl (v := nI 1) dL_law_692 dL_law_693 dL_law_695 (by decide) dL_law_696 dL_law_697 (hin 1 (by decide)) ?_
  refine ar A hS hl (v := nI 2) dL_law_698 dL_law_699 dL_law_701 (by decide) dL_law_702 dL_law_703 (hin 2 (by decide)) ?_
  refine n_Iw (kV (As := [.int (xs (iv + nI 1).toNatClampNeg), .int (xs (iv + nI 2).toNatClampNeg)]) A.1 (c_X11_chance l (xs (iv + nI 1).toNatClampNeg) (xs (iv + nI 2).toNatClampNeg) f1) ⟨wd_610, wd_607, wd_608, wd_609, wd_1⟩ kd_X11_chance ⟨Nat.le_of_ble_eq_true rfl, Nat.le_of_ble_eq_true rfl⟩ hP (lay_X11 B ct S) rfl rfl hl.1 rfl (Nat.le_of_ble_eq_true rfl) dL_law_704 ⟨by omega, by omega⟩) hS (fun H locs hP hS => ?_)
  refine lv_aload_n hx hb dL_law_707 rfl (lv_at hl 2 rfl) ?_
  refine ar A hS hl (v := nI 1) dL_law_708 dL_law_709 dL_law_711 (by decide) dL_law_712 dL_law_713 (hin 1 (by decide)) ?_
  refine ar A hS hl (v := nI 2) dL_law_714 dL_law_715 dL_law_717 (by decide) dL_law_718 dL_law_719 (hin 2 (by decide)) ?_
  refine n_Iw (kV (As := [.int (xs (iv + nI 1).toNatClampNeg), .int (xs (iv + nI 2).toNatClampNeg)]) A.1 (c_X12_chance l (xs (iv + nI 1).toNatClampNeg) (xs (iv + nI 2).toNatClampNeg) f2) ⟨wd_1521, wd_1518, wd_1519, wd_1520, wd_6⟩ kd_X12_chance ⟨Nat.le_of_ble_eq_true rfl, Nat.le_of_ble_eq_true rfl⟩ hP (lay_X12 B ct S1) rfl rfl hl.1 rfl (Nat.le_of_ble_eq_true rfl) dL_law_720 ⟨by omega, by omega⟩) hS (fun H locs hP hS => ?_)
  refine lv_icmp_eq (tgt := 1864) hx hb dL_law_723 (by decide) (fun _ => ?_) (fun q => absurd rfl q)
  exact W.widen (by omega) (by omega) (fin _ _ _ _ _ c2 g2 hP hS hl)
end LAW
