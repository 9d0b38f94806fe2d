theorem dL_law_0 : decode cL_law 0 = .ok (.new 7, 3) := by decide +kernel
theorem dL_law_3 : decode cL_law 3 = .ok (.dup, 1) := by decide +kernel
theorem dL_law_4 : decode cL_law 4 = .ok (.invokespecial 9, 3) := by decide +kernel
theorem dL_law_7 : decode cL_law 7 = .ok (.astore_n 1, 1) := by decide +kernel
theorem dL_law_8 : decode cL_law 8 = .ok (.new 10, 3) := by decide +kernel
theorem dL_law_11 : decode cL_law 11 = .ok (.dup, 1) := by decide +kernel
theorem dL_law_12 : decode cL_law 12 = .ok (.invokespecial 12, 3) := by decide +kernel
theorem dL_law_15 : decode cL_law 15 = .ok (.astore_n 2, 1) := by decide +kernel
theorem dL_law_16 : decode cL_law 16 = .ok (.iconst 0, 1) := by decide +kernel
theorem dL_law_17 : decode cL_law 17 = .ok (.istore_n 3, 1) := by decide +kernel
theorem dL_law_18 : decode cL_law 18 = .ok (.iload_n 3, 1) := by decide +kernel
theorem dL_law_19 : decode cL_law 19 = .ok (.aload_n 0, 1) := by decide +kernel
theorem dL_law_20 : decode cL_law 20 = .ok (.arraylength, 1) := by decide +kernel
theorem dL_law_21 : decode cL_law 21 = .ok (.iconst 5, 1) := by decide +kernel
theorem dL_law_22 : decode cL_law 22 = .ok (.isub, 1) := by decide +kernel
theorem dL_law_23 : decode cL_law 23 = .ok (.if_icmp .gt 1854, 3) := by decide +kernel
theorem dL_law_26 : decode cL_law 26 = .ok (.aload_n 0, 1) := by decide +kernel
theorem dL_law_27 : decode cL_law 27 = .ok (.iload_n 3, 1) := by decide +kernel
theorem dL_law_28 : decode cL_law 28 = .ok (.iaload, 1) := by decide +kernel
theorem dL_law_29 : decode cL_law 29 = .ok (.bipush 63, 2) := by decide +kernel
theorem dL_law_31 : decode cL_law 31 = .ok (.iand, 1) := by decide +kernel
theorem dL_law_32 : decode cL_law 32 = .ok (.tableswitch 1839 0 53 #[232, 265, 298, 331, 374, 427, 486, 545, 588, 627, 660, 683, 726, 749, 772, 815, 828, 841, 864, 887, 920, 953, 986, 1019, 1052, 1085, 1118, 1141, 1174, 1207, 1230, 1253, 1276, 1289, 1302, 1335, 1378, 1401, 1434, 1467, 1480, 1503, 1526, 1569, 1602, 1645, 1668, 1717, 1740, 1753, 1766, 1779, 1802, 1825], 232) := by decide +kernel
theorem dL_law_264 : decode cL_law 264 = .ok (.aload_n 1, 1) := by decide +kernel
theorem dL_law_265 : decode cL_law 265 = .ok (.aload_n 0, 1) := by decide +kernel
theorem dL_law_266 : decode cL_law 266 = .ok (.iload_n 3, 1) := by decide +kernel
theorem dL_law_267 : decode cL_law 267 = .ok (.iconst 1, 1) := by decide +kernel
theorem dL_law_268 : decode cL_law 268 = .ok (.iadd, 1) := by decide +kernel
theorem dL_law_269 : decode cL_law 269 = .ok (.iaload, 1) := by decide +kernel
theorem dL_law_270 : decode cL_law 270 = .ok (.aload_n 0, 1) := by decide +kernel
theorem dL_law_271 : decode cL_law 271 = .ok (.iload_n 3, 1) := by decide +kernel
theorem dL_law_272 : decode cL_law 272 = .ok (.iconst 2, 1) := by decide +kernel
theorem dL_law_273 : decode cL_law 273 = .ok (.iadd, 1) := by decide +kernel
theorem dL_law_274 : decode cL_law 274 = .ok (.iaload, 1) := by decide +kernel
theorem dL_law_275 : decode cL_law 275 = .ok (.invokevirtual 13, 3) := by decide +kernel
theorem dL_law_278 : decode cL_law 278 = .ok (.aload_n 2, 1) := by decide +kernel
theorem dL_law_279 : decode cL_law 279 = .ok (.aload_n 0, 1) := by decide +kernel
theorem dL_law_280 : decode cL_law 280 = .ok (.iload_n 3, 1) := by decide +kernel
theorem dL_law_281 : decode cL_law 281 = .ok (.iconst 1, 1) := by decide +kernel
theorem dL_law_282 : decode cL_law 282 = .ok (.iadd, 1) := by decide +kernel
theorem dL_law_283 : decode cL_law 283 = .ok (.iaload, 1) := by decide +kernel
theorem dL_law_284 : decode cL_law 284 = .ok (.aload_n 0, 1) := by decide +kernel
theorem dL_law_285 : decode cL_law 285 = .ok (.iload_n 3, 1) := by decide +kernel
theorem dL_law_286 : decode cL_law 286 = .ok (.iconst 2, 1) := by decide +kernel
theorem dL_law_287 : decode cL_law 287 = .ok (.iadd, 1) := by decide +kernel
theorem dL_law_288 : decode cL_law 288 = .ok (.iaload, 1) := by decide +kernel
theorem dL_law_289 : decode cL_law 289 = .ok (.invokevirtual 17, 3) := by decide +kernel
theorem dL_law_292 : decode cL_law 292 = .ok (.if_icmp .eq 1579, 3) := by decide +kernel
theorem dL_law_295 : decode cL_law 295 = .ok (.iconst 0, 1) := by decide +kernel
theorem dL_law_296 : decode cL_law 296 = .ok (.ireturn, 1) := by decide +kernel
theorem dL_law_297 : decode cL_law 297 = .ok (.aload_n 1, 1) := by decide +kernel
theorem dL_law_298 : decode cL_law 298 = .ok (.aload_n 0, 1) := by decide +kernel
theorem dL_law_299 : decode cL_law 299 = .ok (.iload_n 3, 1) := by decide +kernel
theorem dL_law_300 : decode cL_law 300 = .ok (.iconst 1, 1) := by decide +kernel
theorem dL_law_301 : decode cL_law 301 = .ok (.iadd, 1) := by decide +kernel
theorem dL_law_302 : decode cL_law 302 = .ok (.iaload, 1) := by decide +kernel
theorem dL_law_303 : decode cL_law 303 = .ok (.aload_n 0, 1) := by decide +kernel
theorem dL_law_304 : decode cL_law 304 = .ok (.iload_n 3, 1) := by decide +kernel
theorem dL_law_305 : decode cL_law 305 = .ok (.iconst 2, 1) := by decide +kernel
theorem dL_law_306 : decode cL_law 306 = .ok (.iadd, 1) := by decide +kernel
theorem dL_law_307 : decode cL_law 307 = .ok (.iaload, 1) := by decide +kernel
theorem dL_law_308 : decode cL_law 308 = .ok (.invokevirtual 18, 3) := by decide +kernel
theorem dL_law_311 : decode cL_law 311 = .ok (.aload_n 2, 1) := by decide +kernel
theorem dL_law_312 : decode cL_law 312 = .ok (.aload_n 0, 1) := by decide +kernel
theorem dL_law_313 : decode cL_law 313 = .ok (.iload_n 3, 1) := by decide +kernel
theorem dL_law_314 : decode cL_law 314 = .ok (.iconst 1, 1) := by decide +kernel
theorem dL_law_315 : decode cL_law 315 = .ok (.iadd, 1) := by decide +kernel
theorem dL_law_316 : decode cL_law 316 = .ok (.iaload, 1) := by decide +kernel
theorem dL_law_317 : decode cL_law 317 = .ok (.aload_n 0, 1) := by decide +kernel
theorem dL_law_318 : decode cL_law 318 = .ok (.iload_n 3, 1) := by decide +kernel
theorem dL_law_319 : decode cL_law 319 = .ok (.iconst 2, 1) := by decide +kernel
theorem dL_law_320 : decode cL_law 320 = .ok (.iadd, 1) := by decide +kernel
theorem dL_law_321 : decode cL_law 321 = .ok (.iaload, 1) := by decide +kernel
theorem dL_law_322 : decode cL_law 322 = .ok (.invokevirtual 21, 3) := by decide +kernel
theorem dL_law_325 : decode cL_law 325 = .ok (.if_icmp .eq 1546, 3) := by decide +kernel
theorem dL_law_328 : decode cL_law 328 = .ok (.iconst 0, 1) := by decide +kernel
theorem dL_law_329 : decode cL_law 329 = .ok (.ireturn, 1) := by decide +kernel
theorem dL_law_330 : decode cL_law 330 = .ok (.aload_n 1, 1) := by decide +kernel
theorem dL_law_331 : decode cL_law 331 = .ok (.aload_n 0, 1) := by decide +kernel
theorem dL_law_332 : decode cL_law 332 = .ok (.iload_n 3, 1) := by decide +kernel
theorem dL_law_333 : decode cL_law 333 = .ok (.iconst 1, 1) := by decide +kernel
theorem dL_law_334 : decode cL_law 334 = .ok (.iadd, 1) := by decide +kernel
theorem dL_law_335 : decode cL_law 335 = .ok (.iaload, 1) := by decide +kernel
theorem dL_law_336 : decode cL_law 336 = .ok (.aload_n 0, 1) := by decide +kernel
theorem dL_law_337 : decode cL_law 337 = .ok (.iload_n 3, 1) := by decide +kernel
theorem dL_law_338 : decode cL_law 338 = .ok (.iconst 2, 1) := by decide +kernel
theorem dL_law_339 : decode cL_law 339 = .ok (.iadd, 1) := by decide +kernel
theorem dL_law_340 : decode cL_law 340 = .ok (.iaload, 1) := by decide +kernel
theorem dL_law_341 : decode cL_law 341 = .ok (.invokevirtual 22, 3) := by decide +kernel
theorem dL_law_344 : decode cL_law 344 = .ok (.aload_n 2, 1) := by decide +kernel
theorem dL_law_345 : decode cL_law 345 = .ok (.aload_n 0, 1) := by decide +kernel
theorem dL_law_346 : decode cL_law 346 = .ok (.iload_n 3, 1) := by decide +kernel
theorem dL_law_347 : decode cL_law 347 = .ok (.iconst 1, 1) := by decide +kernel
theorem dL_law_348 : decode cL_law 348 = .ok (.iadd, 1) := by decide +kernel
theorem dL_law_349 : decode cL_law 349 = .ok (.iaload, 1) := by decide +kernel
theorem dL_law_350 : decode cL_law 350 = .ok (.aload_n 0, 1) := by decide +kernel
theorem dL_law_351 : decode cL_law 351 = .ok (.iload_n 3, 1) := by decide +kernel
theorem dL_law_352 : decode cL_law 352 = .ok (.iconst 2, 1) := by decide +kernel
theorem dL_law_353 : decode cL_law 353 = .ok (.iadd, 1) := by decide +kernel
theorem dL_law_354 : decode cL_law 354 = .ok (.iaload, 1) := by decide +kernel
theorem dL_law_355 : decode cL_law 355 = .ok (.invokevirtual 25, 3) := by decide +kernel
theorem dL_law_358 : decode cL_law 358 = .ok (.if_icmp .eq 1513, 3) := by decide +kernel
theorem dL_law_361 : decode cL_law 361 = .ok (.iconst 0, 1) := by decide +kernel
theorem dL_law_362 : decode cL_law 362 = .ok (.ireturn, 1) := by decide +kernel
theorem dL_law_363 : decode cL_law 363 = .ok (.aload_n 1, 1) := by decide +kernel
theorem dL_law_364 : decode cL_law 364 = .ok (.aload_n 0, 1) := by decide +kernel
theorem dL_law_365 : decode cL_law 365 = .ok (.iload_n 3, 1) := by decide +kernel
theorem dL_law_366 : decode cL_law 366 = .ok (.iconst 1, 1) := by decide +kernel
theorem dL_law_367 : decode cL_law 367 = .ok (.iadd, 1) := by decide +kernel
theorem dL_law_368 : decode cL_law 368 = .ok (.iaload, 1) := by decide +kernel
theorem dL_law_369 : decode cL_law 369 = .ok (.aload_n 0, 1) := by decide +kernel
theorem dL_law_370 : decode cL_law 370 = .ok (.iload_n 3, 1) := by decide +kernel
theorem dL_law_371 : decode cL_law 371 = .ok (.iconst 2, 1) := by decide +kernel
theorem dL_law_372 : decode cL_law 372 = .ok (.iadd, 1) := by decide +kernel
theorem dL_law_373 : decode cL_law 373 = .ok (.iaload, 1) := by decide +kernel
theorem dL_law_374 : decode cL_law 374 = .ok (.aload_n 0, 1) := by decide +kernel
theorem dL_law_375 : decode cL_law 375 = .ok (.iload_n 3, 1) := by decide +kernel
theorem dL_law_376 : decode cL_law 376 = .ok (.iconst 3, 1) := by decide +kernel
theorem dL_law_377 : decode cL_law 377 = .ok (.iadd, 1) := by decide +kernel
theorem dL_law_378 : decode cL_law 378 = .ok (.iaload, 1) := by decide +kernel
theorem dL_law_379 : decode cL_law 379 = .ok (.invokevirtual 26, 3) := by decide +kernel
theorem dL_law_382 : decode cL_law 382 = .ok (.aload_n 2, 1) := by decide +kernel
theorem dL_law_383 : decode cL_law 383 = .ok (.aload_n 0, 1) := by decide +kernel
theorem dL_law_384 : decode cL_law 384 = .ok (.iload_n 3, 1) := by decide +kernel
theorem dL_law_385 : decode cL_law 385 = .ok (.iconst 1, 1) := by decide +kernel
theorem dL_law_386 : decode cL_law 386 = .ok (.iadd, 1) := by decide +kernel
theorem dL_law_387 : decode cL_law 387 = .ok (.iaload, 1) := by decide +kernel
theorem dL_law_388 : decode cL_law 388 = .ok (.aload_n 0, 1) := by decide +kernel
theorem dL_law_389 : decode cL_law 389 = .ok (.iload_n 3, 1) := by decide +kernel
theorem dL_law_390 : decode cL_law 390 = .ok (.iconst 2, 1) := by decide +kernel
theorem dL_law_391 : decode cL_law 391 = .ok (.iadd, 1) := by decide +kernel
theorem dL_law_392 : decode cL_law 392 = .ok (.iaload, 1) := by decide +kernel
theorem dL_law_393 : decode cL_law 393 = .ok (.aload_n 0, 1) := by decide +kernel
theorem dL_law_394 : decode cL_law 394 = .ok (.iload_n 3, 1) := by decide +kernel
theorem dL_law_395 : decode cL_law 395 = .ok (.iconst 3, 1) := by decide +kernel
theorem dL_law_396 : decode cL_law 396 = .ok (.iadd, 1) := by decide +kernel
theorem dL_law_397 : decode cL_law 397 = .ok (.iaload, 1) := by decide +kernel
theorem dL_law_398 : decode cL_law 398 = .ok (.invokevirtual 30, 3) := by decide +kernel
theorem dL_law_401 : decode cL_law 401 = .ok (.if_icmp .eq 1470, 3) := by decide +kernel
theorem dL_law_404 : decode cL_law 404 = .ok (.iconst 0, 1) := by decide +kernel
theorem dL_law_405 : decode cL_law 405 = .ok (.ireturn, 1) := by decide +kernel
theorem dL_law_406 : decode cL_law 406 = .ok (.aload_n 1, 1) := by decide +kernel
theorem dL_law_407 : decode cL_law 407 = .ok (.aload_n 0, 1) := by decide +kernel
theorem dL_law_408 : decode cL_law 408 = .ok (.iload_n 3, 1) := by decide +kernel
theorem dL_law_409 : decode cL_law 409 = .ok (.iconst 1, 1) := by decide +kernel
theorem dL_law_410 : decode cL_law 410 = .ok (.iadd, 1) := by decide +kernel
theorem dL_law_411 : decode cL_law 411 = .ok (.iaload, 1) := by decide +kernel
theorem dL_law_412 : decode cL_law 412 = .ok (.aload_n 0, 1) := by decide +kernel
theorem dL_law_413 : decode cL_law 413 = .ok (.iload_n 3, 1) := by decide +kernel
theorem dL_law_414 : decode cL_law 414 = .ok (.iconst 2, 1) := by decide +kernel
theorem dL_law_415 : decode cL_law 415 = .ok (.iadd, 1) := by decide +kernel
theorem dL_law_416 : decode cL_law 416 = .ok (.iaload, 1) := by decide +kernel
theorem dL_law_417 : decode cL_law 417 = .ok (.aload_n 0, 1) := by decide +kernel
theorem dL_law_418 : decode cL_law 418 = .ok (.iload_n 3, 1) := by decide +kernel
theorem dL_law_419 : decode cL_law 419 = .ok (.iconst 3, 1) := by decide +kernel
theorem dL_law_420 : decode cL_law 420 = .ok (.iadd, 1) := by decide +kernel
theorem dL_law_421 : decode cL_law 421 = .ok (.iaload, 1) := by decide +kernel
theorem dL_law_422 : decode cL_law 422 = .ok (.aload_n 0, 1) := by decide +kernel
theorem dL_law_423 : decode cL_law 423 = .ok (.iload_n 3, 1) := by decide +kernel
theorem dL_law_424 : decode cL_law 424 = .ok (.iconst 4, 1) := by decide +kernel
theorem dL_law_425 : decode cL_law 425 = .ok (.iadd, 1) := by decide +kernel
theorem dL_law_426 : decode cL_law 426 = .ok (.iaload, 1) := by decide +kernel
theorem dL_law_427 : decode cL_law 427 = .ok (.invokevirtual 31, 3) := by decide +kernel
theorem dL_law_430 : decode cL_law 430 = .ok (.aload_n 2, 1) := by decide +kernel
theorem dL_law_431 : decode cL_law 431 = .ok (.aload_n 0, 1) := by decide +kernel
theorem dL_law_432 : decode cL_law 432 = .ok (.iload_n 3, 1) := by decide +kernel
theorem dL_law_433 : decode cL_law 433 = .ok (.iconst 1, 1) := by decide +kernel
theorem dL_law_434 : decode cL_law 434 = .ok (.iadd, 1) := by decide +kernel
theorem dL_law_435 : decode cL_law 435 = .ok (.iaload, 1) := by decide +kernel
theorem dL_law_436 : decode cL_law 436 = .ok (.aload_n 0, 1) := by decide +kernel
theorem dL_law_437 : decode cL_law 437 = .ok (.iload_n 3, 1) := by decide +kernel
theorem dL_law_438 : decode cL_law 438 = .ok (.iconst 2, 1) := by decide +kernel
theorem dL_law_439 : decode cL_law 439 = .ok (.iadd, 1) := by decide +kernel
theorem dL_law_440 : decode cL_law 440 = .ok (.iaload, 1) := by decide +kernel
theorem dL_law_441 : decode cL_law 441 = .ok (.aload_n 0, 1) := by decide +kernel
theorem dL_law_442 : decode cL_law 442 = .ok (.iload_n 3, 1) := by decide +kernel
theorem dL_law_443 : decode cL_law 443 = .ok (.iconst 3, 1) := by decide +kernel
theorem dL_law_444 : decode cL_law 444 = .ok (.iadd, 1) := by decide +kernel
theorem dL_law_445 : decode cL_law 445 = .ok (.iaload, 1) := by decide +kernel
theorem dL_law_446 : decode cL_law 446 = .ok (.aload_n 0, 1) := by decide +kernel
theorem dL_law_447 : decode cL_law 447 = .ok (.iload_n 3, 1) := by decide +kernel
theorem dL_law_448 : decode cL_law 448 = .ok (.iconst 4, 1) := by decide +kernel
theorem dL_law_449 : decode cL_law 449 = .ok (.iadd, 1) := by decide +kernel
theorem dL_law_450 : decode cL_law 450 = .ok (.iaload, 1) := by decide +kernel
theorem dL_law_451 : decode cL_law 451 = .ok (.invokevirtual 35, 3) := by decide +kernel
theorem dL_law_454 : decode cL_law 454 = .ok (.if_icmp .eq 1417, 3) := by decide +kernel
theorem dL_law_457 : decode cL_law 457 = .ok (.iconst 0, 1) := by decide +kernel
theorem dL_law_458 : decode cL_law 458 = .ok (.ireturn, 1) := by decide +kernel
theorem dL_law_459 : decode cL_law 459 = .ok (.aload_n 1, 1) := by decide +kernel
theorem dL_law_460 : decode cL_law 460 = .ok (.aload_n 0, 1) := by decide +kernel
theorem dL_law_461 : decode cL_law 461 = .ok (.iload_n 3, 1) := by decide +kernel
theorem dL_law_462 : decode cL_law 462 = .ok (.iconst 1, 1) := by decide +kernel
theorem dL_law_463 : decode cL_law 463 = .ok (.iadd, 1) := by decide +kernel
theorem dL_law_464 : decode cL_law 464 = .ok (.iaload, 1) := by decide +kernel
theorem dL_law_465 : decode cL_law 465 = .ok (.aload_n 0, 1) := by decide +kernel
theorem dL_law_466 : decode cL_law 466 = .ok (.iload_n 3, 1) := by decide +kernel
theorem dL_law_467 : decode cL_law 467 = .ok (.iconst 2, 1) := by decide +kernel
theorem dL_law_468 : decode cL_law 468 = .ok (.iadd, 1) := by decide +kernel
theorem dL_law_469 : decode cL_law 469 = .ok (.iaload, 1) := by decide +kernel
theorem dL_law_470 : decode cL_law 470 = .ok (.aload_n 0, 1) := by decide +kernel
theorem dL_law_471 : decode cL_law 471 = .ok (.iload_n 3, 1) := by decide +kernel
theorem dL_law_472 : decode cL_law 472 = .ok (.iconst 3, 1) := by decide +kernel
theorem dL_law_473 : decode cL_law 473 = .ok (.iadd, 1) := by decide +kernel
theorem dL_law_474 : decode cL_law 474 = .ok (.iaload, 1) := by decide +kernel
theorem dL_law_475 : decode cL_law 475 = .ok (.ifCond .eq 7, 3) := by decide +kernel
theorem dL_law_478 : decode cL_law 478 = .ok (.iconst 1, 1) := by decide +kernel
theorem dL_law_479 : decode cL_law 479 = .ok (.goto 4, 3) := by decide +kernel
theorem dL_law_482 : decode cL_law 482 = .ok (.iconst 0, 1) := by decide +kernel
theorem dL_law_483 : decode cL_law 483 = .ok (.invokevirtual 36, 3) := by decide +kernel
theorem dL_law_486 : decode cL_law 486 = .ok (.aload_n 2, 1) := by decide +kernel
theorem dL_law_487 : decode cL_law 487 = .ok (.aload_n 0, 1) := by decide +kernel
theorem dL_law_488 : decode cL_law 488 = .ok (.iload_n 3, 1) := by decide +kernel
theorem dL_law_489 : decode cL_law 489 = .ok (.iconst 1, 1) := by decide +kernel
theorem dL_law_490 : decode cL_law 490 = .ok (.iadd, 1) := by decide +kernel
theorem dL_law_491 : decode cL_law 491 = .ok (.iaload, 1) := by decide +kernel
theorem dL_law_492 : decode cL_law 492 = .ok (.aload_n 0, 1) := by decide +kernel
theorem dL_law_493 : decode cL_law 493 = .ok (.iload_n 3, 1) := by decide +kernel
theorem dL_law_494 : decode cL_law 494 = .ok (.iconst 2, 1) := by decide +kernel
theorem dL_law_495 : decode cL_law 495 = .ok (.iadd, 1) := by decide +kernel
theorem dL_law_496 : decode cL_law 496 = .ok (.iaload, 1) := by decide +kernel
theorem dL_law_497 : decode cL_law 497 = .ok (.aload_n 0, 1) := by decide +kernel
theorem dL_law_498 : decode cL_law 498 = .ok (.iload_n 3, 1) := by decide +kernel
theorem dL_law_499 : decode cL_law 499 = .ok (.iconst 3, 1) := by decide +kernel
theorem dL_law_500 : decode cL_law 500 = .ok (.iadd, 1) := by decide +kernel
theorem dL_law_501 : decode cL_law 501 = .ok (.iaload, 1) := by decide +kernel
theorem dL_law_502 : decode cL_law 502 = .ok (.ifCond .eq 7, 3) := by decide +kernel
theorem dL_law_505 : decode cL_law 505 = .ok (.iconst 1, 1) := by decide +kernel
theorem dL_law_506 : decode cL_law 506 = .ok (.goto 4, 3) := by decide +kernel
theorem dL_law_509 : decode cL_law 509 = .ok (.iconst 0, 1) := by decide +kernel
theorem dL_law_510 : decode cL_law 510 = .ok (.invokevirtual 40, 3) := by decide +kernel
theorem dL_law_513 : decode cL_law 513 = .ok (.if_icmp .eq 1358, 3) := by decide +kernel
theorem dL_law_516 : decode cL_law 516 = .ok (.iconst 0, 1) := by decide +kernel
theorem dL_law_517 : decode cL_law 517 = .ok (.ireturn, 1) := by decide +kernel
theorem dL_law_518 : decode cL_law 518 = .ok (.aload_n 1, 1) := by decide +kernel
theorem dL_law_519 : decode cL_law 519 = .ok (.aload_n 0, 1) := by decide +kernel
theorem dL_law_520 : decode cL_law 520 = .ok (.iload_n 3, 1) := by decide +kernel
theorem dL_law_521 : decode cL_law 521 = .ok (.iconst 1, 1) := by decide +kernel
theorem dL_law_522 : decode cL_law 522 = .ok (.iadd, 1) := by decide +kernel
theorem dL_law_523 : decode cL_law 523 = .ok (.iaload, 1) := by decide +kernel
theorem dL_law_524 : decode cL_law 524 = .ok (.aload_n 0, 1) := by decide +kernel
theorem dL_law_525 : decode cL_law 525 = .ok (.iload_n 3, 1) := by decide +kernel
theorem dL_law_526 : decode cL_law 526 = .ok (.iconst 2, 1) := by decide +kernel
theorem dL_law_527 : decode cL_law 527 = .ok (.iadd, 1) := by decide +kernel
theorem dL_law_528 : decode cL_law 528 = .ok (.iaload, 1) := by decide +kernel
theorem dL_law_529 : decode cL_law 529 = .ok (.ifCond .eq 7, 3) := by decide +kernel
theorem dL_law_532 : decode cL_law 532 = .ok (.iconst 1, 1) := by decide +kernel
theorem dL_law_533 : decode cL_law 533 = .ok (.goto 4, 3) := by decide +kernel
theorem dL_law_536 : decode cL_law 536 = .ok (.iconst 0, 1) := by decide +kernel
theorem dL_law_537 : decode cL_law 537 = .ok (.aload_n 0, 1) := by decide +kernel
theorem dL_law_538 : decode cL_law 538 = .ok (.iload_n 3, 1) := by decide +kernel
theorem dL_law_539 : decode cL_law 539 = .ok (.iconst 3, 1) := by decide +kernel
theorem dL_law_540 : decode cL_law 540 = .ok (.iadd, 1) := by decide +kernel
theorem dL_law_541 : decode cL_law 541 = .ok (.iaload, 1) := by decide +kernel
theorem dL_law_542 : decode cL_law 542 = .ok (.invokevirtual 41, 3) := by decide +kernel
theorem dL_law_545 : decode cL_law 545 = .ok (.aload_n 2, 1) := by decide +kernel
theorem dL_law_546 : decode cL_law 546 = .ok (.aload_n 0, 1) := by decide +kernel
theorem dL_law_547 : decode cL_law 547 = .ok (.iload_n 3, 1) := by decide +kernel
theorem dL_law_548 : decode cL_law 548 = .ok (.iconst 1, 1) := by decide +kernel
theorem dL_law_549 : decode cL_law 549 = .ok (.iadd, 1) := by decide +kernel
theorem dL_law_550 : decode cL_law 550 = .ok (.iaload, 1) := by decide +kernel
theorem dL_law_551 : decode cL_law 551 = .ok (.aload_n 0, 1) := by decide +kernel
theorem dL_law_552 : decode cL_law 552 = .ok (.iload_n 3, 1) := by decide +kernel
theorem dL_law_553 : decode cL_law 553 = .ok (.iconst 2, 1) := by decide +kernel
theorem dL_law_554 : decode cL_law 554 = .ok (.iadd, 1) := by decide +kernel
theorem dL_law_555 : decode cL_law 555 = .ok (.iaload, 1) := by decide +kernel
theorem dL_law_556 : decode cL_law 556 = .ok (.ifCond .eq 7, 3) := by decide +kernel
theorem dL_law_559 : decode cL_law 559 = .ok (.iconst 1, 1) := by decide +kernel
theorem dL_law_560 : decode cL_law 560 = .ok (.goto 4, 3) := by decide +kernel
theorem dL_law_563 : decode cL_law 563 = .ok (.iconst 0, 1) := by decide +kernel
theorem dL_law_564 : decode cL_law 564 = .ok (.aload_n 0, 1) := by decide +kernel
theorem dL_law_565 : decode cL_law 565 = .ok (.iload_n 3, 1) := by decide +kernel
theorem dL_law_566 : decode cL_law 566 = .ok (.iconst 3, 1) := by decide +kernel
theorem dL_law_567 : decode cL_law 567 = .ok (.iadd, 1) := by decide +kernel
theorem dL_law_568 : decode cL_law 568 = .ok (.iaload, 1) := by decide +kernel
theorem dL_law_569 : decode cL_law 569 = .ok (.invokevirtual 45, 3) := by decide +kernel
theorem dL_law_572 : decode cL_law 572 = .ok (.if_icmp .eq 1299, 3) := by decide +kernel
theorem dL_law_575 : decode cL_law 575 = .ok (.iconst 0, 1) := by decide +kernel
theorem dL_law_576 : decode cL_law 576 = .ok (.ireturn, 1) := by decide +kernel
theorem dL_law_577 : decode cL_law 577 = .ok (.aload_n 1, 1) := by decide +kernel
theorem dL_law_578 : decode cL_law 578 = .ok (.aload_n 0, 1) := by decide +kernel
theorem dL_law_579 : decode cL_law 579 = .ok (.iload_n 3, 1) := by decide +kernel
theorem dL_law_580 : decode cL_law 580 = .ok (.iconst 1, 1) := by decide +kernel
theorem dL_law_581 : decode cL_law 581 = .ok (.iadd, 1) := by decide +kernel
theorem dL_law_582 : decode cL_law 582 = .ok (.iaload, 1) := by decide +kernel
theorem dL_law_583 : decode cL_law 583 = .ok (.aload_n 0, 1) := by decide +kernel
theorem dL_law_584 : decode cL_law 584 = .ok (.iload_n 3, 1) := by decide +kernel
theorem dL_law_585 : decode cL_law 585 = .ok (.iconst 2, 1) := by decide +kernel
theorem dL_law_586 : decode cL_law 586 = .ok (.iadd, 1) := by decide +kernel
theorem dL_law_587 : decode cL_law 587 = .ok (.iaload, 1) := by decide +kernel
theorem dL_law_588 : decode cL_law 588 = .ok (.aload_n 0, 1) := by decide +kernel
theorem dL_law_589 : decode cL_law 589 = .ok (.iload_n 3, 1) := by decide +kernel
theorem dL_law_590 : decode cL_law 590 = .ok (.iconst 3, 1) := by decide +kernel
theorem dL_law_591 : decode cL_law 591 = .ok (.iadd, 1) := by decide +kernel
theorem dL_law_592 : decode cL_law 592 = .ok (.iaload, 1) := by decide +kernel
theorem dL_law_593 : decode cL_law 593 = .ok (.invokevirtual 46, 3) := by decide +kernel
theorem dL_law_596 : decode cL_law 596 = .ok (.aload_n 2, 1) := by decide +kernel
theorem dL_law_597 : decode cL_law 597 = .ok (.aload_n 0, 1) := by decide +kernel
theorem dL_law_598 : decode cL_law 598 = .ok (.iload_n 3, 1) := by decide +kernel
theorem dL_law_599 : decode cL_law 599 = .ok (.iconst 1, 1) := by decide +kernel
theorem dL_law_600 : decode cL_law 600 = .ok (.iadd, 1) := by decide +kernel
theorem dL_law_601 : decode cL_law 601 = .ok (.iaload, 1) := by decide +kernel
theorem dL_law_602 : decode cL_law 602 = .ok (.aload_n 0, 1) := by decide +kernel
theorem dL_law_603 : decode cL_law 603 = .ok (.iload_n 3, 1) := by decide +kernel
theorem dL_law_604 : decode cL_law 604 = .ok (.iconst 2, 1) := by decide +kernel
theorem dL_law_605 : decode cL_law 605 = .ok (.iadd, 1) := by decide +kernel
theorem dL_law_606 : decode cL_law 606 = .ok (.iaload, 1) := by decide +kernel
theorem dL_law_607 : decode cL_law 607 = .ok (.aload_n 0, 1) := by decide +kernel
theorem dL_law_608 : decode cL_law 608 = .ok (.iload_n 3, 1) := by decide +kernel
theorem dL_law_609 : decode cL_law 609 = .ok (.iconst 3, 1) := by decide +kernel
theorem dL_law_610 : decode cL_law 610 = .ok (.iadd, 1) := by decide +kernel
theorem dL_law_611 : decode cL_law 611 = .ok (.iaload, 1) := by decide +kernel
theorem dL_law_612 : decode cL_law 612 = .ok (.invokevirtual 49, 3) := by decide +kernel
theorem dL_law_615 : decode cL_law 615 = .ok (.if_icmp .eq 1256, 3) := by decide +kernel
theorem dL_law_618 : decode cL_law 618 = .ok (.iconst 0, 1) := by decide +kernel
theorem dL_law_619 : decode cL_law 619 = .ok (.ireturn, 1) := by decide +kernel
theorem dL_law_620 : decode cL_law 620 = .ok (.aload_n 1, 1) := by decide +kernel
theorem dL_law_621 : decode cL_law 621 = .ok (.aload_n 0, 1) := by decide +kernel
theorem dL_law_622 : decode cL_law 622 = .ok (.iload_n 3, 1) := by decide +kernel
theorem dL_law_623 : decode cL_law 623 = .ok (.iconst 1, 1) := by decide +kernel
theorem dL_law_624 : decode cL_law 624 = .ok (.iadd, 1) := by decide +kernel
theorem dL_law_625 : decode cL_law 625 = .ok (.iaload, 1) := by decide +kernel
theorem dL_law_626 : decode cL_law 626 = .ok (.ifCond .eq 7, 3) := by decide +kernel
theorem dL_law_629 : decode cL_law 629 = .ok (.iconst 1, 1) := by decide +kernel
theorem dL_law_630 : decode cL_law 630 = .ok (.goto 4, 3) := by decide +kernel
theorem dL_law_633 : decode cL_law 633 = .ok (.iconst 0, 1) := by decide +kernel
theorem dL_law_634 : decode cL_law 634 = .ok (.invokevirtual 50, 3) := by decide +kernel
theorem dL_law_637 : decode cL_law 637 = .ok (.aload_n 2, 1) := by decide +kernel
theorem dL_law_638 : decode cL_law 638 = .ok (.aload_n 0, 1) := by decide +kernel
theorem dL_law_639 : decode cL_law 639 = .ok (.iload_n 3, 1) := by decide +kernel
theorem dL_law_640 : decode cL_law 640 = .ok (.iconst 1, 1) := by decide +kernel
theorem dL_law_641 : decode cL_law 641 = .ok (.iadd, 1) := by decide +kernel
theorem dL_law_642 : decode cL_law 642 = .ok (.iaload, 1) := by decide +kernel
theorem dL_law_643 : decode cL_law 643 = .ok (.ifCond .eq 7, 3) := by decide +kernel
theorem dL_law_646 : decode cL_law 646 = .ok (.iconst 1, 1) := by decide +kernel
theorem dL_law_647 : decode cL_law 647 = .ok (.goto 4, 3) := by decide +kernel
theorem dL_law_650 : decode cL_law 650 = .ok (.iconst 0, 1) := by decide +kernel
theorem dL_law_651 : decode cL_law 651 = .ok (.invokevirtual 54, 3) := by decide +kernel
theorem dL_law_654 : decode cL_law 654 = .ok (.if_icmp .eq 1217, 3) := by decide +kernel
theorem dL_law_657 : decode cL_law 657 = .ok (.iconst 0, 1) := by decide +kernel
theorem dL_law_658 : decode cL_law 658 = .ok (.ireturn, 1) := by decide +kernel
theorem dL_law_659 : decode cL_law 659 = .ok (.aload_n 1, 1) := by decide +kernel
theorem dL_law_660 : decode cL_law 660 = .ok (.aload_n 0, 1) := by decide +kernel
theorem dL_law_661 : decode cL_law 661 = .ok (.iload_n 3, 1) := by decide +kernel
theorem dL_law_662 : decode cL_law 662 = .ok (.iconst 1, 1) := by decide +kernel
theorem dL_law_663 : decode cL_law 663 = .ok (.iadd, 1) := by decide +kernel
theorem dL_law_664 : decode cL_law 664 = .ok (.iaload, 1) := by decide +kernel
theorem dL_law_665 : decode cL_law 665 = .ok (.aload_n 0, 1) := by decide +kernel
theorem dL_law_666 : decode cL_law 666 = .ok (.iload_n 3, 1) := by decide +kernel
theorem dL_law_667 : decode cL_law 667 = .ok (.iconst 2, 1) := by decide +kernel
theorem dL_law_668 : decode cL_law 668 = .ok (.iadd, 1) := by decide +kernel
theorem dL_law_669 : decode cL_law 669 = .ok (.iaload, 1) := by decide +kernel
theorem dL_law_670 : decode cL_law 670 = .ok (.invokevirtual 55, 3) := by decide +kernel
theorem dL_law_673 : decode cL_law 673 = .ok (.aload_n 2, 1) := by decide +kernel
theorem dL_law_674 : decode cL_law 674 = .ok (.aload_n 0, 1) := by decide +kernel
theorem dL_law_675 : decode cL_law 675 = .ok (.iload_n 3, 1) := by decide +kernel
theorem dL_law_676 : decode cL_law 676 = .ok (.iconst 1, 1) := by decide +kernel
theorem dL_law_677 : decode cL_law 677 = .ok (.iadd, 1) := by decide +kernel
theorem dL_law_678 : decode cL_law 678 = .ok (.iaload, 1) := by decide +kernel
theorem dL_law_679 : decode cL_law 679 = .ok (.aload_n 0, 1) := by decide +kernel
theorem dL_law_680 : decode cL_law 680 = .ok (.iload_n 3, 1) := by decide +kernel
theorem dL_law_681 : decode cL_law 681 = .ok (.iconst 2, 1) := by decide +kernel
theorem dL_law_682 : decode cL_law 682 = .ok (.iadd, 1) := by decide +kernel
theorem dL_law_683 : decode cL_law 683 = .ok (.iaload, 1) := by decide +kernel
theorem dL_law_684 : decode cL_law 684 = .ok (.invokevirtual 58, 3) := by decide +kernel
theorem dL_law_687 : decode cL_law 687 = .ok (.if_icmp .eq 1184, 3) := by decide +kernel
theorem dL_law_690 : decode cL_law 690 = .ok (.iconst 0, 1) := by decide +kernel
theorem dL_law_691 : decode cL_law 691 = .ok (.ireturn, 1) := by decide +kernel
theorem dL_law_692 : decode cL_law 692 = .ok (.aload_n 1, 1) := by decide +kernel
theorem dL_law_693 : decode cL_law 693 = .ok (.aload_n 0, 1) := by decide +kernel
theorem dL_law_694 : decode cL_law 694 = .ok (.iload_n 3, 1) := by decide +kernel
theorem dL_law_695 : decode cL_law 695 = .ok (.iconst 1, 1) := by decide +kernel
theorem dL_law_696 : decode cL_law 696 = .ok (.iadd, 1) := by decide +kernel
theorem dL_law_697 : decode cL_law 697 = .ok (.iaload, 1) := by decide +kernel
theorem dL_law_698 : decode cL_law 698 = .ok (.invokevirtual 59, 3) := by decide +kernel
theorem dL_law_701 : decode cL_law 701 = .ok (.aload_n 2, 1) := by decide +kernel
theorem dL_law_702 : decode cL_law 702 = .ok (.aload_n 0, 1) := by decide +kernel
theorem dL_law_703 : decode cL_law 703 = .ok (.iload_n 3, 1) := by decide +kernel
theorem dL_law_704 : decode cL_law 704 = .ok (.iconst 1, 1) := by decide +kernel
theorem dL_law_705 : decode cL_law 705 = .ok (.iadd, 1) := by decide +kernel
theorem dL_law_706 : decode cL_law 706 = .ok (.iaload, 1) := by decide +kernel
theorem dL_law_707 : decode cL_law 707 = .ok (.invokevirtual 63, 3) := by decide +kernel
theorem dL_law_710 : decode cL_law 710 = .ok (.if_icmp .eq 1161, 3) := by decide +kernel
theorem dL_law_713 : decode cL_law 713 = .ok (.iconst 0, 1) := by decide +kernel
theorem dL_law_714 : decode cL_law 714 = .ok (.ireturn, 1) := by decide +kernel
theorem dL_law_715 : decode cL_law 715 = .ok (.aload_n 1, 1) := by decide +kernel
theorem dL_law_716 : decode cL_law 716 = .ok (.aload_n 0, 1) := by decide +kernel
theorem dL_law_717 : decode cL_law 717 = .ok (.iload_n 3, 1) := by decide +kernel
theorem dL_law_718 : decode cL_law 718 = .ok (.iconst 1, 1) := by decide +kernel
theorem dL_law_719 : decode cL_law 719 = .ok (.iadd, 1) := by decide +kernel
theorem dL_law_720 : decode cL_law 720 = .ok (.iaload, 1) := by decide +kernel
theorem dL_law_721 : decode cL_law 721 = .ok (.aload_n 0, 1) := by decide +kernel
theorem dL_law_722 : decode cL_law 722 = .ok (.iload_n 3, 1) := by decide +kernel
theorem dL_law_723 : decode cL_law 723 = .ok (.iconst 2, 1) := by decide +kernel
theorem dL_law_724 : decode cL_law 724 = .ok (.iadd, 1) := by decide +kernel
theorem dL_law_725 : decode cL_law 725 = .ok (.iaload, 1) := by decide +kernel
theorem dL_law_726 : decode cL_law 726 = .ok (.aload_n 0, 1) := by decide +kernel
theorem dL_law_727 : decode cL_law 727 = .ok (.iload_n 3, 1) := by decide +kernel
theorem dL_law_728 : decode cL_law 728 = .ok (.iconst 3, 1) := by decide +kernel
theorem dL_law_729 : decode cL_law 729 = .ok (.iadd, 1) := by decide +kernel
theorem dL_law_730 : decode cL_law 730 = .ok (.iaload, 1) := by decide +kernel
theorem dL_law_731 : decode cL_law 731 = .ok (.invokevirtual 64, 3) := by decide +kernel
theorem dL_law_734 : decode cL_law 734 = .ok (.aload_n 2, 1) := by decide +kernel
theorem dL_law_735 : decode cL_law 735 = .ok (.aload_n 0, 1) := by decide +kernel
theorem dL_law_736 : decode cL_law 736 = .ok (.iload_n 3, 1) := by decide +kernel
theorem dL_law_737 : decode cL_law 737 = .ok (.iconst 1, 1) := by decide +kernel
theorem dL_law_738 : decode cL_law 738 = .ok (.iadd, 1) := by decide +kernel
theorem dL_law_739 : decode cL_law 739 = .ok (.iaload, 1) := by decide +kernel
theorem dL_law_740 : decode cL_law 740 = .ok (.aload_n 0, 1) := by decide +kernel
theorem dL_law_741 : decode cL_law 741 = .ok (.iload_n 3, 1) := by decide +kernel
theorem dL_law_742 : decode cL_law 742 = .ok (.iconst 2, 1) := by decide +kernel
theorem dL_law_743 : decode cL_law 743 = .ok (.iadd, 1) := by decide +kernel
theorem dL_law_744 : decode cL_law 744 = .ok (.iaload, 1) := by decide +kernel
theorem dL_law_745 : decode cL_law 745 = .ok (.aload_n 0, 1) := by decide +kernel
theorem dL_law_746 : decode cL_law 746 = .ok (.iload_n 3, 1) := by decide +kernel
theorem dL_law_747 : decode cL_law 747 = .ok (.iconst 3, 1) := by decide +kernel
theorem dL_law_748 : decode cL_law 748 = .ok (.iadd, 1) := by decide +kernel
theorem dL_law_749 : decode cL_law 749 = .ok (.iaload, 1) := by decide +kernel
theorem dL_law_750 : decode cL_law 750 = .ok (.invokevirtual 67, 3) := by decide +kernel
theorem dL_law_753 : decode cL_law 753 = .ok (.if_icmp .eq 1118, 3) := by decide +kernel
theorem dL_law_756 : decode cL_law 756 = .ok (.iconst 0, 1) := by decide +kernel
theorem dL_law_757 : decode cL_law 757 = .ok (.ireturn, 1) := by decide +kernel
theorem dL_law_758 : decode cL_law 758 = .ok (.aload_n 1, 1) := by decide +kernel
theorem dL_law_759 : decode cL_law 759 = .ok (.aload_n 0, 1) := by decide +kernel
theorem dL_law_760 : decode cL_law 760 = .ok (.iload_n 3, 1) := by decide +kernel
theorem dL_law_761 : decode cL_law 761 = .ok (.iconst 1, 1) := by decide +kernel
theorem dL_law_762 : decode cL_law 762 = .ok (.iadd, 1) := by decide +kernel
theorem dL_law_763 : decode cL_law 763 = .ok (.iaload, 1) := by decide +kernel
theorem dL_law_764 : decode cL_law 764 = .ok (.invokevirtual 68, 3) := by decide +kernel
theorem dL_law_767 : decode cL_law 767 = .ok (.aload_n 2, 1) := by decide +kernel
theorem dL_law_768 : decode cL_law 768 = .ok (.aload_n 0, 1) := by decide +kernel
theorem dL_law_769 : decode cL_law 769 = .ok (.iload_n 3, 1) := by decide +kernel
theorem dL_law_770 : decode cL_law 770 = .ok (.iconst 1, 1) := by decide +kernel
theorem dL_law_771 : decode cL_law 771 = .ok (.iadd, 1) := by decide +kernel
theorem dL_law_772 : decode cL_law 772 = .ok (.iaload, 1) := by decide +kernel
theorem dL_law_773 : decode cL_law 773 = .ok (.invokevirtual 71, 3) := by decide +kernel
theorem dL_law_776 : decode cL_law 776 = .ok (.if_icmp .eq 1095, 3) := by decide +kernel
theorem dL_law_779 : decode cL_law 779 = .ok (.iconst 0, 1) := by decide +kernel
theorem dL_law_780 : decode cL_law 780 = .ok (.ireturn, 1) := by decide +kernel
theorem dL_law_781 : decode cL_law 781 = .ok (.aload_n 1, 1) := by decide +kernel
theorem dL_law_782 : decode cL_law 782 = .ok (.aload_n 0, 1) := by decide +kernel
theorem dL_law_783 : decode cL_law 783 = .ok (.iload_n 3, 1) := by decide +kernel
theorem dL_law_784 : decode cL_law 784 = .ok (.iconst 1, 1) := by decide +kernel
theorem dL_law_785 : decode cL_law 785 = .ok (.iadd, 1) := by decide +kernel
theorem dL_law_786 : decode cL_law 786 = .ok (.iaload, 1) := by decide +kernel
theorem dL_law_787 : decode cL_law 787 = .ok (.invokevirtual 72, 3) := by decide +kernel
theorem dL_law_790 : decode cL_law 790 = .ok (.aload_n 2, 1) := by decide +kernel
theorem dL_law_791 : decode cL_law 791 = .ok (.aload_n 0, 1) := by decide +kernel
theorem dL_law_792 : decode cL_law 792 = .ok (.iload_n 3, 1) := by decide +kernel
theorem dL_law_793 : decode cL_law 793 = .ok (.iconst 1, 1) := by decide +kernel
theorem dL_law_794 : decode cL_law 794 = .ok (.iadd, 1) := by decide +kernel
theorem dL_law_795 : decode cL_law 795 = .ok (.iaload, 1) := by decide +kernel
theorem dL_law_796 : decode cL_law 796 = .ok (.invokevirtual 75, 3) := by decide +kernel
theorem dL_law_799 : decode cL_law 799 = .ok (.if_icmp .eq 1072, 3) := by decide +kernel
theorem dL_law_802 : decode cL_law 802 = .ok (.iconst 0, 1) := by decide +kernel
theorem dL_law_803 : decode cL_law 803 = .ok (.ireturn, 1) := by decide +kernel
theorem dL_law_804 : decode cL_law 804 = .ok (.aload_n 1, 1) := by decide +kernel
theorem dL_law_805 : decode cL_law 805 = .ok (.aload_n 0, 1) := by decide +kernel
theorem dL_law_806 : decode cL_law 806 = .ok (.iload_n 3, 1) := by decide +kernel
theorem dL_law_807 : decode cL_law 807 = .ok (.iconst 1, 1) := by decide +kernel
theorem dL_law_808 : decode cL_law 808 = .ok (.iadd, 1) := by decide +kernel
theorem dL_law_809 : decode cL_law 809 = .ok (.iaload, 1) := by decide +kernel
theorem dL_law_810 : decode cL_law 810 = .ok (.aload_n 0, 1) := by decide +kernel
theorem dL_law_811 : decode cL_law 811 = .ok (.iload_n 3, 1) := by decide +kernel
theorem dL_law_812 : decode cL_law 812 = .ok (.iconst 2, 1) := by decide +kernel
theorem dL_law_813 : decode cL_law 813 = .ok (.iadd, 1) := by decide +kernel
theorem dL_law_814 : decode cL_law 814 = .ok (.iaload, 1) := by decide +kernel
theorem dL_law_815 : decode cL_law 815 = .ok (.aload_n 0, 1) := by decide +kernel
theorem dL_law_816 : decode cL_law 816 = .ok (.iload_n 3, 1) := by decide +kernel
theorem dL_law_817 : decode cL_law 817 = .ok (.iconst 3, 1) := by decide +kernel
theorem dL_law_818 : decode cL_law 818 = .ok (.iadd, 1) := by decide +kernel
theorem dL_law_819 : decode cL_law 819 = .ok (.iaload, 1) := by decide +kernel
theorem dL_law_820 : decode cL_law 820 = .ok (.invokevirtual 76, 3) := by decide +kernel
theorem dL_law_823 : decode cL_law 823 = .ok (.aload_n 2, 1) := by decide +kernel
theorem dL_law_824 : decode cL_law 824 = .ok (.aload_n 0, 1) := by decide +kernel
theorem dL_law_825 : decode cL_law 825 = .ok (.iload_n 3, 1) := by decide +kernel
theorem dL_law_826 : decode cL_law 826 = .ok (.iconst 1, 1) := by decide +kernel
theorem dL_law_827 : decode cL_law 827 = .ok (.iadd, 1) := by decide +kernel
theorem dL_law_828 : decode cL_law 828 = .ok (.iaload, 1) := by decide +kernel
theorem dL_law_829 : decode cL_law 829 = .ok (.aload_n 0, 1) := by decide +kernel
theorem dL_law_830 : decode cL_law 830 = .ok (.iload_n 3, 1) := by decide +kernel
theorem dL_law_831 : decode cL_law 831 = .ok (.iconst 2, 1) := by decide +kernel
theorem dL_law_832 : decode cL_law 832 = .ok (.iadd, 1) := by decide +kernel
theorem dL_law_833 : decode cL_law 833 = .ok (.iaload, 1) := by decide +kernel
theorem dL_law_834 : decode cL_law 834 = .ok (.aload_n 0, 1) := by decide +kernel
theorem dL_law_835 : decode cL_law 835 = .ok (.iload_n 3, 1) := by decide +kernel
theorem dL_law_836 : decode cL_law 836 = .ok (.iconst 3, 1) := by decide +kernel
theorem dL_law_837 : decode cL_law 837 = .ok (.iadd, 1) := by decide +kernel
theorem dL_law_838 : decode cL_law 838 = .ok (.iaload, 1) := by decide +kernel
theorem dL_law_839 : decode cL_law 839 = .ok (.invokevirtual 79, 3) := by decide +kernel
theorem dL_law_842 : decode cL_law 842 = .ok (.if_icmp .eq 1029, 3) := by decide +kernel
theorem dL_law_845 : decode cL_law 845 = .ok (.iconst 0, 1) := by decide +kernel
theorem dL_law_846 : decode cL_law 846 = .ok (.ireturn, 1) := by decide +kernel
theorem dL_law_847 : decode cL_law 847 = .ok (.aload_n 1, 1) := by decide +kernel
theorem dL_law_848 : decode cL_law 848 = .ok (.invokevirtual 80, 3) := by decide +kernel
theorem dL_law_851 : decode cL_law 851 = .ok (.aload_n 2, 1) := by decide +kernel
theorem dL_law_852 : decode cL_law 852 = .ok (.invokevirtual 84, 3) := by decide +kernel
theorem dL_law_855 : decode cL_law 855 = .ok (.if_icmp .eq 1016, 3) := by decide +kernel
theorem dL_law_858 : decode cL_law 858 = .ok (.iconst 0, 1) := by decide +kernel
theorem dL_law_859 : decode cL_law 859 = .ok (.ireturn, 1) := by decide +kernel
theorem dL_law_860 : decode cL_law 860 = .ok (.aload_n 1, 1) := by decide +kernel
theorem dL_law_861 : decode cL_law 861 = .ok (.invokevirtual 85, 3) := by decide +kernel
theorem dL_law_864 : decode cL_law 864 = .ok (.aload_n 2, 1) := by decide +kernel
theorem dL_law_865 : decode cL_law 865 = .ok (.invokevirtual 88, 3) := by decide +kernel
theorem dL_law_868 : decode cL_law 868 = .ok (.if_icmp .eq 1003, 3) := by decide +kernel
theorem dL_law_871 : decode cL_law 871 = .ok (.iconst 0, 1) := by decide +kernel
theorem dL_law_872 : decode cL_law 872 = .ok (.ireturn, 1) := by decide +kernel
theorem dL_law_873 : decode cL_law 873 = .ok (.aload_n 1, 1) := by decide +kernel
theorem dL_law_874 : decode cL_law 874 = .ok (.aload_n 0, 1) := by decide +kernel
theorem dL_law_875 : decode cL_law 875 = .ok (.iload_n 3, 1) := by decide +kernel
theorem dL_law_876 : decode cL_law 876 = .ok (.iconst 1, 1) := by decide +kernel
theorem dL_law_877 : decode cL_law 877 = .ok (.iadd, 1) := by decide +kernel
theorem dL_law_878 : decode cL_law 878 = .ok (.iaload, 1) := by decide +kernel
theorem dL_law_879 : decode cL_law 879 = .ok (.invokevirtual 89, 3) := by decide +kernel
theorem dL_law_882 : decode cL_law 882 = .ok (.aload_n 2, 1) := by decide +kernel
theorem dL_law_883 : decode cL_law 883 = .ok (.aload_n 0, 1) := by decide +kernel
theorem dL_law_884 : decode cL_law 884 = .ok (.iload_n 3, 1) := by decide +kernel
theorem dL_law_885 : decode cL_law 885 = .ok (.iconst 1, 1) := by decide +kernel
theorem dL_law_886 : decode cL_law 886 = .ok (.iadd, 1) := by decide +kernel
theorem dL_law_887 : decode cL_law 887 = .ok (.iaload, 1) := by decide +kernel
theorem dL_law_888 : decode cL_law 888 = .ok (.invokevirtual 92, 3) := by decide +kernel
theorem dL_law_891 : decode cL_law 891 = .ok (.if_icmp .eq 980, 3) := by decide +kernel
theorem dL_law_894 : decode cL_law 894 = .ok (.iconst 0, 1) := by decide +kernel
theorem dL_law_895 : decode cL_law 895 = .ok (.ireturn, 1) := by decide +kernel
theorem dL_law_896 : decode cL_law 896 = .ok (.aload_n 1, 1) := by decide +kernel
theorem dL_law_897 : decode cL_law 897 = .ok (.aload_n 0, 1) := by decide +kernel
theorem dL_law_898 : decode cL_law 898 = .ok (.iload_n 3, 1) := by decide +kernel
theorem dL_law_899 : decode cL_law 899 = .ok (.iconst 1, 1) := by decide +kernel
theorem dL_law_900 : decode cL_law 900 = .ok (.iadd, 1) := by decide +kernel
theorem dL_law_901 : decode cL_law 901 = .ok (.iaload, 1) := by decide +kernel
theorem dL_law_902 : decode cL_law 902 = .ok (.invokevirtual 93, 3) := by decide +kernel
theorem dL_law_905 : decode cL_law 905 = .ok (.aload_n 2, 1) := by decide +kernel
theorem dL_law_906 : decode cL_law 906 = .ok (.aload_n 0, 1) := by decide +kernel
theorem dL_law_907 : decode cL_law 907 = .ok (.iload_n 3, 1) := by decide +kernel
theorem dL_law_908 : decode cL_law 908 = .ok (.iconst 1, 1) := by decide +kernel
theorem dL_law_909 : decode cL_law 909 = .ok (.iadd, 1) := by decide +kernel
theorem dL_law_910 : decode cL_law 910 = .ok (.iaload, 1) := by decide +kernel
theorem dL_law_911 : decode cL_law 911 = .ok (.invokevirtual 96, 3) := by decide +kernel
theorem dL_law_914 : decode cL_law 914 = .ok (.if_icmp .eq 957, 3) := by decide +kernel
theorem dL_law_917 : decode cL_law 917 = .ok (.iconst 0, 1) := by decide +kernel
theorem dL_law_918 : decode cL_law 918 = .ok (.ireturn, 1) := by decide +kernel
theorem dL_law_919 : decode cL_law 919 = .ok (.aload_n 1, 1) := by decide +kernel
theorem dL_law_920 : decode cL_law 920 = .ok (.aload_n 0, 1) := by decide +kernel
theorem dL_law_921 : decode cL_law 921 = .ok (.iload_n 3, 1) := by decide +kernel
theorem dL_law_922 : decode cL_law 922 = .ok (.iconst 1, 1) := by decide +kernel
theorem dL_law_923 : decode cL_law 923 = .ok (.iadd, 1) := by decide +kernel
theorem dL_law_924 : decode cL_law 924 = .ok (.iaload, 1) := by decide +kernel
theorem dL_law_925 : decode cL_law 925 = .ok (.aload_n 0, 1) := by decide +kernel
theorem dL_law_926 : decode cL_law 926 = .ok (.iload_n 3, 1) := by decide +kernel
theorem dL_law_927 : decode cL_law 927 = .ok (.iconst 2, 1) := by decide +kernel
theorem dL_law_928 : decode cL_law 928 = .ok (.iadd, 1) := by decide +kernel
theorem dL_law_929 : decode cL_law 929 = .ok (.iaload, 1) := by decide +kernel
theorem dL_law_930 : decode cL_law 930 = .ok (.invokevirtual 97, 3) := by decide +kernel
theorem dL_law_933 : decode cL_law 933 = .ok (.aload_n 2, 1) := by decide +kernel
theorem dL_law_934 : decode cL_law 934 = .ok (.aload_n 0, 1) := by decide +kernel
theorem dL_law_935 : decode cL_law 935 = .ok (.iload_n 3, 1) := by decide +kernel
theorem dL_law_936 : decode cL_law 936 = .ok (.iconst 1, 1) := by decide +kernel
theorem dL_law_937 : decode cL_law 937 = .ok (.iadd, 1) := by decide +kernel
theorem dL_law_938 : decode cL_law 938 = .ok (.iaload, 1) := by decide +kernel
theorem dL_law_939 : decode cL_law 939 = .ok (.aload_n 0, 1) := by decide +kernel
theorem dL_law_940 : decode cL_law 940 = .ok (.iload_n 3, 1) := by decide +kernel
theorem dL_law_941 : decode cL_law 941 = .ok (.iconst 2, 1) := by decide +kernel
theorem dL_law_942 : decode cL_law 942 = .ok (.iadd, 1) := by decide +kernel
theorem dL_law_943 : decode cL_law 943 = .ok (.iaload, 1) := by decide +kernel
theorem dL_law_944 : decode cL_law 944 = .ok (.invokevirtual 100, 3) := by decide +kernel
theorem dL_law_947 : decode cL_law 947 = .ok (.if_icmp .eq 924, 3) := by decide +kernel
theorem dL_law_950 : decode cL_law 950 = .ok (.iconst 0, 1) := by decide +kernel
theorem dL_law_951 : decode cL_law 951 = .ok (.ireturn, 1) := by decide +kernel
theorem dL_law_952 : decode cL_law 952 = .ok (.aload_n 1, 1) := by decide +kernel
theorem dL_law_953 : decode cL_law 953 = .ok (.aload_n 0, 1) := by decide +kernel
theorem dL_law_954 : decode cL_law 954 = .ok (.iload_n 3, 1) := by decide +kernel
theorem dL_law_955 : decode cL_law 955 = .ok (.iconst 1, 1) := by decide +kernel
theorem dL_law_956 : decode cL_law 956 = .ok (.iadd, 1) := by decide +kernel
theorem dL_law_957 : decode cL_law 957 = .ok (.iaload, 1) := by decide +kernel
theorem dL_law_958 : decode cL_law 958 = .ok (.aload_n 0, 1) := by decide +kernel
theorem dL_law_959 : decode cL_law 959 = .ok (.iload_n 3, 1) := by decide +kernel
theorem dL_law_960 : decode cL_law 960 = .ok (.iconst 2, 1) := by decide +kernel
theorem dL_law_961 : decode cL_law 961 = .ok (.iadd, 1) := by decide +kernel
theorem dL_law_962 : decode cL_law 962 = .ok (.iaload, 1) := by decide +kernel
theorem dL_law_963 : decode cL_law 963 = .ok (.invokevirtual 101, 3) := by decide +kernel
theorem dL_law_966 : decode cL_law 966 = .ok (.aload_n 2, 1) := by decide +kernel
theorem dL_law_967 : decode cL_law 967 = .ok (.aload_n 0, 1) := by decide +kernel
theorem dL_law_968 : decode cL_law 968 = .ok (.iload_n 3, 1) := by decide +kernel
theorem dL_law_969 : decode cL_law 969 = .ok (.iconst 1, 1) := by decide +kernel
theorem dL_law_970 : decode cL_law 970 = .ok (.iadd, 1) := by decide +kernel
theorem dL_law_971 : decode cL_law 971 = .ok (.iaload, 1) := by decide +kernel
theorem dL_law_972 : decode cL_law 972 = .ok (.aload_n 0, 1) := by decide +kernel
theorem dL_law_973 : decode cL_law 973 = .ok (.iload_n 3, 1) := by decide +kernel
theorem dL_law_974 : decode cL_law 974 = .ok (.iconst 2, 1) := by decide +kernel
theorem dL_law_975 : decode cL_law 975 = .ok (.iadd, 1) := by decide +kernel
theorem dL_law_976 : decode cL_law 976 = .ok (.iaload, 1) := by decide +kernel
theorem dL_law_977 : decode cL_law 977 = .ok (.invokevirtual 104, 3) := by decide +kernel
theorem dL_law_980 : decode cL_law 980 = .ok (.if_icmp .eq 891, 3) := by decide +kernel
theorem dL_law_983 : decode cL_law 983 = .ok (.iconst 0, 1) := by decide +kernel
theorem dL_law_984 : decode cL_law 984 = .ok (.ireturn, 1) := by decide +kernel
theorem dL_law_985 : decode cL_law 985 = .ok (.aload_n 1, 1) := by decide +kernel
theorem dL_law_986 : decode cL_law 986 = .ok (.aload_n 0, 1) := by decide +kernel
theorem dL_law_987 : decode cL_law 987 = .ok (.iload_n 3, 1) := by decide +kernel
theorem dL_law_988 : decode cL_law 988 = .ok (.iconst 1, 1) := by decide +kernel
theorem dL_law_989 : decode cL_law 989 = .ok (.iadd, 1) := by decide +kernel
theorem dL_law_990 : decode cL_law 990 = .ok (.iaload, 1) := by decide +kernel
theorem dL_law_991 : decode cL_law 991 = .ok (.aload_n 0, 1) := by decide +kernel
theorem dL_law_992 : decode cL_law 992 = .ok (.iload_n 3, 1) := by decide +kernel
theorem dL_law_993 : decode cL_law 993 = .ok (.iconst 2, 1) := by decide +kernel
theorem dL_law_994 : decode cL_law 994 = .ok (.iadd, 1) := by decide +kernel
theorem dL_law_995 : decode cL_law 995 = .ok (.iaload, 1) := by decide +kernel
theorem dL_law_996 : decode cL_law 996 = .ok (.invokevirtual 105, 3) := by decide +kernel
theorem dL_law_999 : decode cL_law 999 = .ok (.aload_n 2, 1) := by decide +kernel
theorem dL_law_1000 : decode cL_law 1000 = .ok (.aload_n 0, 1) := by decide +kernel
theorem dL_law_1001 : decode cL_law 1001 = .ok (.iload_n 3, 1) := by decide +kernel
theorem dL_law_1002 : decode cL_law 1002 = .ok (.iconst 1, 1) := by decide +kernel
theorem dL_law_1003 : decode cL_law 1003 = .ok (.iadd, 1) := by decide +kernel
theorem dL_law_1004 : decode cL_law 1004 = .ok (.iaload, 1) := by decide +kernel
theorem dL_law_1005 : decode cL_law 1005 = .ok (.aload_n 0, 1) := by decide +kernel
theorem dL_law_1006 : decode cL_law 1006 = .ok (.iload_n 3, 1) := by decide +kernel
theorem dL_law_1007 : decode cL_law 1007 = .ok (.iconst 2, 1) := by decide +kernel
theorem dL_law_1008 : decode cL_law 1008 = .ok (.iadd, 1) := by decide +kernel
theorem dL_law_1009 : decode cL_law 1009 = .ok (.iaload, 1) := by decide +kernel
theorem dL_law_1010 : decode cL_law 1010 = .ok (.invokevirtual 108, 3) := by decide +kernel
theorem dL_law_1013 : decode cL_law 1013 = .ok (.if_icmp .eq 858, 3) := by decide +kernel
theorem dL_law_1016 : decode cL_law 1016 = .ok (.iconst 0, 1) := by decide +kernel
theorem dL_law_1017 : decode cL_law 1017 = .ok (.ireturn, 1) := by decide +kernel
theorem dL_law_1018 : decode cL_law 1018 = .ok (.aload_n 1, 1) := by decide +kernel
theorem dL_law_1019 : decode cL_law 1019 = .ok (.aload_n 0, 1) := by decide +kernel
theorem dL_law_1020 : decode cL_law 1020 = .ok (.iload_n 3, 1) := by decide +kernel
theorem dL_law_1021 : decode cL_law 1021 = .ok (.iconst 1, 1) := by decide +kernel
theorem dL_law_1022 : decode cL_law 1022 = .ok (.iadd, 1) := by decide +kernel
theorem dL_law_1023 : decode cL_law 1023 = .ok (.iaload, 1) := by decide +kernel
theorem dL_law_1024 : decode cL_law 1024 = .ok (.aload_n 0, 1) := by decide +kernel
theorem dL_law_1025 : decode cL_law 1025 = .ok (.iload_n 3, 1) := by decide +kernel
theorem dL_law_1026 : decode cL_law 1026 = .ok (.iconst 2, 1) := by decide +kernel
theorem dL_law_1027 : decode cL_law 1027 = .ok (.iadd, 1) := by decide +kernel
theorem dL_law_1028 : decode cL_law 1028 = .ok (.iaload, 1) := by decide +kernel
theorem dL_law_1029 : decode cL_law 1029 = .ok (.invokevirtual 109, 3) := by decide +kernel
theorem dL_law_1032 : decode cL_law 1032 = .ok (.aload_n 2, 1) := by decide +kernel
theorem dL_law_1033 : decode cL_law 1033 = .ok (.aload_n 0, 1) := by decide +kernel
theorem dL_law_1034 : decode cL_law 1034 = .ok (.iload_n 3, 1) := by decide +kernel
theorem dL_law_1035 : decode cL_law 1035 = .ok (.iconst 1, 1) := by decide +kernel
theorem dL_law_1036 : decode cL_law 1036 = .ok (.iadd, 1) := by decide +kernel
theorem dL_law_1037 : decode cL_law 1037 = .ok (.iaload, 1) := by decide +kernel
theorem dL_law_1038 : decode cL_law 1038 = .ok (.aload_n 0, 1) := by decide +kernel
theorem dL_law_1039 : decode cL_law 1039 = .ok (.iload_n 3, 1) := by decide +kernel
theorem dL_law_1040 : decode cL_law 1040 = .ok (.iconst 2, 1) := by decide +kernel
theorem dL_law_1041 : decode cL_law 1041 = .ok (.iadd, 1) := by decide +kernel
theorem dL_law_1042 : decode cL_law 1042 = .ok (.iaload, 1) := by decide +kernel
theorem dL_law_1043 : decode cL_law 1043 = .ok (.invokevirtual 112, 3) := by decide +kernel
theorem dL_law_1046 : decode cL_law 1046 = .ok (.if_icmp .eq 825, 3) := by decide +kernel
theorem dL_law_1049 : decode cL_law 1049 = .ok (.iconst 0, 1) := by decide +kernel
theorem dL_law_1050 : decode cL_law 1050 = .ok (.ireturn, 1) := by decide +kernel
theorem dL_law_1051 : decode cL_law 1051 = .ok (.aload_n 1, 1) := by decide +kernel
theorem dL_law_1052 : decode cL_law 1052 = .ok (.aload_n 0, 1) := by decide +kernel
theorem dL_law_1053 : decode cL_law 1053 = .ok (.iload_n 3, 1) := by decide +kernel
theorem dL_law_1054 : decode cL_law 1054 = .ok (.iconst 1, 1) := by decide +kernel
theorem dL_law_1055 : decode cL_law 1055 = .ok (.iadd, 1) := by decide +kernel
theorem dL_law_1056 : decode cL_law 1056 = .ok (.iaload, 1) := by decide +kernel
theorem dL_law_1057 : decode cL_law 1057 = .ok (.aload_n 0, 1) := by decide +kernel
theorem dL_law_1058 : decode cL_law 1058 = .ok (.iload_n 3, 1) := by decide +kernel
theorem dL_law_1059 : decode cL_law 1059 = .ok (.iconst 2, 1) := by decide +kernel
theorem dL_law_1060 : decode cL_law 1060 = .ok (.iadd, 1) := by decide +kernel
theorem dL_law_1061 : decode cL_law 1061 = .ok (.iaload, 1) := by decide +kernel
theorem dL_law_1062 : decode cL_law 1062 = .ok (.invokevirtual 113, 3) := by decide +kernel
theorem dL_law_1065 : decode cL_law 1065 = .ok (.aload_n 2, 1) := by decide +kernel
theorem dL_law_1066 : decode cL_law 1066 = .ok (.aload_n 0, 1) := by decide +kernel
theorem dL_law_1067 : decode cL_law 1067 = .ok (.iload_n 3, 1) := by decide +kernel
theorem dL_law_1068 : decode cL_law 1068 = .ok (.iconst 1, 1) := by decide +kernel
theorem dL_law_1069 : decode cL_law 1069 = .ok (.iadd, 1) := by decide +kernel
theorem dL_law_1070 : decode cL_law 1070 = .ok (.iaload, 1) := by decide +kernel
theorem dL_law_1071 : decode cL_law 1071 = .ok (.aload_n 0, 1) := by decide +kernel
theorem dL_law_1072 : decode cL_law 1072 = .ok (.iload_n 3, 1) := by decide +kernel
theorem dL_law_1073 : decode cL_law 1073 = .ok (.iconst 2, 1) := by decide +kernel
theorem dL_law_1074 : decode cL_law 1074 = .ok (.iadd, 1) := by decide +kernel
theorem dL_law_1075 : decode cL_law 1075 = .ok (.iaload, 1) := by decide +kernel
theorem dL_law_1076 : decode cL_law 1076 = .ok (.invokevirtual 116, 3) := by decide +kernel
theorem dL_law_1079 : decode cL_law 1079 = .ok (.if_icmp .eq 792, 3) := by decide +kernel
theorem dL_law_1082 : decode cL_law 1082 = .ok (.iconst 0, 1) := by decide +kernel
theorem dL_law_1083 : decode cL_law 1083 = .ok (.ireturn, 1) := by decide +kernel
theorem dL_law_1084 : decode cL_law 1084 = .ok (.aload_n 1, 1) := by decide +kernel
theorem dL_law_1085 : decode cL_law 1085 = .ok (.aload_n 0, 1) := by decide +kernel
theorem dL_law_1086 : decode cL_law 1086 = .ok (.iload_n 3, 1) := by decide +kernel
theorem dL_law_1087 : decode cL_law 1087 = .ok (.iconst 1, 1) := by decide +kernel
theorem dL_law_1088 : decode cL_law 1088 = .ok (.iadd, 1) := by decide +kernel
theorem dL_law_1089 : decode cL_law 1089 = .ok (.iaload, 1) := by decide +kernel
theorem dL_law_1090 : decode cL_law 1090 = .ok (.aload_n 0, 1) := by decide +kernel
theorem dL_law_1091 : decode cL_law 1091 = .ok (.iload_n 3, 1) := by decide +kernel
theorem dL_law_1092 : decode cL_law 1092 = .ok (.iconst 2, 1) := by decide +kernel
theorem dL_law_1093 : decode cL_law 1093 = .ok (.iadd, 1) := by decide +kernel
theorem dL_law_1094 : decode cL_law 1094 = .ok (.iaload, 1) := by decide +kernel
theorem dL_law_1095 : decode cL_law 1095 = .ok (.invokevirtual 117, 3) := by decide +kernel
theorem dL_law_1098 : decode cL_law 1098 = .ok (.aload_n 2, 1) := by decide +kernel
theorem dL_law_1099 : decode cL_law 1099 = .ok (.aload_n 0, 1) := by decide +kernel
theorem dL_law_1100 : decode cL_law 1100 = .ok (.iload_n 3, 1) := by decide +kernel
theorem dL_law_1101 : decode cL_law 1101 = .ok (.iconst 1, 1) := by decide +kernel
theorem dL_law_1102 : decode cL_law 1102 = .ok (.iadd, 1) := by decide +kernel
theorem dL_law_1103 : decode cL_law 1103 = .ok (.iaload, 1) := by decide +kernel
theorem dL_law_1104 : decode cL_law 1104 = .ok (.aload_n 0, 1) := by decide +kernel
theorem dL_law_1105 : decode cL_law 1105 = .ok (.iload_n 3, 1) := by decide +kernel
theorem dL_law_1106 : decode cL_law 1106 = .ok (.iconst 2, 1) := by decide +kernel
theorem dL_law_1107 : decode cL_law 1107 = .ok (.iadd, 1) := by decide +kernel
theorem dL_law_1108 : decode cL_law 1108 = .ok (.iaload, 1) := by decide +kernel
theorem dL_law_1109 : decode cL_law 1109 = .ok (.invokevirtual 120, 3) := by decide +kernel
theorem dL_law_1112 : decode cL_law 1112 = .ok (.if_icmp .eq 759, 3) := by decide +kernel
theorem dL_law_1115 : decode cL_law 1115 = .ok (.iconst 0, 1) := by decide +kernel
theorem dL_law_1116 : decode cL_law 1116 = .ok (.ireturn, 1) := by decide +kernel
theorem dL_law_1117 : decode cL_law 1117 = .ok (.aload_n 1, 1) := by decide +kernel
theorem dL_law_1118 : decode cL_law 1118 = .ok (.aload_n 0, 1) := by decide +kernel
theorem dL_law_1119 : decode cL_law 1119 = .ok (.iload_n 3, 1) := by decide +kernel
theorem dL_law_1120 : decode cL_law 1120 = .ok (.iconst 1, 1) := by decide +kernel
theorem dL_law_1121 : decode cL_law 1121 = .ok (.iadd, 1) := by decide +kernel
theorem dL_law_1122 : decode cL_law 1122 = .ok (.iaload, 1) := by decide +kernel
theorem dL_law_1123 : decode cL_law 1123 = .ok (.aload_n 0, 1) := by decide +kernel
theorem dL_law_1124 : decode cL_law 1124 = .ok (.iload_n 3, 1) := by decide +kernel
theorem dL_law_1125 : decode cL_law 1125 = .ok (.iconst 2, 1) := by decide +kernel
theorem dL_law_1126 : decode cL_law 1126 = .ok (.iadd, 1) := by decide +kernel
theorem dL_law_1127 : decode cL_law 1127 = .ok (.iaload, 1) := by decide +kernel
theorem dL_law_1128 : decode cL_law 1128 = .ok (.invokevirtual 121, 3) := by decide +kernel
theorem dL_law_1131 : decode cL_law 1131 = .ok (.aload_n 2, 1) := by decide +kernel
theorem dL_law_1132 : decode cL_law 1132 = .ok (.aload_n 0, 1) := by decide +kernel
theorem dL_law_1133 : decode cL_law 1133 = .ok (.iload_n 3, 1) := by decide +kernel
theorem dL_law_1134 : decode cL_law 1134 = .ok (.iconst 1, 1) := by decide +kernel
theorem dL_law_1135 : decode cL_law 1135 = .ok (.iadd, 1) := by decide +kernel
theorem dL_law_1136 : decode cL_law 1136 = .ok (.iaload, 1) := by decide +kernel
theorem dL_law_1137 : decode cL_law 1137 = .ok (.aload_n 0, 1) := by decide +kernel
theorem dL_law_1138 : decode cL_law 1138 = .ok (.iload_n 3, 1) := by decide +kernel
theorem dL_law_1139 : decode cL_law 1139 = .ok (.iconst 2, 1) := by decide +kernel
theorem dL_law_1140 : decode cL_law 1140 = .ok (.iadd, 1) := by decide +kernel
theorem dL_law_1141 : decode cL_law 1141 = .ok (.iaload, 1) := by decide +kernel
theorem dL_law_1142 : decode cL_law 1142 = .ok (.invokevirtual 124, 3) := by decide +kernel
theorem dL_law_1145 : decode cL_law 1145 = .ok (.if_icmp .eq 726, 3) := by decide +kernel
theorem dL_law_1148 : decode cL_law 1148 = .ok (.iconst 0, 1) := by decide +kernel
theorem dL_law_1149 : decode cL_law 1149 = .ok (.ireturn, 1) := by decide +kernel
theorem dL_law_1150 : decode cL_law 1150 = .ok (.aload_n 1, 1) := by decide +kernel
theorem dL_law_1151 : decode cL_law 1151 = .ok (.aload_n 0, 1) := by decide +kernel
theorem dL_law_1152 : decode cL_law 1152 = .ok (.iload_n 3, 1) := by decide +kernel
theorem dL_law_1153 : decode cL_law 1153 = .ok (.iconst 1, 1) := by decide +kernel
theorem dL_law_1154 : decode cL_law 1154 = .ok (.iadd, 1) := by decide +kernel
theorem dL_law_1155 : decode cL_law 1155 = .ok (.iaload, 1) := by decide +kernel
theorem dL_law_1156 : decode cL_law 1156 = .ok (.invokevirtual 125, 3) := by decide +kernel
theorem dL_law_1159 : decode cL_law 1159 = .ok (.aload_n 2, 1) := by decide +kernel
theorem dL_law_1160 : decode cL_law 1160 = .ok (.aload_n 0, 1) := by decide +kernel
theorem dL_law_1161 : decode cL_law 1161 = .ok (.iload_n 3, 1) := by decide +kernel
theorem dL_law_1162 : decode cL_law 1162 = .ok (.iconst 1, 1) := by decide +kernel
theorem dL_law_1163 : decode cL_law 1163 = .ok (.iadd, 1) := by decide +kernel
theorem dL_law_1164 : decode cL_law 1164 = .ok (.iaload, 1) := by decide +kernel
theorem dL_law_1165 : decode cL_law 1165 = .ok (.invokevirtual 128, 3) := by decide +kernel
theorem dL_law_1168 : decode cL_law 1168 = .ok (.if_icmp .eq 703, 3) := by decide +kernel
theorem dL_law_1171 : decode cL_law 1171 = .ok (.iconst 0, 1) := by decide +kernel
theorem dL_law_1172 : decode cL_law 1172 = .ok (.ireturn, 1) := by decide +kernel
theorem dL_law_1173 : decode cL_law 1173 = .ok (.aload_n 1, 1) := by decide +kernel
theorem dL_law_1174 : decode cL_law 1174 = .ok (.aload_n 0, 1) := by decide +kernel
theorem dL_law_1175 : decode cL_law 1175 = .ok (.iload_n 3, 1) := by decide +kernel
theorem dL_law_1176 : decode cL_law 1176 = .ok (.iconst 1, 1) := by decide +kernel
theorem dL_law_1177 : decode cL_law 1177 = .ok (.iadd, 1) := by decide +kernel
theorem dL_law_1178 : decode cL_law 1178 = .ok (.iaload, 1) := by decide +kernel
theorem dL_law_1179 : decode cL_law 1179 = .ok (.aload_n 0, 1) := by decide +kernel
theorem dL_law_1180 : decode cL_law 1180 = .ok (.iload_n 3, 1) := by decide +kernel
theorem dL_law_1181 : decode cL_law 1181 = .ok (.iconst 2, 1) := by decide +kernel
theorem dL_law_1182 : decode cL_law 1182 = .ok (.iadd, 1) := by decide +kernel
theorem dL_law_1183 : decode cL_law 1183 = .ok (.iaload, 1) := by decide +kernel
theorem dL_law_1184 : decode cL_law 1184 = .ok (.invokevirtual 129, 3) := by decide +kernel
theorem dL_law_1187 : decode cL_law 1187 = .ok (.aload_n 2, 1) := by decide +kernel
theorem dL_law_1188 : decode cL_law 1188 = .ok (.aload_n 0, 1) := by decide +kernel
theorem dL_law_1189 : decode cL_law 1189 = .ok (.iload_n 3, 1) := by decide +kernel
theorem dL_law_1190 : decode cL_law 1190 = .ok (.iconst 1, 1) := by decide +kernel
theorem dL_law_1191 : decode cL_law 1191 = .ok (.iadd, 1) := by decide +kernel
theorem dL_law_1192 : decode cL_law 1192 = .ok (.iaload, 1) := by decide +kernel
theorem dL_law_1193 : decode cL_law 1193 = .ok (.aload_n 0, 1) := by decide +kernel
theorem dL_law_1194 : decode cL_law 1194 = .ok (.iload_n 3, 1) := by decide +kernel
theorem dL_law_1195 : decode cL_law 1195 = .ok (.iconst 2, 1) := by decide +kernel
theorem dL_law_1196 : decode cL_law 1196 = .ok (.iadd, 1) := by decide +kernel
theorem dL_law_1197 : decode cL_law 1197 = .ok (.iaload, 1) := by decide +kernel
theorem dL_law_1198 : decode cL_law 1198 = .ok (.invokevirtual 132, 3) := by decide +kernel
theorem dL_law_1201 : decode cL_law 1201 = .ok (.if_icmp .eq 670, 3) := by decide +kernel
theorem dL_law_1204 : decode cL_law 1204 = .ok (.iconst 0, 1) := by decide +kernel
theorem dL_law_1205 : decode cL_law 1205 = .ok (.ireturn, 1) := by decide +kernel
theorem dL_law_1206 : decode cL_law 1206 = .ok (.aload_n 1, 1) := by decide +kernel
theorem dL_law_1207 : decode cL_law 1207 = .ok (.aload_n 0, 1) := by decide +kernel
theorem dL_law_1208 : decode cL_law 1208 = .ok (.iload_n 3, 1) := by decide +kernel
theorem dL_law_1209 : decode cL_law 1209 = .ok (.iconst 1, 1) := by decide +kernel
theorem dL_law_1210 : decode cL_law 1210 = .ok (.iadd, 1) := by decide +kernel
theorem dL_law_1211 : decode cL_law 1211 = .ok (.iaload, 1) := by decide +kernel
theorem dL_law_1212 : decode cL_law 1212 = .ok (.aload_n 0, 1) := by decide +kernel
theorem dL_law_1213 : decode cL_law 1213 = .ok (.iload_n 3, 1) := by decide +kernel
theorem dL_law_1214 : decode cL_law 1214 = .ok (.iconst 2, 1) := by decide +kernel
theorem dL_law_1215 : decode cL_law 1215 = .ok (.iadd, 1) := by decide +kernel
theorem dL_law_1216 : decode cL_law 1216 = .ok (.iaload, 1) := by decide +kernel
theorem dL_law_1217 : decode cL_law 1217 = .ok (.invokevirtual 133, 3) := by decide +kernel
theorem dL_law_1220 : decode cL_law 1220 = .ok (.aload_n 2, 1) := by decide +kernel
theorem dL_law_1221 : decode cL_law 1221 = .ok (.aload_n 0, 1) := by decide +kernel
theorem dL_law_1222 : decode cL_law 1222 = .ok (.iload_n 3, 1) := by decide +kernel
theorem dL_law_1223 : decode cL_law 1223 = .ok (.iconst 1, 1) := by decide +kernel
theorem dL_law_1224 : decode cL_law 1224 = .ok (.iadd, 1) := by decide +kernel
theorem dL_law_1225 : decode cL_law 1225 = .ok (.iaload, 1) := by decide +kernel
theorem dL_law_1226 : decode cL_law 1226 = .ok (.aload_n 0, 1) := by decide +kernel
theorem dL_law_1227 : decode cL_law 1227 = .ok (.iload_n 3, 1) := by decide +kernel
theorem dL_law_1228 : decode cL_law 1228 = .ok (.iconst 2, 1) := by decide +kernel
theorem dL_law_1229 : decode cL_law 1229 = .ok (.iadd, 1) := by decide +kernel
theorem dL_law_1230 : decode cL_law 1230 = .ok (.iaload, 1) := by decide +kernel
theorem dL_law_1231 : decode cL_law 1231 = .ok (.invokevirtual 136, 3) := by decide +kernel
theorem dL_law_1234 : decode cL_law 1234 = .ok (.if_icmp .eq 637, 3) := by decide +kernel
theorem dL_law_1237 : decode cL_law 1237 = .ok (.iconst 0, 1) := by decide +kernel
theorem dL_law_1238 : decode cL_law 1238 = .ok (.ireturn, 1) := by decide +kernel
theorem dL_law_1239 : decode cL_law 1239 = .ok (.aload_n 1, 1) := by decide +kernel
theorem dL_law_1240 : decode cL_law 1240 = .ok (.aload_n 0, 1) := by decide +kernel
theorem dL_law_1241 : decode cL_law 1241 = .ok (.iload_n 3, 1) := by decide +kernel
theorem dL_law_1242 : decode cL_law 1242 = .ok (.iconst 1, 1) := by decide +kernel
theorem dL_law_1243 : decode cL_law 1243 = .ok (.iadd, 1) := by decide +kernel
theorem dL_law_1244 : decode cL_law 1244 = .ok (.iaload, 1) := by decide +kernel
theorem dL_law_1245 : decode cL_law 1245 = .ok (.invokevirtual 137, 3) := by decide +kernel
theorem dL_law_1248 : decode cL_law 1248 = .ok (.aload_n 2, 1) := by decide +kernel
theorem dL_law_1249 : decode cL_law 1249 = .ok (.aload_n 0, 1) := by decide +kernel
theorem dL_law_1250 : decode cL_law 1250 = .ok (.iload_n 3, 1) := by decide +kernel
theorem dL_law_1251 : decode cL_law 1251 = .ok (.iconst 1, 1) := by decide +kernel
theorem dL_law_1252 : decode cL_law 1252 = .ok (.iadd, 1) := by decide +kernel
theorem dL_law_1253 : decode cL_law 1253 = .ok (.iaload, 1) := by decide +kernel
theorem dL_law_1254 : decode cL_law 1254 = .ok (.invokevirtual 140, 3) := by decide +kernel
theorem dL_law_1257 : decode cL_law 1257 = .ok (.if_icmp .eq 614, 3) := by decide +kernel
theorem dL_law_1260 : decode cL_law 1260 = .ok (.iconst 0, 1) := by decide +kernel
theorem dL_law_1261 : decode cL_law 1261 = .ok (.ireturn, 1) := by decide +kernel
theorem dL_law_1262 : decode cL_law 1262 = .ok (.aload_n 1, 1) := by decide +kernel
theorem dL_law_1263 : decode cL_law 1263 = .ok (.aload_n 0, 1) := by decide +kernel
theorem dL_law_1264 : decode cL_law 1264 = .ok (.iload_n 3, 1) := by decide +kernel
theorem dL_law_1265 : decode cL_law 1265 = .ok (.iconst 1, 1) := by decide +kernel
theorem dL_law_1266 : decode cL_law 1266 = .ok (.iadd, 1) := by decide +kernel
theorem dL_law_1267 : decode cL_law 1267 = .ok (.iaload, 1) := by decide +kernel
theorem dL_law_1268 : decode cL_law 1268 = .ok (.invokevirtual 141, 3) := by decide +kernel
theorem dL_law_1271 : decode cL_law 1271 = .ok (.aload_n 2, 1) := by decide +kernel
theorem dL_law_1272 : decode cL_law 1272 = .ok (.aload_n 0, 1) := by decide +kernel
theorem dL_law_1273 : decode cL_law 1273 = .ok (.iload_n 3, 1) := by decide +kernel
theorem dL_law_1274 : decode cL_law 1274 = .ok (.iconst 1, 1) := by decide +kernel
theorem dL_law_1275 : decode cL_law 1275 = .ok (.iadd, 1) := by decide +kernel
theorem dL_law_1276 : decode cL_law 1276 = .ok (.iaload, 1) := by decide +kernel
theorem dL_law_1277 : decode cL_law 1277 = .ok (.invokevirtual 144, 3) := by decide +kernel
theorem dL_law_1280 : decode cL_law 1280 = .ok (.if_icmp .eq 591, 3) := by decide +kernel
theorem dL_law_1283 : decode cL_law 1283 = .ok (.iconst 0, 1) := by decide +kernel
theorem dL_law_1284 : decode cL_law 1284 = .ok (.ireturn, 1) := by decide +kernel
theorem dL_law_1285 : decode cL_law 1285 = .ok (.aload_n 1, 1) := by decide +kernel
theorem dL_law_1286 : decode cL_law 1286 = .ok (.aload_n 0, 1) := by decide +kernel
theorem dL_law_1287 : decode cL_law 1287 = .ok (.iload_n 3, 1) := by decide +kernel
theorem dL_law_1288 : decode cL_law 1288 = .ok (.iconst 1, 1) := by decide +kernel
theorem dL_law_1289 : decode cL_law 1289 = .ok (.iadd, 1) := by decide +kernel
theorem dL_law_1290 : decode cL_law 1290 = .ok (.iaload, 1) := by decide +kernel
theorem dL_law_1291 : decode cL_law 1291 = .ok (.invokevirtual 145, 3) := by decide +kernel
theorem dL_law_1294 : decode cL_law 1294 = .ok (.aload_n 2, 1) := by decide +kernel
theorem dL_law_1295 : decode cL_law 1295 = .ok (.aload_n 0, 1) := by decide +kernel
theorem dL_law_1296 : decode cL_law 1296 = .ok (.iload_n 3, 1) := by decide +kernel
theorem dL_law_1297 : decode cL_law 1297 = .ok (.iconst 1, 1) := by decide +kernel
theorem dL_law_1298 : decode cL_law 1298 = .ok (.iadd, 1) := by decide +kernel
theorem dL_law_1299 : decode cL_law 1299 = .ok (.iaload, 1) := by decide +kernel
theorem dL_law_1300 : decode cL_law 1300 = .ok (.invokevirtual 148, 3) := by decide +kernel
theorem dL_law_1303 : decode cL_law 1303 = .ok (.if_icmp .eq 568, 3) := by decide +kernel
theorem dL_law_1306 : decode cL_law 1306 = .ok (.iconst 0, 1) := by decide +kernel
theorem dL_law_1307 : decode cL_law 1307 = .ok (.ireturn, 1) := by decide +kernel
theorem dL_law_1308 : decode cL_law 1308 = .ok (.aload_n 1, 1) := by decide +kernel
theorem dL_law_1309 : decode cL_law 1309 = .ok (.invokevirtual 149, 3) := by decide +kernel
theorem dL_law_1312 : decode cL_law 1312 = .ok (.aload_n 2, 1) := by decide +kernel
theorem dL_law_1313 : decode cL_law 1313 = .ok (.invokevirtual 152, 3) := by decide +kernel
theorem dL_law_1316 : decode cL_law 1316 = .ok (.if_icmp .eq 555, 3) := by decide +kernel
theorem dL_law_1319 : decode cL_law 1319 = .ok (.iconst 0, 1) := by decide +kernel
theorem dL_law_1320 : decode cL_law 1320 = .ok (.ireturn, 1) := by decide +kernel
theorem dL_law_1321 : decode cL_law 1321 = .ok (.aload_n 1, 1) := by decide +kernel
theorem dL_law_1322 : decode cL_law 1322 = .ok (.invokevirtual 153, 3) := by decide +kernel
theorem dL_law_1325 : decode cL_law 1325 = .ok (.aload_n 2, 1) := by decide +kernel
theorem dL_law_1326 : decode cL_law 1326 = .ok (.invokevirtual 156, 3) := by decide +kernel
theorem dL_law_1329 : decode cL_law 1329 = .ok (.if_icmp .eq 542, 3) := by decide +kernel
theorem dL_law_1332 : decode cL_law 1332 = .ok (.iconst 0, 1) := by decide +kernel
theorem dL_law_1333 : decode cL_law 1333 = .ok (.ireturn, 1) := by decide +kernel
theorem dL_law_1334 : decode cL_law 1334 = .ok (.aload_n 1, 1) := by decide +kernel
theorem dL_law_1335 : decode cL_law 1335 = .ok (.aload_n 0, 1) := by decide +kernel
theorem dL_law_1336 : decode cL_law 1336 = .ok (.iload_n 3, 1) := by decide +kernel
theorem dL_law_1337 : decode cL_law 1337 = .ok (.iconst 1, 1) := by decide +kernel
theorem dL_law_1338 : decode cL_law 1338 = .ok (.iadd, 1) := by decide +kernel
theorem dL_law_1339 : decode cL_law 1339 = .ok (.iaload, 1) := by decide +kernel
theorem dL_law_1340 : decode cL_law 1340 = .ok (.aload_n 0, 1) := by decide +kernel
theorem dL_law_1341 : decode cL_law 1341 = .ok (.iload_n 3, 1) := by decide +kernel
theorem dL_law_1342 : decode cL_law 1342 = .ok (.iconst 2, 1) := by decide +kernel
theorem dL_law_1343 : decode cL_law 1343 = .ok (.iadd, 1) := by decide +kernel
theorem dL_law_1344 : decode cL_law 1344 = .ok (.iaload, 1) := by decide +kernel
theorem dL_law_1345 : decode cL_law 1345 = .ok (.invokevirtual 157, 3) := by decide +kernel
theorem dL_law_1348 : decode cL_law 1348 = .ok (.aload_n 2, 1) := by decide +kernel
theorem dL_law_1349 : decode cL_law 1349 = .ok (.aload_n 0, 1) := by decide +kernel
theorem dL_law_1350 : decode cL_law 1350 = .ok (.iload_n 3, 1) := by decide +kernel
theorem dL_law_1351 : decode cL_law 1351 = .ok (.iconst 1, 1) := by decide +kernel
theorem dL_law_1352 : decode cL_law 1352 = .ok (.iadd, 1) := by decide +kernel
theorem dL_law_1353 : decode cL_law 1353 = .ok (.iaload, 1) := by decide +kernel
theorem dL_law_1354 : decode cL_law 1354 = .ok (.aload_n 0, 1) := by decide +kernel
theorem dL_law_1355 : decode cL_law 1355 = .ok (.iload_n 3, 1) := by decide +kernel
theorem dL_law_1356 : decode cL_law 1356 = .ok (.iconst 2, 1) := by decide +kernel
theorem dL_law_1357 : decode cL_law 1357 = .ok (.iadd, 1) := by decide +kernel
theorem dL_law_1358 : decode cL_law 1358 = .ok (.iaload, 1) := by decide +kernel
theorem dL_law_1359 : decode cL_law 1359 = .ok (.invokevirtual 160, 3) := by decide +kernel
theorem dL_law_1362 : decode cL_law 1362 = .ok (.if_icmp .eq 509, 3) := by decide +kernel
theorem dL_law_1365 : decode cL_law 1365 = .ok (.iconst 0, 1) := by decide +kernel
theorem dL_law_1366 : decode cL_law 1366 = .ok (.ireturn, 1) := by decide +kernel
theorem dL_law_1367 : decode cL_law 1367 = .ok (.aload_n 1, 1) := by decide +kernel
theorem dL_law_1368 : decode cL_law 1368 = .ok (.aload_n 0, 1) := by decide +kernel
theorem dL_law_1369 : decode cL_law 1369 = .ok (.iload_n 3, 1) := by decide +kernel
theorem dL_law_1370 : decode cL_law 1370 = .ok (.iconst 1, 1) := by decide +kernel
theorem dL_law_1371 : decode cL_law 1371 = .ok (.iadd, 1) := by decide +kernel
theorem dL_law_1372 : decode cL_law 1372 = .ok (.iaload, 1) := by decide +kernel
theorem dL_law_1373 : decode cL_law 1373 = .ok (.aload_n 0, 1) := by decide +kernel
theorem dL_law_1374 : decode cL_law 1374 = .ok (.iload_n 3, 1) := by decide +kernel
theorem dL_law_1375 : decode cL_law 1375 = .ok (.iconst 2, 1) := by decide +kernel
theorem dL_law_1376 : decode cL_law 1376 = .ok (.iadd, 1) := by decide +kernel
theorem dL_law_1377 : decode cL_law 1377 = .ok (.iaload, 1) := by decide +kernel
theorem dL_law_1378 : decode cL_law 1378 = .ok (.aload_n 0, 1) := by decide +kernel
theorem dL_law_1379 : decode cL_law 1379 = .ok (.iload_n 3, 1) := by decide +kernel
theorem dL_law_1380 : decode cL_law 1380 = .ok (.iconst 3, 1) := by decide +kernel
theorem dL_law_1381 : decode cL_law 1381 = .ok (.iadd, 1) := by decide +kernel
theorem dL_law_1382 : decode cL_law 1382 = .ok (.iaload, 1) := by decide +kernel
theorem dL_law_1383 : decode cL_law 1383 = .ok (.invokevirtual 161, 3) := by decide +kernel
theorem dL_law_1386 : decode cL_law 1386 = .ok (.aload_n 2, 1) := by decide +kernel
theorem dL_law_1387 : decode cL_law 1387 = .ok (.aload_n 0, 1) := by decide +kernel
theorem dL_law_1388 : decode cL_law 1388 = .ok (.iload_n 3, 1) := by decide +kernel
theorem dL_law_1389 : decode cL_law 1389 = .ok (.iconst 1, 1) := by decide +kernel
theorem dL_law_1390 : decode cL_law 1390 = .ok (.iadd, 1) := by decide +kernel
theorem dL_law_1391 : decode cL_law 1391 = .ok (.iaload, 1) := by decide +kernel
theorem dL_law_1392 : decode cL_law 1392 = .ok (.aload_n 0, 1) := by decide +kernel
theorem dL_law_1393 : decode cL_law 1393 = .ok (.iload_n 3, 1) := by decide +kernel
theorem dL_law_1394 : decode cL_law 1394 = .ok (.iconst 2, 1) := by decide +kernel
theorem dL_law_1395 : decode cL_law 1395 = .ok (.iadd, 1) := by decide +kernel
theorem dL_law_1396 : decode cL_law 1396 = .ok (.iaload, 1) := by decide +kernel
theorem dL_law_1397 : decode cL_law 1397 = .ok (.aload_n 0, 1) := by decide +kernel
theorem dL_law_1398 : decode cL_law 1398 = .ok (.iload_n 3, 1) := by decide +kernel
theorem dL_law_1399 : decode cL_law 1399 = .ok (.iconst 3, 1) := by decide +kernel
theorem dL_law_1400 : decode cL_law 1400 = .ok (.iadd, 1) := by decide +kernel
theorem dL_law_1401 : decode cL_law 1401 = .ok (.iaload, 1) := by decide +kernel
theorem dL_law_1402 : decode cL_law 1402 = .ok (.invokevirtual 164, 3) := by decide +kernel
theorem dL_law_1405 : decode cL_law 1405 = .ok (.if_icmp .eq 466, 3) := by decide +kernel
theorem dL_law_1408 : decode cL_law 1408 = .ok (.iconst 0, 1) := by decide +kernel
theorem dL_law_1409 : decode cL_law 1409 = .ok (.ireturn, 1) := by decide +kernel
theorem dL_law_1410 : decode cL_law 1410 = .ok (.aload_n 1, 1) := by decide +kernel
theorem dL_law_1411 : decode cL_law 1411 = .ok (.aload_n 0, 1) := by decide +kernel
theorem dL_law_1412 : decode cL_law 1412 = .ok (.iload_n 3, 1) := by decide +kernel
theorem dL_law_1413 : decode cL_law 1413 = .ok (.iconst 1, 1) := by decide +kernel
theorem dL_law_1414 : decode cL_law 1414 = .ok (.iadd, 1) := by decide +kernel
theorem dL_law_1415 : decode cL_law 1415 = .ok (.iaload, 1) := by decide +kernel
theorem dL_law_1416 : decode cL_law 1416 = .ok (.invokevirtual 165, 3) := by decide +kernel
theorem dL_law_1419 : decode cL_law 1419 = .ok (.aload_n 2, 1) := by decide +kernel
theorem dL_law_1420 : decode cL_law 1420 = .ok (.aload_n 0, 1) := by decide +kernel
theorem dL_law_1421 : decode cL_law 1421 = .ok (.iload_n 3, 1) := by decide +kernel
theorem dL_law_1422 : decode cL_law 1422 = .ok (.iconst 1, 1) := by decide +kernel
theorem dL_law_1423 : decode cL_law 1423 = .ok (.iadd, 1) := by decide +kernel
theorem dL_law_1424 : decode cL_law 1424 = .ok (.iaload, 1) := by decide +kernel
theorem dL_law_1425 : decode cL_law 1425 = .ok (.invokevirtual 168, 3) := by decide +kernel
theorem dL_law_1428 : decode cL_law 1428 = .ok (.if_icmp .eq 443, 3) := by decide +kernel
theorem dL_law_1431 : decode cL_law 1431 = .ok (.iconst 0, 1) := by decide +kernel
theorem dL_law_1432 : decode cL_law 1432 = .ok (.ireturn, 1) := by decide +kernel
theorem dL_law_1433 : decode cL_law 1433 = .ok (.aload_n 1, 1) := by decide +kernel
theorem dL_law_1434 : decode cL_law 1434 = .ok (.aload_n 0, 1) := by decide +kernel
theorem dL_law_1435 : decode cL_law 1435 = .ok (.iload_n 3, 1) := by decide +kernel
theorem dL_law_1436 : decode cL_law 1436 = .ok (.iconst 1, 1) := by decide +kernel
theorem dL_law_1437 : decode cL_law 1437 = .ok (.iadd, 1) := by decide +kernel
theorem dL_law_1438 : decode cL_law 1438 = .ok (.iaload, 1) := by decide +kernel
theorem dL_law_1439 : decode cL_law 1439 = .ok (.aload_n 0, 1) := by decide +kernel
theorem dL_law_1440 : decode cL_law 1440 = .ok (.iload_n 3, 1) := by decide +kernel
theorem dL_law_1441 : decode cL_law 1441 = .ok (.iconst 2, 1) := by decide +kernel
theorem dL_law_1442 : decode cL_law 1442 = .ok (.iadd, 1) := by decide +kernel
theorem dL_law_1443 : decode cL_law 1443 = .ok (.iaload, 1) := by decide +kernel
theorem dL_law_1444 : decode cL_law 1444 = .ok (.invokevirtual 169, 3) := by decide +kernel
theorem dL_law_1447 : decode cL_law 1447 = .ok (.aload_n 2, 1) := by decide +kernel
theorem dL_law_1448 : decode cL_law 1448 = .ok (.aload_n 0, 1) := by decide +kernel
theorem dL_law_1449 : decode cL_law 1449 = .ok (.iload_n 3, 1) := by decide +kernel
theorem dL_law_1450 : decode cL_law 1450 = .ok (.iconst 1, 1) := by decide +kernel
theorem dL_law_1451 : decode cL_law 1451 = .ok (.iadd, 1) := by decide +kernel
theorem dL_law_1452 : decode cL_law 1452 = .ok (.iaload, 1) := by decide +kernel
theorem dL_law_1453 : decode cL_law 1453 = .ok (.aload_n 0, 1) := by decide +kernel
theorem dL_law_1454 : decode cL_law 1454 = .ok (.iload_n 3, 1) := by decide +kernel
theorem dL_law_1455 : decode cL_law 1455 = .ok (.iconst 2, 1) := by decide +kernel
theorem dL_law_1456 : decode cL_law 1456 = .ok (.iadd, 1) := by decide +kernel
theorem dL_law_1457 : decode cL_law 1457 = .ok (.iaload, 1) := by decide +kernel
theorem dL_law_1458 : decode cL_law 1458 = .ok (.invokevirtual 172, 3) := by decide +kernel
theorem dL_law_1461 : decode cL_law 1461 = .ok (.if_icmp .eq 410, 3) := by decide +kernel
theorem dL_law_1464 : decode cL_law 1464 = .ok (.iconst 0, 1) := by decide +kernel
theorem dL_law_1465 : decode cL_law 1465 = .ok (.ireturn, 1) := by decide +kernel
theorem dL_law_1466 : decode cL_law 1466 = .ok (.aload_n 1, 1) := by decide +kernel
theorem dL_law_1467 : decode cL_law 1467 = .ok (.aload_n 0, 1) := by decide +kernel
theorem dL_law_1468 : decode cL_law 1468 = .ok (.iload_n 3, 1) := by decide +kernel
theorem dL_law_1469 : decode cL_law 1469 = .ok (.iconst 1, 1) := by decide +kernel
theorem dL_law_1470 : decode cL_law 1470 = .ok (.iadd, 1) := by decide +kernel
theorem dL_law_1471 : decode cL_law 1471 = .ok (.iaload, 1) := by decide +kernel
theorem dL_law_1472 : decode cL_law 1472 = .ok (.aload_n 0, 1) := by decide +kernel
theorem dL_law_1473 : decode cL_law 1473 = .ok (.iload_n 3, 1) := by decide +kernel
theorem dL_law_1474 : decode cL_law 1474 = .ok (.iconst 2, 1) := by decide +kernel
theorem dL_law_1475 : decode cL_law 1475 = .ok (.iadd, 1) := by decide +kernel
theorem dL_law_1476 : decode cL_law 1476 = .ok (.iaload, 1) := by decide +kernel
theorem dL_law_1477 : decode cL_law 1477 = .ok (.invokevirtual 173, 3) := by decide +kernel
theorem dL_law_1480 : decode cL_law 1480 = .ok (.aload_n 2, 1) := by decide +kernel
theorem dL_law_1481 : decode cL_law 1481 = .ok (.aload_n 0, 1) := by decide +kernel
theorem dL_law_1482 : decode cL_law 1482 = .ok (.iload_n 3, 1) := by decide +kernel
theorem dL_law_1483 : decode cL_law 1483 = .ok (.iconst 1, 1) := by decide +kernel
theorem dL_law_1484 : decode cL_law 1484 = .ok (.iadd, 1) := by decide +kernel
theorem dL_law_1485 : decode cL_law 1485 = .ok (.iaload, 1) := by decide +kernel
theorem dL_law_1486 : decode cL_law 1486 = .ok (.aload_n 0, 1) := by decide +kernel
theorem dL_law_1487 : decode cL_law 1487 = .ok (.iload_n 3, 1) := by decide +kernel
theorem dL_law_1488 : decode cL_law 1488 = .ok (.iconst 2, 1) := by decide +kernel
theorem dL_law_1489 : decode cL_law 1489 = .ok (.iadd, 1) := by decide +kernel
theorem dL_law_1490 : decode cL_law 1490 = .ok (.iaload, 1) := by decide +kernel
theorem dL_law_1491 : decode cL_law 1491 = .ok (.invokevirtual 176, 3) := by decide +kernel
theorem dL_law_1494 : decode cL_law 1494 = .ok (.if_icmp .eq 377, 3) := by decide +kernel
theorem dL_law_1497 : decode cL_law 1497 = .ok (.iconst 0, 1) := by decide +kernel
theorem dL_law_1498 : decode cL_law 1498 = .ok (.ireturn, 1) := by decide +kernel
theorem dL_law_1499 : decode cL_law 1499 = .ok (.aload_n 1, 1) := by decide +kernel
theorem dL_law_1500 : decode cL_law 1500 = .ok (.invokevirtual 177, 3) := by decide +kernel
theorem dL_law_1503 : decode cL_law 1503 = .ok (.aload_n 2, 1) := by decide +kernel
theorem dL_law_1504 : decode cL_law 1504 = .ok (.invokevirtual 180, 3) := by decide +kernel
theorem dL_law_1507 : decode cL_law 1507 = .ok (.if_icmp .eq 364, 3) := by decide +kernel
theorem dL_law_1510 : decode cL_law 1510 = .ok (.iconst 0, 1) := by decide +kernel
theorem dL_law_1511 : decode cL_law 1511 = .ok (.ireturn, 1) := by decide +kernel
theorem dL_law_1512 : decode cL_law 1512 = .ok (.aload_n 1, 1) := by decide +kernel
theorem dL_law_1513 : decode cL_law 1513 = .ok (.aload_n 0, 1) := by decide +kernel
theorem dL_law_1514 : decode cL_law 1514 = .ok (.iload_n 3, 1) := by decide +kernel
theorem dL_law_1515 : decode cL_law 1515 = .ok (.iconst 1, 1) := by decide +kernel
theorem dL_law_1516 : decode cL_law 1516 = .ok (.iadd, 1) := by decide +kernel
theorem dL_law_1517 : decode cL_law 1517 = .ok (.iaload, 1) := by decide +kernel
theorem dL_law_1518 : decode cL_law 1518 = .ok (.invokevirtual 181, 3) := by decide +kernel
theorem dL_law_1521 : decode cL_law 1521 = .ok (.aload_n 2, 1) := by decide +kernel
theorem dL_law_1522 : decode cL_law 1522 = .ok (.aload_n 0, 1) := by decide +kernel
theorem dL_law_1523 : decode cL_law 1523 = .ok (.iload_n 3, 1) := by decide +kernel
theorem dL_law_1524 : decode cL_law 1524 = .ok (.iconst 1, 1) := by decide +kernel
theorem dL_law_1525 : decode cL_law 1525 = .ok (.iadd, 1) := by decide +kernel
theorem dL_law_1526 : decode cL_law 1526 = .ok (.iaload, 1) := by decide +kernel
theorem dL_law_1527 : decode cL_law 1527 = .ok (.invokevirtual 184, 3) := by decide +kernel
theorem dL_law_1530 : decode cL_law 1530 = .ok (.if_icmp .eq 341, 3) := by decide +kernel
theorem dL_law_1533 : decode cL_law 1533 = .ok (.iconst 0, 1) := by decide +kernel
theorem dL_law_1534 : decode cL_law 1534 = .ok (.ireturn, 1) := by decide +kernel
theorem dL_law_1535 : decode cL_law 1535 = .ok (.aload_n 1, 1) := by decide +kernel
theorem dL_law_1536 : decode cL_law 1536 = .ok (.aload_n 0, 1) := by decide +kernel
theorem dL_law_1537 : decode cL_law 1537 = .ok (.iload_n 3, 1) := by decide +kernel
theorem dL_law_1538 : decode cL_law 1538 = .ok (.iconst 1, 1) := by decide +kernel
theorem dL_law_1539 : decode cL_law 1539 = .ok (.iadd, 1) := by decide +kernel
theorem dL_law_1540 : decode cL_law 1540 = .ok (.iaload, 1) := by decide +kernel
theorem dL_law_1541 : decode cL_law 1541 = .ok (.invokevirtual 185, 3) := by decide +kernel
theorem dL_law_1544 : decode cL_law 1544 = .ok (.aload_n 2, 1) := by decide +kernel
theorem dL_law_1545 : decode cL_law 1545 = .ok (.aload_n 0, 1) := by decide +kernel
theorem dL_law_1546 : decode cL_law 1546 = .ok (.iload_n 3, 1) := by decide +kernel
theorem dL_law_1547 : decode cL_law 1547 = .ok (.iconst 1, 1) := by decide +kernel
theorem dL_law_1548 : decode cL_law 1548 = .ok (.iadd, 1) := by decide +kernel
theorem dL_law_1549 : decode cL_law 1549 = .ok (.iaload, 1) := by decide +kernel
theorem dL_law_1550 : decode cL_law 1550 = .ok (.invokevirtual 188, 3) := by decide +kernel
theorem dL_law_1553 : decode cL_law 1553 = .ok (.if_icmp .eq 318, 3) := by decide +kernel
theorem dL_law_1556 : decode cL_law 1556 = .ok (.iconst 0, 1) := by decide +kernel
theorem dL_law_1557 : decode cL_law 1557 = .ok (.ireturn, 1) := by decide +kernel
theorem dL_law_1558 : decode cL_law 1558 = .ok (.aload_n 1, 1) := by decide +kernel
theorem dL_law_1559 : decode cL_law 1559 = .ok (.aload_n 0, 1) := by decide +kernel
theorem dL_law_1560 : decode cL_law 1560 = .ok (.iload_n 3, 1) := by decide +kernel
theorem dL_law_1561 : decode cL_law 1561 = .ok (.iconst 1, 1) := by decide +kernel
theorem dL_law_1562 : decode cL_law 1562 = .ok (.iadd, 1) := by decide +kernel
theorem dL_law_1563 : decode cL_law 1563 = .ok (.iaload, 1) := by decide +kernel
theorem dL_law_1564 : decode cL_law 1564 = .ok (.aload_n 0, 1) := by decide +kernel
theorem dL_law_1565 : decode cL_law 1565 = .ok (.iload_n 3, 1) := by decide +kernel
theorem dL_law_1566 : decode cL_law 1566 = .ok (.iconst 2, 1) := by decide +kernel
theorem dL_law_1567 : decode cL_law 1567 = .ok (.iadd, 1) := by decide +kernel
theorem dL_law_1568 : decode cL_law 1568 = .ok (.iaload, 1) := by decide +kernel
theorem dL_law_1569 : decode cL_law 1569 = .ok (.aload_n 0, 1) := by decide +kernel
theorem dL_law_1570 : decode cL_law 1570 = .ok (.iload_n 3, 1) := by decide +kernel
theorem dL_law_1571 : decode cL_law 1571 = .ok (.iconst 3, 1) := by decide +kernel
theorem dL_law_1572 : decode cL_law 1572 = .ok (.iadd, 1) := by decide +kernel
theorem dL_law_1573 : decode cL_law 1573 = .ok (.iaload, 1) := by decide +kernel
theorem dL_law_1574 : decode cL_law 1574 = .ok (.invokevirtual 189, 3) := by decide +kernel
theorem dL_law_1577 : decode cL_law 1577 = .ok (.aload_n 2, 1) := by decide +kernel
theorem dL_law_1578 : decode cL_law 1578 = .ok (.aload_n 0, 1) := by decide +kernel
theorem dL_law_1579 : decode cL_law 1579 = .ok (.iload_n 3, 1) := by decide +kernel
theorem dL_law_1580 : decode cL_law 1580 = .ok (.iconst 1, 1) := by decide +kernel
theorem dL_law_1581 : decode cL_law 1581 = .ok (.iadd, 1) := by decide +kernel
theorem dL_law_1582 : decode cL_law 1582 = .ok (.iaload, 1) := by decide +kernel
theorem dL_law_1583 : decode cL_law 1583 = .ok (.aload_n 0, 1) := by decide +kernel
theorem dL_law_1584 : decode cL_law 1584 = .ok (.iload_n 3, 1) := by decide +kernel
theorem dL_law_1585 : decode cL_law 1585 = .ok (.iconst 2, 1) := by decide +kernel
theorem dL_law_1586 : decode cL_law 1586 = .ok (.iadd, 1) := by decide +kernel
theorem dL_law_1587 : decode cL_law 1587 = .ok (.iaload, 1) := by decide +kernel
theorem dL_law_1588 : decode cL_law 1588 = .ok (.aload_n 0, 1) := by decide +kernel
theorem dL_law_1589 : decode cL_law 1589 = .ok (.iload_n 3, 1) := by decide +kernel
theorem dL_law_1590 : decode cL_law 1590 = .ok (.iconst 3, 1) := by decide +kernel
theorem dL_law_1591 : decode cL_law 1591 = .ok (.iadd, 1) := by decide +kernel
theorem dL_law_1592 : decode cL_law 1592 = .ok (.iaload, 1) := by decide +kernel
theorem dL_law_1593 : decode cL_law 1593 = .ok (.invokevirtual 192, 3) := by decide +kernel
theorem dL_law_1596 : decode cL_law 1596 = .ok (.if_icmp .eq 275, 3) := by decide +kernel
theorem dL_law_1599 : decode cL_law 1599 = .ok (.iconst 0, 1) := by decide +kernel
theorem dL_law_1600 : decode cL_law 1600 = .ok (.ireturn, 1) := by decide +kernel
theorem dL_law_1601 : decode cL_law 1601 = .ok (.aload_n 1, 1) := by decide +kernel
theorem dL_law_1602 : decode cL_law 1602 = .ok (.aload_n 0, 1) := by decide +kernel
theorem dL_law_1603 : decode cL_law 1603 = .ok (.iload_n 3, 1) := by decide +kernel
theorem dL_law_1604 : decode cL_law 1604 = .ok (.iconst 1, 1) := by decide +kernel
theorem dL_law_1605 : decode cL_law 1605 = .ok (.iadd, 1) := by decide +kernel
theorem dL_law_1606 : decode cL_law 1606 = .ok (.iaload, 1) := by decide +kernel
theorem dL_law_1607 : decode cL_law 1607 = .ok (.aload_n 0, 1) := by decide +kernel
theorem dL_law_1608 : decode cL_law 1608 = .ok (.iload_n 3, 1) := by decide +kernel
theorem dL_law_1609 : decode cL_law 1609 = .ok (.iconst 2, 1) := by decide +kernel
theorem dL_law_1610 : decode cL_law 1610 = .ok (.iadd, 1) := by decide +kernel
theorem dL_law_1611 : decode cL_law 1611 = .ok (.iaload, 1) := by decide +kernel
theorem dL_law_1612 : decode cL_law 1612 = .ok (.invokevirtual 193, 3) := by decide +kernel
theorem dL_law_1615 : decode cL_law 1615 = .ok (.aload_n 2, 1) := by decide +kernel
theorem dL_law_1616 : decode cL_law 1616 = .ok (.aload_n 0, 1) := by decide +kernel
theorem dL_law_1617 : decode cL_law 1617 = .ok (.iload_n 3, 1) := by decide +kernel
theorem dL_law_1618 : decode cL_law 1618 = .ok (.iconst 1, 1) := by decide +kernel
theorem dL_law_1619 : decode cL_law 1619 = .ok (.iadd, 1) := by decide +kernel
theorem dL_law_1620 : decode cL_law 1620 = .ok (.iaload, 1) := by decide +kernel
theorem dL_law_1621 : decode cL_law 1621 = .ok (.aload_n 0, 1) := by decide +kernel
theorem dL_law_1622 : decode cL_law 1622 = .ok (.iload_n 3, 1) := by decide +kernel
theorem dL_law_1623 : decode cL_law 1623 = .ok (.iconst 2, 1) := by decide +kernel
theorem dL_law_1624 : decode cL_law 1624 = .ok (.iadd, 1) := by decide +kernel
theorem dL_law_1625 : decode cL_law 1625 = .ok (.iaload, 1) := by decide +kernel
theorem dL_law_1626 : decode cL_law 1626 = .ok (.invokevirtual 196, 3) := by decide +kernel
theorem dL_law_1629 : decode cL_law 1629 = .ok (.if_icmp .eq 242, 3) := by decide +kernel
theorem dL_law_1632 : decode cL_law 1632 = .ok (.iconst 0, 1) := by decide +kernel
theorem dL_law_1633 : decode cL_law 1633 = .ok (.ireturn, 1) := by decide +kernel
theorem dL_law_1634 : decode cL_law 1634 = .ok (.aload_n 1, 1) := by decide +kernel
theorem dL_law_1635 : decode cL_law 1635 = .ok (.aload_n 0, 1) := by decide +kernel
theorem dL_law_1636 : decode cL_law 1636 = .ok (.iload_n 3, 1) := by decide +kernel
theorem dL_law_1637 : decode cL_law 1637 = .ok (.iconst 1, 1) := by decide +kernel
theorem dL_law_1638 : decode cL_law 1638 = .ok (.iadd, 1) := by decide +kernel
theorem dL_law_1639 : decode cL_law 1639 = .ok (.iaload, 1) := by decide +kernel
theorem dL_law_1640 : decode cL_law 1640 = .ok (.aload_n 0, 1) := by decide +kernel
theorem dL_law_1641 : decode cL_law 1641 = .ok (.iload_n 3, 1) := by decide +kernel
theorem dL_law_1642 : decode cL_law 1642 = .ok (.iconst 2, 1) := by decide +kernel
theorem dL_law_1643 : decode cL_law 1643 = .ok (.iadd, 1) := by decide +kernel
theorem dL_law_1644 : decode cL_law 1644 = .ok (.iaload, 1) := by decide +kernel
theorem dL_law_1645 : decode cL_law 1645 = .ok (.aload_n 0, 1) := by decide +kernel
theorem dL_law_1646 : decode cL_law 1646 = .ok (.iload_n 3, 1) := by decide +kernel
theorem dL_law_1647 : decode cL_law 1647 = .ok (.iconst 3, 1) := by decide +kernel
theorem dL_law_1648 : decode cL_law 1648 = .ok (.iadd, 1) := by decide +kernel
theorem dL_law_1649 : decode cL_law 1649 = .ok (.iaload, 1) := by decide +kernel
theorem dL_law_1650 : decode cL_law 1650 = .ok (.invokevirtual 197, 3) := by decide +kernel
theorem dL_law_1653 : decode cL_law 1653 = .ok (.aload_n 2, 1) := by decide +kernel
theorem dL_law_1654 : decode cL_law 1654 = .ok (.aload_n 0, 1) := by decide +kernel
theorem dL_law_1655 : decode cL_law 1655 = .ok (.iload_n 3, 1) := by decide +kernel
theorem dL_law_1656 : decode cL_law 1656 = .ok (.iconst 1, 1) := by decide +kernel
theorem dL_law_1657 : decode cL_law 1657 = .ok (.iadd, 1) := by decide +kernel
theorem dL_law_1658 : decode cL_law 1658 = .ok (.iaload, 1) := by decide +kernel
theorem dL_law_1659 : decode cL_law 1659 = .ok (.aload_n 0, 1) := by decide +kernel
theorem dL_law_1660 : decode cL_law 1660 = .ok (.iload_n 3, 1) := by decide +kernel
theorem dL_law_1661 : decode cL_law 1661 = .ok (.iconst 2, 1) := by decide +kernel
theorem dL_law_1662 : decode cL_law 1662 = .ok (.iadd, 1) := by decide +kernel
theorem dL_law_1663 : decode cL_law 1663 = .ok (.iaload, 1) := by decide +kernel
theorem dL_law_1664 : decode cL_law 1664 = .ok (.aload_n 0, 1) := by decide +kernel
theorem dL_law_1665 : decode cL_law 1665 = .ok (.iload_n 3, 1) := by decide +kernel
theorem dL_law_1666 : decode cL_law 1666 = .ok (.iconst 3, 1) := by decide +kernel
theorem dL_law_1667 : decode cL_law 1667 = .ok (.iadd, 1) := by decide +kernel
theorem dL_law_1668 : decode cL_law 1668 = .ok (.iaload, 1) := by decide +kernel
theorem dL_law_1669 : decode cL_law 1669 = .ok (.invokevirtual 200, 3) := by decide +kernel
theorem dL_law_1672 : decode cL_law 1672 = .ok (.if_icmp .eq 199, 3) := by decide +kernel
theorem dL_law_1675 : decode cL_law 1675 = .ok (.iconst 0, 1) := by decide +kernel
theorem dL_law_1676 : decode cL_law 1676 = .ok (.ireturn, 1) := by decide +kernel
theorem dL_law_1677 : decode cL_law 1677 = .ok (.aload_n 1, 1) := by decide +kernel
theorem dL_law_1678 : decode cL_law 1678 = .ok (.aload_n 0, 1) := by decide +kernel
theorem dL_law_1679 : decode cL_law 1679 = .ok (.iload_n 3, 1) := by decide +kernel
theorem dL_law_1680 : decode cL_law 1680 = .ok (.iconst 1, 1) := by decide +kernel
theorem dL_law_1681 : decode cL_law 1681 = .ok (.iadd, 1) := by decide +kernel
theorem dL_law_1682 : decode cL_law 1682 = .ok (.iaload, 1) := by decide +kernel
theorem dL_law_1683 : decode cL_law 1683 = .ok (.invokevirtual 201, 3) := by decide +kernel
theorem dL_law_1686 : decode cL_law 1686 = .ok (.aload_n 2, 1) := by decide +kernel
theorem dL_law_1687 : decode cL_law 1687 = .ok (.aload_n 0, 1) := by decide +kernel
theorem dL_law_1688 : decode cL_law 1688 = .ok (.iload_n 3, 1) := by decide +kernel
theorem dL_law_1689 : decode cL_law 1689 = .ok (.iconst 1, 1) := by decide +kernel
theorem dL_law_1690 : decode cL_law 1690 = .ok (.iadd, 1) := by decide +kernel
theorem dL_law_1691 : decode cL_law 1691 = .ok (.iaload, 1) := by decide +kernel
theorem dL_law_1692 : decode cL_law 1692 = .ok (.invokevirtual 204, 3) := by decide +kernel
theorem dL_law_1695 : decode cL_law 1695 = .ok (.if_icmp .eq 176, 3) := by decide +kernel
theorem dL_law_1698 : decode cL_law 1698 = .ok (.iconst 0, 1) := by decide +kernel
theorem dL_law_1699 : decode cL_law 1699 = .ok (.ireturn, 1) := by decide +kernel
theorem dL_law_1700 : decode cL_law 1700 = .ok (.aload_n 1, 1) := by decide +kernel
theorem dL_law_1701 : decode cL_law 1701 = .ok (.aload_n 0, 1) := by decide +kernel
theorem dL_law_1702 : decode cL_law 1702 = .ok (.iload_n 3, 1) := by decide +kernel
theorem dL_law_1703 : decode cL_law 1703 = .ok (.iconst 1, 1) := by decide +kernel
theorem dL_law_1704 : decode cL_law 1704 = .ok (.iadd, 1) := by decide +kernel
theorem dL_law_1705 : decode cL_law 1705 = .ok (.iaload, 1) := by decide +kernel
theorem dL_law_1706 : decode cL_law 1706 = .ok (.aload_n 0, 1) := by decide +kernel
theorem dL_law_1707 : decode cL_law 1707 = .ok (.iload_n 3, 1) := by decide +kernel
theorem dL_law_1708 : decode cL_law 1708 = .ok (.iconst 2, 1) := by decide +kernel
theorem dL_law_1709 : decode cL_law 1709 = .ok (.iadd, 1) := by decide +kernel
theorem dL_law_1710 : decode cL_law 1710 = .ok (.iaload, 1) := by decide +kernel
theorem dL_law_1711 : decode cL_law 1711 = .ok (.ifCond .eq 7, 3) := by decide +kernel
theorem dL_law_1714 : decode cL_law 1714 = .ok (.iconst 1, 1) := by decide +kernel
theorem dL_law_1715 : decode cL_law 1715 = .ok (.goto 4, 3) := by decide +kernel
theorem dL_law_1718 : decode cL_law 1718 = .ok (.iconst 0, 1) := by decide +kernel
theorem dL_law_1719 : decode cL_law 1719 = .ok (.invokevirtual 205, 3) := by decide +kernel
theorem dL_law_1722 : decode cL_law 1722 = .ok (.aload_n 2, 1) := by decide +kernel
theorem dL_law_1723 : decode cL_law 1723 = .ok (.aload_n 0, 1) := by decide +kernel
theorem dL_law_1724 : decode cL_law 1724 = .ok (.iload_n 3, 1) := by decide +kernel
theorem dL_law_1725 : decode cL_law 1725 = .ok (.iconst 1, 1) := by decide +kernel
theorem dL_law_1726 : decode cL_law 1726 = .ok (.iadd, 1) := by decide +kernel
theorem dL_law_1727 : decode cL_law 1727 = .ok (.iaload, 1) := by decide +kernel
theorem dL_law_1728 : decode cL_law 1728 = .ok (.aload_n 0, 1) := by decide +kernel
theorem dL_law_1729 : decode cL_law 1729 = .ok (.iload_n 3, 1) := by decide +kernel
theorem dL_law_1730 : decode cL_law 1730 = .ok (.iconst 2, 1) := by decide +kernel
theorem dL_law_1731 : decode cL_law 1731 = .ok (.iadd, 1) := by decide +kernel
theorem dL_law_1732 : decode cL_law 1732 = .ok (.iaload, 1) := by decide +kernel
theorem dL_law_1733 : decode cL_law 1733 = .ok (.ifCond .eq 7, 3) := by decide +kernel
theorem dL_law_1736 : decode cL_law 1736 = .ok (.iconst 1, 1) := by decide +kernel
theorem dL_law_1737 : decode cL_law 1737 = .ok (.goto 4, 3) := by decide +kernel
theorem dL_law_1740 : decode cL_law 1740 = .ok (.iconst 0, 1) := by decide +kernel
theorem dL_law_1741 : decode cL_law 1741 = .ok (.invokevirtual 209, 3) := by decide +kernel
theorem dL_law_1744 : decode cL_law 1744 = .ok (.if_icmp .eq 127, 3) := by decide +kernel
theorem dL_law_1747 : decode cL_law 1747 = .ok (.iconst 0, 1) := by decide +kernel
theorem dL_law_1748 : decode cL_law 1748 = .ok (.ireturn, 1) := by decide +kernel
theorem dL_law_1749 : decode cL_law 1749 = .ok (.aload_n 1, 1) := by decide +kernel
theorem dL_law_1750 : decode cL_law 1750 = .ok (.aload_n 0, 1) := by decide +kernel
theorem dL_law_1751 : decode cL_law 1751 = .ok (.iload_n 3, 1) := by decide +kernel
theorem dL_law_1752 : decode cL_law 1752 = .ok (.iconst 1, 1) := by decide +kernel
theorem dL_law_1753 : decode cL_law 1753 = .ok (.iadd, 1) := by decide +kernel
theorem dL_law_1754 : decode cL_law 1754 = .ok (.iaload, 1) := by decide +kernel
theorem dL_law_1755 : decode cL_law 1755 = .ok (.invokevirtual 210, 3) := by decide +kernel
theorem dL_law_1758 : decode cL_law 1758 = .ok (.aload_n 2, 1) := by decide +kernel
theorem dL_law_1759 : decode cL_law 1759 = .ok (.aload_n 0, 1) := by decide +kernel
theorem dL_law_1760 : decode cL_law 1760 = .ok (.iload_n 3, 1) := by decide +kernel
theorem dL_law_1761 : decode cL_law 1761 = .ok (.iconst 1, 1) := by decide +kernel
theorem dL_law_1762 : decode cL_law 1762 = .ok (.iadd, 1) := by decide +kernel
theorem dL_law_1763 : decode cL_law 1763 = .ok (.iaload, 1) := by decide +kernel
theorem dL_law_1764 : decode cL_law 1764 = .ok (.invokevirtual 213, 3) := by decide +kernel
theorem dL_law_1767 : decode cL_law 1767 = .ok (.if_icmp .eq 104, 3) := by decide +kernel
theorem dL_law_1770 : decode cL_law 1770 = .ok (.iconst 0, 1) := by decide +kernel
theorem dL_law_1771 : decode cL_law 1771 = .ok (.ireturn, 1) := by decide +kernel
theorem dL_law_1772 : decode cL_law 1772 = .ok (.aload_n 1, 1) := by decide +kernel
theorem dL_law_1773 : decode cL_law 1773 = .ok (.invokevirtual 214, 3) := by decide +kernel
theorem dL_law_1776 : decode cL_law 1776 = .ok (.aload_n 2, 1) := by decide +kernel
theorem dL_law_1777 : decode cL_law 1777 = .ok (.invokevirtual 217, 3) := by decide +kernel
theorem dL_law_1780 : decode cL_law 1780 = .ok (.if_icmp .eq 91, 3) := by decide +kernel
theorem dL_law_1783 : decode cL_law 1783 = .ok (.iconst 0, 1) := by decide +kernel
theorem dL_law_1784 : decode cL_law 1784 = .ok (.ireturn, 1) := by decide +kernel
theorem dL_law_1785 : decode cL_law 1785 = .ok (.aload_n 1, 1) := by decide +kernel
theorem dL_law_1786 : decode cL_law 1786 = .ok (.invokevirtual 218, 3) := by decide +kernel
theorem dL_law_1789 : decode cL_law 1789 = .ok (.aload_n 2, 1) := by decide +kernel
theorem dL_law_1790 : decode cL_law 1790 = .ok (.invokevirtual 221, 3) := by decide +kernel
theorem dL_law_1793 : decode cL_law 1793 = .ok (.if_icmp .eq 78, 3) := by decide +kernel
theorem dL_law_1796 : decode cL_law 1796 = .ok (.iconst 0, 1) := by decide +kernel
theorem dL_law_1797 : decode cL_law 1797 = .ok (.ireturn, 1) := by decide +kernel
theorem dL_law_1798 : decode cL_law 1798 = .ok (.aload_n 1, 1) := by decide +kernel
theorem dL_law_1799 : decode cL_law 1799 = .ok (.invokevirtual 222, 3) := by decide +kernel
theorem dL_law_1802 : decode cL_law 1802 = .ok (.aload_n 2, 1) := by decide +kernel
theorem dL_law_1803 : decode cL_law 1803 = .ok (.invokevirtual 225, 3) := by decide +kernel
theorem dL_law_1806 : decode cL_law 1806 = .ok (.if_icmp .eq 65, 3) := by decide +kernel
theorem dL_law_1809 : decode cL_law 1809 = .ok (.iconst 0, 1) := by decide +kernel
theorem dL_law_1810 : decode cL_law 1810 = .ok (.ireturn, 1) := by decide +kernel
theorem dL_law_1811 : decode cL_law 1811 = .ok (.aload_n 1, 1) := by decide +kernel
theorem dL_law_1812 : decode cL_law 1812 = .ok (.aload_n 0, 1) := by decide +kernel
theorem dL_law_1813 : decode cL_law 1813 = .ok (.iload_n 3, 1) := by decide +kernel
theorem dL_law_1814 : decode cL_law 1814 = .ok (.iconst 1, 1) := by decide +kernel
theorem dL_law_1815 : decode cL_law 1815 = .ok (.iadd, 1) := by decide +kernel
theorem dL_law_1816 : decode cL_law 1816 = .ok (.iaload, 1) := by decide +kernel
theorem dL_law_1817 : decode cL_law 1817 = .ok (.invokevirtual 226, 3) := by decide +kernel
theorem dL_law_1820 : decode cL_law 1820 = .ok (.aload_n 2, 1) := by decide +kernel
theorem dL_law_1821 : decode cL_law 1821 = .ok (.aload_n 0, 1) := by decide +kernel
theorem dL_law_1822 : decode cL_law 1822 = .ok (.iload_n 3, 1) := by decide +kernel
theorem dL_law_1823 : decode cL_law 1823 = .ok (.iconst 1, 1) := by decide +kernel
theorem dL_law_1824 : decode cL_law 1824 = .ok (.iadd, 1) := by decide +kernel
theorem dL_law_1825 : decode cL_law 1825 = .ok (.iaload, 1) := by decide +kernel
theorem dL_law_1826 : decode cL_law 1826 = .ok (.invokevirtual 229, 3) := by decide +kernel
theorem dL_law_1829 : decode cL_law 1829 = .ok (.if_icmp .eq 42, 3) := by decide +kernel
theorem dL_law_1832 : decode cL_law 1832 = .ok (.iconst 0, 1) := by decide +kernel
theorem dL_law_1833 : decode cL_law 1833 = .ok (.ireturn, 1) := by decide +kernel
theorem dL_law_1834 : decode cL_law 1834 = .ok (.aload_n 1, 1) := by decide +kernel
theorem dL_law_1835 : decode cL_law 1835 = .ok (.aload_n 0, 1) := by decide +kernel
theorem dL_law_1836 : decode cL_law 1836 = .ok (.iload_n 3, 1) := by decide +kernel
theorem dL_law_1837 : decode cL_law 1837 = .ok (.iconst 1, 1) := by decide +kernel
theorem dL_law_1838 : decode cL_law 1838 = .ok (.iadd, 1) := by decide +kernel
theorem dL_law_1839 : decode cL_law 1839 = .ok (.iaload, 1) := by decide +kernel
theorem dL_law_1840 : decode cL_law 1840 = .ok (.invokevirtual 230, 3) := by decide +kernel
theorem dL_law_1843 : decode cL_law 1843 = .ok (.aload_n 2, 1) := by decide +kernel
theorem dL_law_1844 : decode cL_law 1844 = .ok (.aload_n 0, 1) := by decide +kernel
theorem dL_law_1845 : decode cL_law 1845 = .ok (.iload_n 3, 1) := by decide +kernel
theorem dL_law_1846 : decode cL_law 1846 = .ok (.iconst 1, 1) := by decide +kernel
theorem dL_law_1847 : decode cL_law 1847 = .ok (.iadd, 1) := by decide +kernel
theorem dL_law_1848 : decode cL_law 1848 = .ok (.iaload, 1) := by decide +kernel
theorem dL_law_1849 : decode cL_law 1849 = .ok (.invokevirtual 233, 3) := by decide +kernel
theorem dL_law_1852 : decode cL_law 1852 = .ok (.if_icmp .eq 19, 3) := by decide +kernel
theorem dL_law_1855 : decode cL_law 1855 = .ok (.iconst 0, 1) := by decide +kernel
theorem dL_law_1856 : decode cL_law 1856 = .ok (.ireturn, 1) := by decide +kernel
theorem dL_law_1857 : decode cL_law 1857 = .ok (.aload_n 1, 1) := by decide +kernel
theorem dL_law_1858 : decode cL_law 1858 = .ok (.invokevirtual 234, 3) := by decide +kernel
theorem dL_law_1861 : decode cL_law 1861 = .ok (.aload_n 2, 1) := by decide +kernel
theorem dL_law_1862 : decode cL_law 1862 = .ok (.invokevirtual 238, 3) := by decide +kernel
theorem dL_law_1865 : decode cL_law 1865 = .ok (.lcmp, 1) := by decide +kernel
theorem dL_law_1866 : decode cL_law 1866 = .ok (.ifCond .eq 5, 3) := by decide +kernel
theorem dL_law_1869 : decode cL_law 1869 = .ok (.iconst 0, 1) := by decide +kernel
theorem dL_law_1870 : decode cL_law 1870 = .ok (.ireturn, 1) := by decide +kernel
theorem dL_law_1871 : decode cL_law 1871 = .ok (.iinc 3 5, 3) := by decide +kernel
theorem dL_law_1874 : decode cL_law 1874 = .ok (.goto (-1856), 3) := by decide +kernel
theorem dL_law_1877 : decode cL_law 1877 = .ok (.iconst 1, 1) := by decide +kernel
theorem dL_law_1878 : decode cL_law 1878 = .ok (.ireturn, 1) := by decide +kernel
