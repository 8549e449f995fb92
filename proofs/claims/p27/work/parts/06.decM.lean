theorem dL_fits_194 : decode cL_fits 194 = .ok (.iadd, 1) := by decide +kernel
theorem dL_fits_195 : decode cL_fits 195 = .ok (.istore 12, 2) := by decide +kernel
theorem dL_fits_197 : decode cL_fits 197 = .ok (.aload_n 0, 1) := by decide +kernel
theorem dL_fits_198 : decode cL_fits 198 = .ok (.iload 14, 2) := by decide +kernel
theorem dL_fits_200 : decode cL_fits 200 = .ok (.iconst 2, 1) := by decide +kernel
theorem dL_fits_201 : decode cL_fits 201 = .ok (.invokestatic 105, 3) := by decide +kernel
theorem dL_fits_204 : decode cL_fits 204 = .ok (.iload 13, 2) := by decide +kernel
theorem dL_fits_206 : decode cL_fits 206 = .ok (.if_icmp .le 13, 3) := by decide +kernel
theorem dL_fits_209 : decode cL_fits 209 = .ok (.aload_n 0, 1) := by decide +kernel
theorem dL_fits_210 : decode cL_fits 210 = .ok (.iload 14, 2) := by decide +kernel
theorem dL_fits_212 : decode cL_fits 212 = .ok (.iconst 2, 1) := by decide +kernel
theorem dL_fits_213 : decode cL_fits 213 = .ok (.invokestatic 105, 3) := by decide +kernel
theorem dL_fits_216 : decode cL_fits 216 = .ok (.goto 5, 3) := by decide +kernel
theorem dL_fits_219 : decode cL_fits 219 = .ok (.iload 13, 2) := by decide +kernel
theorem dL_fits_221 : decode cL_fits 221 = .ok (.istore 13, 2) := by decide +kernel
theorem dL_fits_223 : decode cL_fits 223 = .ok (.iinc 14 1, 3) := by decide +kernel
theorem dL_fits_226 : decode cL_fits 226 = .ok (.goto (-84), 3) := by decide +kernel
theorem dL_fits_229 : decode cL_fits 229 = .ok (.iconst 0, 1) := by decide +kernel
theorem dL_fits_230 : decode cL_fits 230 = .ok (.istore 14, 2) := by decide +kernel
theorem dL_fits_232 : decode cL_fits 232 = .ok (.iload 14, 2) := by decide +kernel
theorem dL_fits_234 : decode cL_fits 234 = .ok (.aload_n 0, 1) := by decide +kernel
theorem dL_fits_235 : decode cL_fits 235 = .ok (.iconst 2, 1) := by decide +kernel
theorem dL_fits_236 : decode cL_fits 236 = .ok (.invokestatic 88, 3) := by decide +kernel
theorem dL_fits_239 : decode cL_fits 239 = .ok (.if_icmp .ge 73, 3) := by decide +kernel
theorem dL_fits_242 : decode cL_fits 242 = .ok (.iload 8, 2) := by decide +kernel
theorem dL_fits_244 : decode cL_fits 244 = .ok (.ifCond .eq 68, 3) := by decide +kernel
theorem dL_fits_247 : decode cL_fits 247 = .ok (.aload_n 0, 1) := by decide +kernel
theorem dL_fits_248 : decode cL_fits 248 = .ok (.iload 14, 2) := by decide +kernel
theorem dL_fits_250 : decode cL_fits 250 = .ok (.iconst 5, 1) := by decide +kernel
theorem dL_fits_251 : decode cL_fits 251 = .ok (.invokestatic 103, 3) := by decide +kernel
theorem dL_fits_254 : decode cL_fits 254 = .ok (.aload_n 0, 1) := by decide +kernel
theorem dL_fits_255 : decode cL_fits 255 = .ok (.iload 14, 2) := by decide +kernel
theorem dL_fits_257 : decode cL_fits 257 = .ok (.iconst 4, 1) := by decide +kernel
theorem dL_fits_258 : decode cL_fits 258 = .ok (.invokestatic 103, 3) := by decide +kernel
theorem dL_fits_261 : decode cL_fits 261 = .ok (.iconst (-1), 1) := by decide +kernel
theorem dL_fits_262 : decode cL_fits 262 = .ok (.ixor, 1) := by decide +kernel
theorem dL_fits_263 : decode cL_fits 263 = .ok (.iand, 1) := by decide +kernel
theorem dL_fits_264 : decode cL_fits 264 = .ok (.ifCond .ne 39, 3) := by decide +kernel
theorem dL_fits_267 : decode cL_fits 267 = .ok (.aload_n 0, 1) := by decide +kernel
theorem dL_fits_268 : decode cL_fits 268 = .ok (.iload 14, 2) := by decide +kernel
theorem dL_fits_270 : decode cL_fits 270 = .ok (.iconst 2, 1) := by decide +kernel
theorem dL_fits_271 : decode cL_fits 271 = .ok (.invokestatic 103, 3) := by decide +kernel
theorem dL_fits_274 : decode cL_fits 274 = .ok (.aload_n 0, 1) := by decide +kernel
theorem dL_fits_275 : decode cL_fits 275 = .ok (.iload 14, 2) := by decide +kernel
theorem dL_fits_277 : decode cL_fits 277 = .ok (.iconst 3, 1) := by decide +kernel
theorem dL_fits_278 : decode cL_fits 278 = .ok (.invokestatic 103, 3) := by decide +kernel
theorem dL_fits_281 : decode cL_fits 281 = .ok (.if_icmp .gt 22, 3) := by decide +kernel
theorem dL_fits_284 : decode cL_fits 284 = .ok (.aload_n 0, 1) := by decide +kernel
theorem dL_fits_285 : decode cL_fits 285 = .ok (.iload 14, 2) := by decide +kernel
theorem dL_fits_287 : decode cL_fits 287 = .ok (.iconst 3, 1) := by decide +kernel
theorem dL_fits_288 : decode cL_fits 288 = .ok (.invokestatic 103, 3) := by decide +kernel
theorem dL_fits_291 : decode cL_fits 291 = .ok (.aload_n 0, 1) := by decide +kernel
theorem dL_fits_292 : decode cL_fits 292 = .ok (.iconst 3, 1) := by decide +kernel
theorem dL_fits_293 : decode cL_fits 293 = .ok (.invokestatic 88, 3) := by decide +kernel
theorem dL_fits_296 : decode cL_fits 296 = .ok (.if_icmp .gt 7, 3) := by decide +kernel
theorem dL_fits_299 : decode cL_fits 299 = .ok (.iconst 1, 1) := by decide +kernel
theorem dL_fits_300 : decode cL_fits 300 = .ok (.goto 4, 3) := by decide +kernel
theorem dL_fits_303 : decode cL_fits 303 = .ok (.iconst 0, 1) := by decide +kernel
theorem dL_fits_304 : decode cL_fits 304 = .ok (.istore 8, 2) := by decide +kernel
theorem dL_fits_306 : decode cL_fits 306 = .ok (.iinc 14 1, 3) := by decide +kernel
theorem dL_fits_309 : decode cL_fits 309 = .ok (.goto (-77), 3) := by decide +kernel
theorem dL_fits_312 : decode cL_fits 312 = .ok (.iload 8, 2) := by decide +kernel
theorem dL_fits_314 : decode cL_fits 314 = .ok (.ifCond .eq 37, 3) := by decide +kernel
theorem dL_fits_317 : decode cL_fits 317 = .ok (.iload 13, 2) := by decide +kernel
theorem dL_fits_319 : decode cL_fits 319 = .ok (.ifCond .ne 14, 3) := by decide +kernel
theorem dL_fits_322 : decode cL_fits 322 = .ok (.aload_n 0, 1) := by decide +kernel
theorem dL_fits_323 : decode cL_fits 323 = .ok (.invokevirtual 155, 3) := by decide +kernel
theorem dL_fits_326 : decode cL_fits 326 = .ok (.iconst (-1), 1) := by decide +kernel
theorem dL_fits_327 : decode cL_fits 327 = .ok (.if_icmp .ne 24, 3) := by decide +kernel
theorem dL_fits_330 : decode cL_fits 330 = .ok (.goto 17, 3) := by decide +kernel
theorem dL_fits_333 : decode cL_fits 333 = .ok (.aload_n 0, 1) := by decide +kernel
theorem dL_fits_334 : decode cL_fits 334 = .ok (.aload_n 0, 1) := by decide +kernel
theorem dL_fits_335 : decode cL_fits 335 = .ok (.invokevirtual 155, 3) := by decide +kernel
theorem dL_fits_338 : decode cL_fits 338 = .ok (.iconst 2, 1) := by decide +kernel
theorem dL_fits_339 : decode cL_fits 339 = .ok (.invokestatic 105, 3) := by decide +kernel
theorem dL_fits_342 : decode cL_fits 342 = .ok (.iload 13, 2) := by decide +kernel
theorem dL_fits_344 : decode cL_fits 344 = .ok (.if_icmp .ne 7, 3) := by decide +kernel
theorem dL_fits_347 : decode cL_fits 347 = .ok (.iconst 1, 1) := by decide +kernel
theorem dL_fits_348 : decode cL_fits 348 = .ok (.goto 4, 3) := by decide +kernel
theorem dL_fits_351 : decode cL_fits 351 = .ok (.iconst 0, 1) := by decide +kernel
theorem dL_fits_352 : decode cL_fits 352 = .ok (.istore 8, 2) := by decide +kernel
theorem dL_fits_354 : decode cL_fits 354 = .ok (.iload 8, 2) := by decide +kernel
theorem dL_fits_356 : decode cL_fits 356 = .ok (.ifCond .eq 103, 3) := by decide +kernel
theorem dL_fits_359 : decode cL_fits 359 = .ok (.aload_n 0, 1) := by decide +kernel
theorem dL_fits_360 : decode cL_fits 360 = .ok (.iconst 1, 1) := by decide +kernel
theorem dL_fits_361 : decode cL_fits 361 = .ok (.invokestatic 88, 3) := by decide +kernel
theorem dL_fits_364 : decode cL_fits 364 = .ok (.iload_n 2, 1) := by decide +kernel
theorem dL_fits_365 : decode cL_fits 365 = .ok (.if_icmp .ne 94, 3) := by decide +kernel
theorem dL_fits_368 : decode cL_fits 368 = .ok (.aload_n 0, 1) := by decide +kernel
theorem dL_fits_369 : decode cL_fits 369 = .ok (.bipush 8, 2) := by decide +kernel
theorem dL_fits_371 : decode cL_fits 371 = .ok (.invokestatic 88, 3) := by decide +kernel
theorem dL_fits_374 : decode cL_fits 374 = .ok (.iload_n 3, 1) := by decide +kernel
theorem dL_fits_375 : decode cL_fits 375 = .ok (.if_icmp .ne 84, 3) := by decide +kernel
theorem dL_fits_378 : decode cL_fits 378 = .ok (.aload_n 0, 1) := by decide +kernel
theorem dL_fits_379 : decode cL_fits 379 = .ok (.bipush 9, 2) := by decide +kernel
theorem dL_fits_381 : decode cL_fits 381 = .ok (.invokestatic 88, 3) := by decide +kernel
theorem dL_fits_384 : decode cL_fits 384 = .ok (.iload 4, 2) := by decide +kernel
theorem dL_fits_386 : decode cL_fits 386 = .ok (.if_icmp .ne 73, 3) := by decide +kernel
theorem dL_fits_389 : decode cL_fits 389 = .ok (.aload_n 0, 1) := by decide +kernel
theorem dL_fits_390 : decode cL_fits 390 = .ok (.bipush 10, 2) := by decide +kernel
theorem dL_fits_392 : decode cL_fits 392 = .ok (.invokestatic 88, 3) := by decide +kernel
theorem dL_fits_395 : decode cL_fits 395 = .ok (.iload 5, 2) := by decide +kernel
theorem dL_fits_397 : decode cL_fits 397 = .ok (.if_icmp .ne 62, 3) := by decide +kernel
theorem dL_fits_400 : decode cL_fits 400 = .ok (.aload_n 0, 1) := by decide +kernel
theorem dL_fits_401 : decode cL_fits 401 = .ok (.bipush 12, 2) := by decide +kernel
theorem dL_fits_403 : decode cL_fits 403 = .ok (.invokestatic 88, 3) := by decide +kernel
theorem dL_fits_406 : decode cL_fits 406 = .ok (.iload 6, 2) := by decide +kernel
theorem dL_fits_408 : decode cL_fits 408 = .ok (.if_icmp .ne 51, 3) := by decide +kernel
theorem dL_fits_411 : decode cL_fits 411 = .ok (.iload 9, 2) := by decide +kernel
theorem dL_fits_413 : decode cL_fits 413 = .ok (.iload_n 2, 1) := by decide +kernel
theorem dL_fits_414 : decode cL_fits 414 = .ok (.if_icmp .ne 45, 3) := by decide +kernel
theorem dL_fits_417 : decode cL_fits 417 = .ok (.iload 12, 2) := by decide +kernel
theorem dL_fits_419 : decode cL_fits 419 = .ok (.iload_n 2, 1) := by decide +kernel
theorem dL_fits_420 : decode cL_fits 420 = .ok (.if_icmp .ne 39, 3) := by decide +kernel
theorem dL_fits_423 : decode cL_fits 423 = .ok (.iload 10, 2) := by decide +kernel
theorem dL_fits_425 : decode cL_fits 425 = .ok (.iload 4, 2) := by decide +kernel
theorem dL_fits_427 : decode cL_fits 427 = .ok (.if_icmp .ne 32, 3) := by decide +kernel
theorem dL_fits_430 : decode cL_fits 430 = .ok (.iload 11, 2) := by decide +kernel
theorem dL_fits_432 : decode cL_fits 432 = .ok (.iload_n 3, 1) := by decide +kernel
theorem dL_fits_433 : decode cL_fits 433 = .ok (.if_icmp .ne 26, 3) := by decide +kernel
theorem dL_fits_436 : decode cL_fits 436 = .ok (.iload 7, 2) := by decide +kernel
theorem dL_fits_438 : decode cL_fits 438 = .ok (.iload 4, 2) := by decide +kernel
theorem dL_fits_440 : decode cL_fits 440 = .ok (.iload 5, 2) := by decide +kernel
theorem dL_fits_442 : decode cL_fits 442 = .ok (.iadd, 1) := by decide +kernel
theorem dL_fits_443 : decode cL_fits 443 = .ok (.iload_n 3, 1) := by decide +kernel
theorem dL_fits_444 : decode cL_fits 444 = .ok (.iadd, 1) := by decide +kernel
theorem dL_fits_445 : decode cL_fits 445 = .ok (.aload_n 0, 1) := by decide +kernel
theorem dL_fits_446 : decode cL_fits 446 = .ok (.bipush 11, 2) := by decide +kernel
theorem dL_fits_448 : decode cL_fits 448 = .ok (.invokestatic 88, 3) := by decide +kernel
theorem dL_fits_451 : decode cL_fits 451 = .ok (.iadd, 1) := by decide +kernel
theorem dL_fits_452 : decode cL_fits 452 = .ok (.if_icmp .ne 7, 3) := by decide +kernel
theorem dL_fits_455 : decode cL_fits 455 = .ok (.iconst 1, 1) := by decide +kernel
theorem dL_fits_456 : decode cL_fits 456 = .ok (.goto 4, 3) := by decide +kernel
theorem dL_fits_459 : decode cL_fits 459 = .ok (.iconst 0, 1) := by decide +kernel
theorem dL_fits_460 : decode cL_fits 460 = .ok (.istore 8, 2) := by decide +kernel
theorem dL_fits_462 : decode cL_fits 462 = .ok (.iload_n 1, 1) := by decide +kernel
theorem dL_fits_463 : decode cL_fits 463 = .ok (.bipush 16, 2) := by decide +kernel
theorem dL_fits_465 : decode cL_fits 465 = .ok (.invokestatic 158, 3) := by decide +kernel
theorem dL_fits_468 : decode cL_fits 468 = .ok (.istore 14, 2) := by decide +kernel
theorem dL_fits_470 : decode cL_fits 470 = .ok (.iconst 0, 1) := by decide +kernel
theorem dL_fits_471 : decode cL_fits 471 = .ok (.istore 15, 2) := by decide +kernel
theorem dL_fits_473 : decode cL_fits 473 = .ok (.iconst 0, 1) := by decide +kernel
theorem dL_fits_474 : decode cL_fits 474 = .ok (.istore 16, 2) := by decide +kernel
theorem dL_fits_476 : decode cL_fits 476 = .ok (.iload 16, 2) := by decide +kernel
theorem dL_fits_478 : decode cL_fits 478 = .ok (.aload_n 0, 1) := by decide +kernel
theorem dL_fits_479 : decode cL_fits 479 = .ok (.iconst 0, 1) := by decide +kernel
theorem dL_fits_480 : decode cL_fits 480 = .ok (.invokestatic 88, 3) := by decide +kernel
theorem dL_fits_483 : decode cL_fits 483 = .ok (.if_icmp .ge 141, 3) := by decide +kernel
theorem dL_fits_486 : decode cL_fits 486 = .ok (.iload 8, 2) := by decide +kernel
theorem dL_fits_488 : decode cL_fits 488 = .ok (.ifCond .eq 136, 3) := by decide +kernel
theorem dL_fits_491 : decode cL_fits 491 = .ok (.aload_n 0, 1) := by decide +kernel
theorem dL_fits_492 : decode cL_fits 492 = .ok (.iload 16, 2) := by decide +kernel
theorem dL_fits_494 : decode cL_fits 494 = .ok (.iload 14, 2) := by decide +kernel
theorem dL_fits_496 : decode cL_fits 496 = .ok (.iconst 2, 1) := by decide +kernel
theorem dL_fits_497 : decode cL_fits 497 = .ok (.invokestatic 135, 3) := by decide +kernel
theorem dL_fits_500 : decode cL_fits 500 = .ok (.istore 17, 2) := by decide +kernel
theorem dL_fits_502 : decode cL_fits 502 = .ok (.aload_n 0, 1) := by decide +kernel
theorem dL_fits_503 : decode cL_fits 503 = .ok (.iload 16, 2) := by decide +kernel
theorem dL_fits_505 : decode cL_fits 505 = .ok (.invokestatic 144, 3) := by decide +kernel
theorem dL_fits_508 : decode cL_fits 508 = .ok (.iload 14, 2) := by decide +kernel
theorem dL_fits_510 : decode cL_fits 510 = .ok (.ishr, 1) := by decide +kernel
theorem dL_fits_511 : decode cL_fits 511 = .ok (.iconst 1, 1) := by decide +kernel
theorem dL_fits_512 : decode cL_fits 512 = .ok (.iand, 1) := by decide +kernel
theorem dL_fits_513 : decode cL_fits 513 = .ok (.iconst 1, 1) := by decide +kernel
theorem dL_fits_514 : decode cL_fits 514 = .ok (.if_icmp .ne 7, 3) := by decide +kernel
theorem dL_fits_517 : decode cL_fits 517 = .ok (.iconst 1, 1) := by decide +kernel
theorem dL_fits_518 : decode cL_fits 518 = .ok (.goto 4, 3) := by decide +kernel
theorem dL_fits_521 : decode cL_fits 521 = .ok (.iconst 0, 1) := by decide +kernel
theorem dL_fits_522 : decode cL_fits 522 = .ok (.istore 18, 2) := by decide +kernel
theorem dL_fits_524 : decode cL_fits 524 = .ok (.iload 18, 2) := by decide +kernel
theorem dL_fits_526 : decode cL_fits 526 = .ok (.iload 17, 2) := by decide +kernel
theorem dL_fits_528 : decode cL_fits 528 = .ok (.ifCond .eq 9, 3) := by decide +kernel
theorem dL_fits_531 : decode cL_fits 531 = .ok (.iload 17, 2) := by decide +kernel
theorem dL_fits_533 : decode cL_fits 533 = .ok (.iconst 4, 1) := by decide +kernel
theorem dL_fits_534 : decode cL_fits 534 = .ok (.if_icmp .ne 7, 3) := by decide +kernel
theorem dL_fits_537 : decode cL_fits 537 = .ok (.iconst 1, 1) := by decide +kernel
theorem dL_fits_538 : decode cL_fits 538 = .ok (.goto 4, 3) := by decide +kernel
theorem dL_fits_541 : decode cL_fits 541 = .ok (.iconst 0, 1) := by decide +kernel
theorem dL_fits_542 : decode cL_fits 542 = .ok (.if_icmp .ne 55, 3) := by decide +kernel
theorem dL_fits_545 : decode cL_fits 545 = .ok (.iload 17, 2) := by decide +kernel
theorem dL_fits_547 : decode cL_fits 547 = .ok (.iconst 1, 1) := by decide +kernel
theorem dL_fits_548 : decode cL_fits 548 = .ok (.if_icmp .ne 7, 3) := by decide +kernel
theorem dL_fits_551 : decode cL_fits 551 = .ok (.iconst 1, 1) := by decide +kernel
theorem dL_fits_552 : decode cL_fits 552 = .ok (.goto 4, 3) := by decide +kernel
theorem dL_fits_555 : decode cL_fits 555 = .ok (.iconst 0, 1) := by decide +kernel
theorem dL_fits_556 : decode cL_fits 556 = .ok (.aload_n 0, 1) := by decide +kernel
theorem dL_fits_557 : decode cL_fits 557 = .ok (.iload 16, 2) := by decide +kernel
theorem dL_fits_559 : decode cL_fits 559 = .ok (.iconst 5, 1) := by decide +kernel
theorem dL_fits_560 : decode cL_fits 560 = .ok (.invokestatic 93, 3) := by decide +kernel
theorem dL_fits_563 : decode cL_fits 563 = .ok (.ifCond .ne 7, 3) := by decide +kernel
theorem dL_fits_566 : decode cL_fits 566 = .ok (.iconst 1, 1) := by decide +kernel
theorem dL_fits_567 : decode cL_fits 567 = .ok (.goto 4, 3) := by decide +kernel
theorem dL_fits_570 : decode cL_fits 570 = .ok (.iconst 0, 1) := by decide +kernel
theorem dL_fits_571 : decode cL_fits 571 = .ok (.if_icmp .ne 26, 3) := by decide +kernel
theorem dL_fits_574 : decode cL_fits 574 = .ok (.iload 17, 2) := by decide +kernel
theorem dL_fits_576 : decode cL_fits 576 = .ok (.iconst 4, 1) := by decide +kernel
theorem dL_fits_577 : decode cL_fits 577 = .ok (.if_icmp .ne 16, 3) := by decide +kernel
theorem dL_fits_580 : decode cL_fits 580 = .ok (.aload_n 0, 1) := by decide +kernel
theorem dL_fits_581 : decode cL_fits 581 = .ok (.iload 16, 2) := by decide +kernel
theorem dL_fits_583 : decode cL_fits 583 = .ok (.bipush 6, 2) := by decide +kernel
theorem dL_fits_585 : decode cL_fits 585 = .ok (.invokestatic 93, 3) := by decide +kernel
theorem dL_fits_588 : decode cL_fits 588 = .ok (.bipush 12, 2) := by decide +kernel
theorem dL_fits_590 : decode cL_fits 590 = .ok (.if_icmp .ne 7, 3) := by decide +kernel
theorem dL_fits_593 : decode cL_fits 593 = .ok (.iconst 1, 1) := by decide +kernel
theorem dL_fits_594 : decode cL_fits 594 = .ok (.goto 4, 3) := by decide +kernel
theorem dL_fits_597 : decode cL_fits 597 = .ok (.iconst 0, 1) := by decide +kernel
theorem dL_fits_598 : decode cL_fits 598 = .ok (.istore 8, 2) := by decide +kernel
theorem dL_fits_600 : decode cL_fits 600 = .ok (.iload 15, 2) := by decide +kernel
theorem dL_fits_602 : decode cL_fits 602 = .ok (.iload 18, 2) := by decide +kernel
theorem dL_fits_604 : decode cL_fits 604 = .ok (.ifCond .eq 10, 3) := by decide +kernel
theorem dL_fits_607 : decode cL_fits 607 = .ok (.iconst 1, 1) := by decide +kernel
theorem dL_fits_608 : decode cL_fits 608 = .ok (.iload 16, 2) := by decide +kernel
theorem dL_fits_610 : decode cL_fits 610 = .ok (.ishl, 1) := by decide +kernel
theorem dL_fits_611 : decode cL_fits 611 = .ok (.goto 4, 3) := by decide +kernel
theorem dL_fits_614 : decode cL_fits 614 = .ok (.iconst 0, 1) := by decide +kernel
theorem dL_fits_615 : decode cL_fits 615 = .ok (.ior, 1) := by decide +kernel
theorem dL_fits_616 : decode cL_fits 616 = .ok (.istore 15, 2) := by decide +kernel
theorem dL_fits_618 : decode cL_fits 618 = .ok (.iinc 16 1, 3) := by decide +kernel
theorem dL_fits_621 : decode cL_fits 621 = .ok (.goto (-145), 3) := by decide +kernel
theorem dL_fits_624 : decode cL_fits 624 = .ok (.iload 8, 2) := by decide +kernel
theorem dL_fits_626 : decode cL_fits 626 = .ok (.ifCond .eq 64, 3) := by decide +kernel
theorem dL_fits_629 : decode cL_fits 629 = .ok (.aload_n 0, 1) := by decide +kernel
theorem dL_fits_630 : decode cL_fits 630 = .ok (.iload 14, 2) := by decide +kernel
theorem dL_fits_632 : decode cL_fits 632 = .ok (.iconst 2, 1) := by decide +kernel
theorem dL_fits_633 : decode cL_fits 633 = .ok (.iconst 0, 1) := by decide +kernel
theorem dL_fits_634 : decode cL_fits 634 = .ok (.invokestatic 132, 3) := by decide +kernel
theorem dL_fits_637 : decode cL_fits 637 = .ok (.iload 15, 2) := by decide +kernel
theorem dL_fits_639 : decode cL_fits 639 = .ok (.if_icmp .ne 51, 3) := by decide +kernel
theorem dL_fits_642 : decode cL_fits 642 = .ok (.aload_n 0, 1) := by decide +kernel
theorem dL_fits_643 : decode cL_fits 643 = .ok (.iload 14, 2) := by decide +kernel
theorem dL_fits_645 : decode cL_fits 645 = .ok (.iconst 1, 1) := by decide +kernel
theorem dL_fits_646 : decode cL_fits 646 = .ok (.iconst 0, 1) := by decide +kernel
theorem dL_fits_647 : decode cL_fits 647 = .ok (.invokestatic 132, 3) := by decide +kernel
theorem dL_fits_650 : decode cL_fits 650 = .ok (.iload 15, 2) := by decide +kernel
theorem dL_fits_652 : decode cL_fits 652 = .ok (.iand, 1) := by decide +kernel
theorem dL_fits_653 : decode cL_fits 653 = .ok (.iload 15, 2) := by decide +kernel
theorem dL_fits_655 : decode cL_fits 655 = .ok (.if_icmp .ne 35, 3) := by decide +kernel
theorem dL_fits_658 : decode cL_fits 658 = .ok (.aload_n 0, 1) := by decide +kernel
theorem dL_fits_659 : decode cL_fits 659 = .ok (.iload 14, 2) := by decide +kernel
theorem dL_fits_661 : decode cL_fits 661 = .ok (.iconst 0, 1) := by decide +kernel
theorem dL_fits_662 : decode cL_fits 662 = .ok (.iconst 0, 1) := by decide +kernel
theorem dL_fits_663 : decode cL_fits 663 = .ok (.invokestatic 132, 3) := by decide +kernel
theorem dL_fits_666 : decode cL_fits 666 = .ok (.aload_n 0, 1) := by decide +kernel
theorem dL_fits_667 : decode cL_fits 667 = .ok (.iload 14, 2) := by decide +kernel
theorem dL_fits_669 : decode cL_fits 669 = .ok (.iconst 1, 1) := by decide +kernel
theorem dL_fits_670 : decode cL_fits 670 = .ok (.iconst 0, 1) := by decide +kernel
theorem dL_fits_671 : decode cL_fits 671 = .ok (.invokestatic 132, 3) := by decide +kernel
theorem dL_fits_674 : decode cL_fits 674 = .ok (.aload_n 0, 1) := by decide +kernel
theorem dL_fits_675 : decode cL_fits 675 = .ok (.iload 14, 2) := by decide +kernel
theorem dL_fits_677 : decode cL_fits 677 = .ok (.iconst 0, 1) := by decide +kernel
theorem dL_fits_678 : decode cL_fits 678 = .ok (.iconst 0, 1) := by decide +kernel
theorem dL_fits_679 : decode cL_fits 679 = .ok (.invokestatic 132, 3) := by decide +kernel
theorem dL_fits_682 : decode cL_fits 682 = .ok (.ior, 1) := by decide +kernel
theorem dL_fits_683 : decode cL_fits 683 = .ok (.if_icmp .ne 7, 3) := by decide +kernel
theorem dL_fits_686 : decode cL_fits 686 = .ok (.iconst 1, 1) := by decide +kernel
theorem dL_fits_687 : decode cL_fits 687 = .ok (.goto 4, 3) := by decide +kernel
theorem dL_fits_690 : decode cL_fits 690 = .ok (.iconst 0, 1) := by decide +kernel
theorem dL_fits_691 : decode cL_fits 691 = .ok (.ireturn, 1) := by decide +kernel
theorem dL_comesTrue_0 : decode cL_comesTrue 0 = .ok (.aload_n 0, 1) := by decide +kernel
theorem dL_comesTrue_1 : decode cL_comesTrue 1 = .ok (.invokestatic 107, 3) := by decide +kernel
theorem dL_comesTrue_4 : decode cL_comesTrue 4 = .ok (.lstore_n 2, 1) := by decide +kernel
theorem dL_comesTrue_5 : decode cL_comesTrue 5 = .ok (.aload_n 0, 1) := by decide +kernel
theorem dL_comesTrue_6 : decode cL_comesTrue 6 = .ok (.iload_n 1, 1) := by decide +kernel
theorem dL_comesTrue_7 : decode cL_comesTrue 7 = .ok (.invokestatic 138, 3) := by decide +kernel
theorem dL_comesTrue_10 : decode cL_comesTrue 10 = .ok (.istore 4, 2) := by decide +kernel
theorem dL_comesTrue_12 : decode cL_comesTrue 12 = .ok (.aload_n 0, 1) := by decide +kernel
theorem dL_comesTrue_13 : decode cL_comesTrue 13 = .ok (.iload_n 1, 1) := by decide +kernel
theorem dL_comesTrue_14 : decode cL_comesTrue 14 = .ok (.invokestatic 141, 3) := by decide +kernel
theorem dL_comesTrue_17 : decode cL_comesTrue 17 = .ok (.istore 5, 2) := by decide +kernel
theorem dL_comesTrue_19 : decode cL_comesTrue 19 = .ok (.iload 5, 2) := by decide +kernel
theorem dL_comesTrue_21 : decode cL_comesTrue 21 = .ok (.ifCond .ne 7, 3) := by decide +kernel
theorem dL_comesTrue_24 : decode cL_comesTrue 24 = .ok (.iconst 1, 1) := by decide +kernel
theorem dL_comesTrue_25 : decode cL_comesTrue 25 = .ok (.goto 4, 3) := by decide +kernel
theorem dL_comesTrue_28 : decode cL_comesTrue 28 = .ok (.iconst 0, 1) := by decide +kernel
theorem dL_comesTrue_29 : decode cL_comesTrue 29 = .ok (.aload_n 0, 1) := by decide +kernel
theorem dL_comesTrue_30 : decode cL_comesTrue 30 = .ok (.iload_n 1, 1) := by decide +kernel
theorem dL_comesTrue_31 : decode cL_comesTrue 31 = .ok (.bipush 6, 2) := by decide +kernel
theorem dL_comesTrue_33 : decode cL_comesTrue 33 = .ok (.invokestatic 93, 3) := by decide +kernel
theorem dL_comesTrue_36 : decode cL_comesTrue 36 = .ok (.ifCond .ne 7, 3) := by decide +kernel
theorem dL_comesTrue_39 : decode cL_comesTrue 39 = .ok (.iconst 1, 1) := by decide +kernel
theorem dL_comesTrue_40 : decode cL_comesTrue 40 = .ok (.goto 4, 3) := by decide +kernel
theorem dL_comesTrue_43 : decode cL_comesTrue 43 = .ok (.iconst 0, 1) := by decide +kernel
theorem dL_comesTrue_44 : decode cL_comesTrue 44 = .ok (.if_icmp .ne 7, 3) := by decide +kernel
theorem dL_comesTrue_47 : decode cL_comesTrue 47 = .ok (.iconst 1, 1) := by decide +kernel
theorem dL_comesTrue_48 : decode cL_comesTrue 48 = .ok (.goto 4, 3) := by decide +kernel
theorem dL_comesTrue_51 : decode cL_comesTrue 51 = .ok (.iconst 0, 1) := by decide +kernel
theorem dL_comesTrue_52 : decode cL_comesTrue 52 = .ok (.istore 6, 2) := by decide +kernel
theorem dL_comesTrue_54 : decode cL_comesTrue 54 = .ok (.iload 6, 2) := by decide +kernel
theorem dL_comesTrue_56 : decode cL_comesTrue 56 = .ok (.ifCond .eq 85, 3) := by decide +kernel
theorem dL_comesTrue_59 : decode cL_comesTrue 59 = .ok (.iload 4, 2) := by decide +kernel
theorem dL_comesTrue_61 : decode cL_comesTrue 61 = .ok (.ifCond .le 80, 3) := by decide +kernel
theorem dL_comesTrue_64 : decode cL_comesTrue 64 = .ok (.iload 4, 2) := by decide +kernel
theorem dL_comesTrue_66 : decode cL_comesTrue 66 = .ok (.iconst 1, 1) := by decide +kernel
theorem dL_comesTrue_67 : decode cL_comesTrue 67 = .ok (.if_icmp .eq 36, 3) := by decide +kernel
theorem dL_comesTrue_70 : decode cL_comesTrue 70 = .ok (.aload_n 0, 1) := by decide +kernel
theorem dL_comesTrue_71 : decode cL_comesTrue 71 = .ok (.iload 4, 2) := by decide +kernel
theorem dL_comesTrue_73 : decode cL_comesTrue 73 = .ok (.iconst 1, 1) := by decide +kernel
theorem dL_comesTrue_74 : decode cL_comesTrue 74 = .ok (.isub, 1) := by decide +kernel
theorem dL_comesTrue_75 : decode cL_comesTrue 75 = .ok (.invokestatic 129, 3) := by decide +kernel
theorem dL_comesTrue_78 : decode cL_comesTrue 78 = .ok (.ifCond .lt 60, 3) := by decide +kernel
theorem dL_comesTrue_81 : decode cL_comesTrue 81 = .ok (.aload_n 0, 1) := by decide +kernel
theorem dL_comesTrue_82 : decode cL_comesTrue 82 = .ok (.iload_n 1, 1) := by decide +kernel
theorem dL_comesTrue_83 : decode cL_comesTrue 83 = .ok (.iconst 4, 1) := by decide +kernel
theorem dL_comesTrue_84 : decode cL_comesTrue 84 = .ok (.invokestatic 93, 3) := by decide +kernel
theorem dL_comesTrue_87 : decode cL_comesTrue 87 = .ok (.aload_n 0, 1) := by decide +kernel
theorem dL_comesTrue_88 : decode cL_comesTrue 88 = .ok (.iload_n 1, 1) := by decide +kernel
theorem dL_comesTrue_89 : decode cL_comesTrue 89 = .ok (.iconst 2, 1) := by decide +kernel
theorem dL_comesTrue_90 : decode cL_comesTrue 90 = .ok (.invokestatic 93, 3) := by decide +kernel
theorem dL_comesTrue_93 : decode cL_comesTrue 93 = .ok (.if_icmp .eq 45, 3) := by decide +kernel
theorem dL_comesTrue_96 : decode cL_comesTrue 96 = .ok (.aload_n 0, 1) := by decide +kernel
theorem dL_comesTrue_97 : decode cL_comesTrue 97 = .ok (.invokestatic 161, 3) := by decide +kernel
theorem dL_comesTrue_100 : decode cL_comesTrue 100 = .ok (.ifCond .lt 38, 3) := by decide +kernel
theorem dL_comesTrue_103 : decode cL_comesTrue 103 = .ok (.aload_n 0, 1) := by decide +kernel
theorem dL_comesTrue_104 : decode cL_comesTrue 104 = .ok (.iload 4, 2) := by decide +kernel
theorem dL_comesTrue_106 : decode cL_comesTrue 106 = .ok (.invokestatic 129, 3) := by decide +kernel
theorem dL_comesTrue_109 : decode cL_comesTrue 109 = .ok (.ifCond .lt 29, 3) := by decide +kernel
theorem dL_comesTrue_112 : decode cL_comesTrue 112 = .ok (.aload_n 0, 1) := by decide +kernel
theorem dL_comesTrue_113 : decode cL_comesTrue 113 = .ok (.iload_n 1, 1) := by decide +kernel
theorem dL_comesTrue_114 : decode cL_comesTrue 114 = .ok (.iconst 4, 1) := by decide +kernel
theorem dL_comesTrue_115 : decode cL_comesTrue 115 = .ok (.invokestatic 93, 3) := by decide +kernel
theorem dL_comesTrue_118 : decode cL_comesTrue 118 = .ok (.aload_n 0, 1) := by decide +kernel
theorem dL_comesTrue_119 : decode cL_comesTrue 119 = .ok (.iload_n 1, 1) := by decide +kernel
theorem dL_comesTrue_120 : decode cL_comesTrue 120 = .ok (.iconst 2, 1) := by decide +kernel
theorem dL_comesTrue_121 : decode cL_comesTrue 121 = .ok (.invokestatic 93, 3) := by decide +kernel
theorem dL_comesTrue_124 : decode cL_comesTrue 124 = .ok (.if_icmp .ne 14, 3) := by decide +kernel
theorem dL_comesTrue_127 : decode cL_comesTrue 127 = .ok (.aload_n 0, 1) := by decide +kernel
theorem dL_comesTrue_128 : decode cL_comesTrue 128 = .ok (.invokestatic 161, 3) := by decide +kernel
theorem dL_comesTrue_131 : decode cL_comesTrue 131 = .ok (.ifCond .lt 7, 3) := by decide +kernel
theorem dL_comesTrue_134 : decode cL_comesTrue 134 = .ok (.iconst 1, 1) := by decide +kernel
theorem dL_comesTrue_135 : decode cL_comesTrue 135 = .ok (.goto 4, 3) := by decide +kernel
theorem dL_comesTrue_138 : decode cL_comesTrue 138 = .ok (.iconst 0, 1) := by decide +kernel
theorem dL_comesTrue_139 : decode cL_comesTrue 139 = .ok (.istore 6, 2) := by decide +kernel
theorem dL_comesTrue_141 : decode cL_comesTrue 141 = .ok (.iload 6, 2) := by decide +kernel
theorem dL_comesTrue_143 : decode cL_comesTrue 143 = .ok (.ifCond .eq 82, 3) := by decide +kernel
theorem dL_comesTrue_146 : decode cL_comesTrue 146 = .ok (.iload 5, 2) := by decide +kernel
theorem dL_comesTrue_148 : decode cL_comesTrue 148 = .ok (.ifCond .le 77, 3) := by decide +kernel
theorem dL_comesTrue_151 : decode cL_comesTrue 151 = .ok (.iload 5, 2) := by decide +kernel
theorem dL_comesTrue_153 : decode cL_comesTrue 153 = .ok (.bipush 50, 2) := by decide +kernel
theorem dL_comesTrue_155 : decode cL_comesTrue 155 = .ok (.if_icmp .gt 70, 3) := by decide +kernel
theorem dL_comesTrue_158 : decode cL_comesTrue 158 = .ok (.iload 5, 2) := by decide +kernel
theorem dL_comesTrue_160 : decode cL_comesTrue 160 = .ok (.iconst 1, 1) := by decide +kernel
theorem dL_comesTrue_161 : decode cL_comesTrue 161 = .ok (.if_icmp .eq 31, 3) := by decide +kernel
theorem dL_comesTrue_164 : decode cL_comesTrue 164 = .ok (.aload_n 0, 1) := by decide +kernel
theorem dL_comesTrue_165 : decode cL_comesTrue 165 = .ok (.iload 5, 2) := by decide +kernel
theorem dL_comesTrue_167 : decode cL_comesTrue 167 = .ok (.iconst 1, 1) := by decide +kernel
theorem dL_comesTrue_168 : decode cL_comesTrue 168 = .ok (.isub, 1) := by decide +kernel
theorem dL_comesTrue_169 : decode cL_comesTrue 169 = .ok (.invokestatic 129, 3) := by decide +kernel
theorem dL_comesTrue_172 : decode cL_comesTrue 172 = .ok (.ifCond .lt 50, 3) := by decide +kernel
theorem dL_comesTrue_175 : decode cL_comesTrue 175 = .ok (.aload_n 0, 1) := by decide +kernel
theorem dL_comesTrue_176 : decode cL_comesTrue 176 = .ok (.iload_n 1, 1) := by decide +kernel
theorem dL_comesTrue_177 : decode cL_comesTrue 177 = .ok (.bipush 6, 2) := by decide +kernel
theorem dL_comesTrue_179 : decode cL_comesTrue 179 = .ok (.invokestatic 93, 3) := by decide +kernel
theorem dL_comesTrue_182 : decode cL_comesTrue 182 = .ok (.ifCond .le 40, 3) := by decide +kernel
theorem dL_comesTrue_185 : decode cL_comesTrue 185 = .ok (.aload_n 0, 1) := by decide +kernel
theorem dL_comesTrue_186 : decode cL_comesTrue 186 = .ok (.invokestatic 161, 3) := by decide +kernel
theorem dL_comesTrue_189 : decode cL_comesTrue 189 = .ok (.ifCond .lt 33, 3) := by decide +kernel
theorem dL_comesTrue_192 : decode cL_comesTrue 192 = .ok (.aload_n 0, 1) := by decide +kernel
theorem dL_comesTrue_193 : decode cL_comesTrue 193 = .ok (.iload 5, 2) := by decide +kernel
theorem dL_comesTrue_195 : decode cL_comesTrue 195 = .ok (.invokestatic 129, 3) := by decide +kernel
theorem dL_comesTrue_198 : decode cL_comesTrue 198 = .ok (.ifCond .le 24, 3) := by decide +kernel
theorem dL_comesTrue_201 : decode cL_comesTrue 201 = .ok (.aload_n 0, 1) := by decide +kernel
theorem dL_comesTrue_202 : decode cL_comesTrue 202 = .ok (.iload_n 1, 1) := by decide +kernel
theorem dL_comesTrue_203 : decode cL_comesTrue 203 = .ok (.bipush 6, 2) := by decide +kernel
theorem dL_comesTrue_205 : decode cL_comesTrue 205 = .ok (.invokestatic 93, 3) := by decide +kernel
theorem dL_comesTrue_208 : decode cL_comesTrue 208 = .ok (.ifCond .ne 14, 3) := by decide +kernel
theorem dL_comesTrue_211 : decode cL_comesTrue 211 = .ok (.aload_n 0, 1) := by decide +kernel
theorem dL_comesTrue_212 : decode cL_comesTrue 212 = .ok (.invokestatic 161, 3) := by decide +kernel
theorem dL_comesTrue_215 : decode cL_comesTrue 215 = .ok (.ifCond .lt 7, 3) := by decide +kernel
theorem dL_comesTrue_218 : decode cL_comesTrue 218 = .ok (.iconst 1, 1) := by decide +kernel
theorem dL_comesTrue_219 : decode cL_comesTrue 219 = .ok (.goto 4, 3) := by decide +kernel
theorem dL_comesTrue_222 : decode cL_comesTrue 222 = .ok (.iconst 0, 1) := by decide +kernel
theorem dL_comesTrue_223 : decode cL_comesTrue 223 = .ok (.istore 6, 2) := by decide +kernel
theorem dL_comesTrue_225 : decode cL_comesTrue 225 = .ok (.iload 6, 2) := by decide +kernel
theorem dL_comesTrue_227 : decode cL_comesTrue 227 = .ok (.ifCond .eq 16, 3) := by decide +kernel
theorem dL_comesTrue_230 : decode cL_comesTrue 230 = .ok (.aload_n 0, 1) := by decide +kernel
theorem dL_comesTrue_231 : decode cL_comesTrue 231 = .ok (.invokestatic 107, 3) := by decide +kernel
theorem dL_comesTrue_234 : decode cL_comesTrue 234 = .ok (.lload_n 2, 1) := by decide +kernel
theorem dL_comesTrue_235 : decode cL_comesTrue 235 = .ok (.lcmp, 1) := by decide +kernel
theorem dL_comesTrue_236 : decode cL_comesTrue 236 = .ok (.ifCond .ne 7, 3) := by decide +kernel
theorem dL_comesTrue_239 : decode cL_comesTrue 239 = .ok (.iconst 1, 1) := by decide +kernel
theorem dL_comesTrue_240 : decode cL_comesTrue 240 = .ok (.goto 4, 3) := by decide +kernel
theorem dL_comesTrue_243 : decode cL_comesTrue 243 = .ok (.iconst 0, 1) := by decide +kernel
theorem dL_comesTrue_244 : decode cL_comesTrue 244 = .ok (.ireturn, 1) := by decide +kernel
theorem dL_sent_0 : decode cL_sent 0 = .ok (.iload_n 1, 1) := by decide +kernel
theorem dL_sent_1 : decode cL_sent 1 = .ok (.bipush 16, 2) := by decide +kernel
theorem dL_sent_3 : decode cL_sent 3 = .ok (.invokestatic 158, 3) := by decide +kernel
theorem dL_sent_6 : decode cL_sent 6 = .ok (.istore_n 3, 1) := by decide +kernel
theorem dL_sent_7 : decode cL_sent 7 = .ok (.iload_n 1, 1) := by decide +kernel
theorem dL_sent_8 : decode cL_sent 8 = .ok (.iconst 4, 1) := by decide +kernel
theorem dL_sent_9 : decode cL_sent 9 = .ok (.ishr, 1) := by decide +kernel
theorem dL_sent_10 : decode cL_sent 10 = .ok (.iconst 3, 1) := by decide +kernel
theorem dL_sent_11 : decode cL_sent 11 = .ok (.invokestatic 158, 3) := by decide +kernel
theorem dL_sent_14 : decode cL_sent 14 = .ok (.istore 4, 2) := by decide +kernel
theorem dL_sent_16 : decode cL_sent 16 = .ok (.iload_n 2, 1) := by decide +kernel
theorem dL_sent_17 : decode cL_sent 17 = .ok (.iconst 3, 1) := by decide +kernel
theorem dL_sent_18 : decode cL_sent 18 = .ok (.invokestatic 158, 3) := by decide +kernel
theorem dL_sent_21 : decode cL_sent 21 = .ok (.ifCond .ne 14, 3) := by decide +kernel
theorem dL_sent_24 : decode cL_sent 24 = .ok (.iload_n 2, 1) := by decide +kernel
theorem dL_sent_25 : decode cL_sent 25 = .ok (.iconst 2, 1) := by decide +kernel
theorem dL_sent_26 : decode cL_sent 26 = .ok (.ishr, 1) := by decide +kernel
theorem dL_sent_27 : decode cL_sent 27 = .ok (.bipush 10, 2) := by decide +kernel
theorem dL_sent_29 : decode cL_sent 29 = .ok (.invokestatic 158, 3) := by decide +kernel
theorem dL_sent_32 : decode cL_sent 32 = .ok (.goto 4, 3) := by decide +kernel
theorem dL_sent_35 : decode cL_sent 35 = .ok (.iconst 0, 1) := by decide +kernel
theorem dL_sent_36 : decode cL_sent 36 = .ok (.istore 5, 2) := by decide +kernel
theorem dL_sent_38 : decode cL_sent 38 = .ok (.aload_n 0, 1) := by decide +kernel
theorem dL_sent_39 : decode cL_sent 39 = .ok (.iload_n 3, 1) := by decide +kernel
theorem dL_sent_40 : decode cL_sent 40 = .ok (.iload 4, 2) := by decide +kernel
theorem dL_sent_42 : decode cL_sent 42 = .ok (.iload 5, 2) := by decide +kernel
theorem dL_sent_44 : decode cL_sent 44 = .ok (.invokestatic 132, 3) := by decide +kernel
theorem dL_sent_47 : decode cL_sent 47 = .ok (.istore 6, 2) := by decide +kernel
theorem dL_sent_49 : decode cL_sent 49 = .ok (.aload_n 0, 1) := by decide +kernel
theorem dL_sent_50 : decode cL_sent 50 = .ok (.iconst 2, 1) := by decide +kernel
theorem dL_sent_51 : decode cL_sent 51 = .ok (.invokestatic 88, 3) := by decide +kernel
theorem dL_sent_54 : decode cL_sent 54 = .ok (.istore 7, 2) := by decide +kernel
theorem dL_sent_56 : decode cL_sent 56 = .ok (.aload_n 0, 1) := by decide +kernel
theorem dL_sent_57 : decode cL_sent 57 = .ok (.bipush 8, 2) := by decide +kernel
theorem dL_sent_59 : decode cL_sent 59 = .ok (.invokestatic 88, 3) := by decide +kernel
theorem dL_sent_62 : decode cL_sent 62 = .ok (.istore 8, 2) := by decide +kernel
theorem dL_sent_64 : decode cL_sent 64 = .ok (.aload_n 0, 1) := by decide +kernel
theorem dL_sent_65 : decode cL_sent 65 = .ok (.bipush 10, 2) := by decide +kernel
theorem dL_sent_67 : decode cL_sent 67 = .ok (.invokestatic 88, 3) := by decide +kernel
theorem dL_sent_70 : decode cL_sent 70 = .ok (.istore 9, 2) := by decide +kernel
theorem dL_sent_72 : decode cL_sent 72 = .ok (.aload_n 0, 1) := by decide +kernel
theorem dL_sent_73 : decode cL_sent 73 = .ok (.iload_n 3, 1) := by decide +kernel
theorem dL_sent_74 : decode cL_sent 74 = .ok (.iload 4, 2) := by decide +kernel
theorem dL_sent_76 : decode cL_sent 76 = .ok (.iload 5, 2) := by decide +kernel
theorem dL_sent_78 : decode cL_sent 78 = .ok (.invokestatic 126, 3) := by decide +kernel
theorem dL_sent_81 : decode cL_sent 81 = .ok (.istore 10, 2) := by decide +kernel
theorem dL_sent_83 : decode cL_sent 83 = .ok (.iload 6, 2) := by decide +kernel
theorem dL_sent_85 : decode cL_sent 85 = .ok (.iconst (-1), 1) := by decide +kernel
theorem dL_sent_86 : decode cL_sent 86 = .ok (.if_icmp .eq 10, 3) := by decide +kernel
theorem dL_sent_89 : decode cL_sent 89 = .ok (.iload 7, 2) := by decide +kernel
theorem dL_sent_91 : decode cL_sent 91 = .ok (.bipush 60, 2) := by decide +kernel
theorem dL_sent_93 : decode cL_sent 93 = .ok (.if_icmp .ne 16, 3) := by decide +kernel
theorem dL_sent_96 : decode cL_sent 96 = .ok (.iload 10, 2) := by decide +kernel
theorem dL_sent_98 : decode cL_sent 98 = .ok (.ldc 23, 2) := by decide +kernel
theorem dL_sent_100 : decode cL_sent 100 = .ok (.if_icmp .ne 7, 3) := by decide +kernel
theorem dL_sent_103 : decode cL_sent 103 = .ok (.iconst 1, 1) := by decide +kernel
theorem dL_sent_104 : decode cL_sent 104 = .ok (.goto 4, 3) := by decide +kernel
theorem dL_sent_107 : decode cL_sent 107 = .ok (.iconst 0, 1) := by decide +kernel
theorem dL_sent_108 : decode cL_sent 108 = .ok (.ireturn, 1) := by decide +kernel
theorem dL_sent_109 : decode cL_sent 109 = .ok (.iconst 0, 1) := by decide +kernel
theorem dL_sent_110 : decode cL_sent 110 = .ok (.istore 11, 2) := by decide +kernel
theorem dL_sent_112 : decode cL_sent 112 = .ok (.iconst 0, 1) := by decide +kernel
theorem dL_sent_113 : decode cL_sent 113 = .ok (.istore 12, 2) := by decide +kernel
theorem dL_sent_115 : decode cL_sent 115 = .ok (.iload 12, 2) := by decide +kernel
theorem dL_sent_117 : decode cL_sent 117 = .ok (.bipush 8, 2) := by decide +kernel
theorem dL_sent_119 : decode cL_sent 119 = .ok (.if_icmp .ge 21, 3) := by decide +kernel
theorem dL_sent_122 : decode cL_sent 122 = .ok (.iload 11, 2) := by decide +kernel
theorem dL_sent_124 : decode cL_sent 124 = .ok (.iload 6, 2) := by decide +kernel
theorem dL_sent_126 : decode cL_sent 126 = .ok (.iload 12, 2) := by decide +kernel
theorem dL_sent_128 : decode cL_sent 128 = .ok (.ishr, 1) := by decide +kernel
theorem dL_sent_129 : decode cL_sent 129 = .ok (.iconst 1, 1) := by decide +kernel
theorem dL_sent_130 : decode cL_sent 130 = .ok (.iand, 1) := by decide +kernel
theorem dL_sent_131 : decode cL_sent 131 = .ok (.iadd, 1) := by decide +kernel
theorem dL_sent_132 : decode cL_sent 132 = .ok (.istore 11, 2) := by decide +kernel
theorem dL_sent_134 : decode cL_sent 134 = .ok (.iinc 12 1, 3) := by decide +kernel
theorem dL_sent_137 : decode cL_sent 137 = .ok (.goto (-22), 3) := by decide +kernel
theorem dL_sent_140 : decode cL_sent 140 = .ok (.iload 10, 2) := by decide +kernel
theorem dL_sent_142 : decode cL_sent 142 = .ok (.iload 7, 2) := by decide +kernel
theorem dL_sent_144 : decode cL_sent 144 = .ok (.if_icmp .ne 114, 3) := by decide +kernel
theorem dL_sent_147 : decode cL_sent 147 = .ok (.aload_n 0, 1) := by decide +kernel
theorem dL_sent_148 : decode cL_sent 148 = .ok (.iload 7, 2) := by decide +kernel
theorem dL_sent_150 : decode cL_sent 150 = .ok (.iconst 0, 1) := by decide +kernel
theorem dL_sent_151 : decode cL_sent 151 = .ok (.invokestatic 103, 3) := by decide +kernel
theorem dL_sent_154 : decode cL_sent 154 = .ok (.iload_n 3, 1) := by decide +kernel
theorem dL_sent_155 : decode cL_sent 155 = .ok (.if_icmp .ne 103, 3) := by decide +kernel
theorem dL_sent_158 : decode cL_sent 158 = .ok (.aload_n 0, 1) := by decide +kernel
theorem dL_sent_159 : decode cL_sent 159 = .ok (.iload 7, 2) := by decide +kernel
theorem dL_sent_161 : decode cL_sent 161 = .ok (.iconst 1, 1) := by decide +kernel
theorem dL_sent_162 : decode cL_sent 162 = .ok (.invokestatic 103, 3) := by decide +kernel
theorem dL_sent_165 : decode cL_sent 165 = .ok (.iload 4, 2) := by decide +kernel
theorem dL_sent_167 : decode cL_sent 167 = .ok (.if_icmp .ne 91, 3) := by decide +kernel
theorem dL_sent_170 : decode cL_sent 170 = .ok (.aload_n 0, 1) := by decide +kernel
theorem dL_sent_171 : decode cL_sent 171 = .ok (.iload 7, 2) := by decide +kernel
theorem dL_sent_173 : decode cL_sent 173 = .ok (.iconst 2, 1) := by decide +kernel
theorem dL_sent_174 : decode cL_sent 174 = .ok (.invokestatic 103, 3) := by decide +kernel
theorem dL_sent_177 : decode cL_sent 177 = .ok (.aload_n 0, 1) := by decide +kernel
theorem dL_sent_178 : decode cL_sent 178 = .ok (.iconst 3, 1) := by decide +kernel
theorem dL_sent_179 : decode cL_sent 179 = .ok (.invokestatic 88, 3) := by decide +kernel
theorem dL_sent_182 : decode cL_sent 182 = .ok (.iload 5, 2) := by decide +kernel
theorem dL_sent_184 : decode cL_sent 184 = .ok (.isub, 1) := by decide +kernel
theorem dL_sent_185 : decode cL_sent 185 = .ok (.if_icmp .ne 73, 3) := by decide +kernel
theorem dL_sent_188 : decode cL_sent 188 = .ok (.aload_n 0, 1) := by decide +kernel
theorem dL_sent_189 : decode cL_sent 189 = .ok (.iload 7, 2) := by decide +kernel
theorem dL_sent_191 : decode cL_sent 191 = .ok (.iconst 4, 1) := by decide +kernel
theorem dL_sent_192 : decode cL_sent 192 = .ok (.invokestatic 103, 3) := by decide +kernel
theorem dL_sent_195 : decode cL_sent 195 = .ok (.iload 6, 2) := by decide +kernel
theorem dL_sent_197 : decode cL_sent 197 = .ok (.if_icmp .ne 61, 3) := by decide +kernel
theorem dL_sent_200 : decode cL_sent 200 = .ok (.aload_n 0, 1) := by decide +kernel
theorem dL_sent_201 : decode cL_sent 201 = .ok (.iload 7, 2) := by decide +kernel
theorem dL_sent_203 : decode cL_sent 203 = .ok (.iconst 5, 1) := by decide +kernel
theorem dL_sent_204 : decode cL_sent 204 = .ok (.invokestatic 103, 3) := by decide +kernel
theorem dL_sent_207 : decode cL_sent 207 = .ok (.ifCond .ne 51, 3) := by decide +kernel
theorem dL_sent_210 : decode cL_sent 210 = .ok (.aload_n 0, 1) := by decide +kernel
theorem dL_sent_211 : decode cL_sent 211 = .ok (.bipush 8, 2) := by decide +kernel
theorem dL_sent_213 : decode cL_sent 213 = .ok (.invokestatic 88, 3) := by decide +kernel
theorem dL_sent_216 : decode cL_sent 216 = .ok (.iload 8, 2) := by decide +kernel
theorem dL_sent_218 : decode cL_sent 218 = .ok (.isub, 1) := by decide +kernel
theorem dL_sent_219 : decode cL_sent 219 = .ok (.aload_n 0, 1) := by decide +kernel
theorem dL_sent_220 : decode cL_sent 220 = .ok (.bipush 10, 2) := by decide +kernel
theorem dL_sent_222 : decode cL_sent 222 = .ok (.invokestatic 88, 3) := by decide +kernel
theorem dL_sent_225 : decode cL_sent 225 = .ok (.iadd, 1) := by decide +kernel
theorem dL_sent_226 : decode cL_sent 226 = .ok (.iload 9, 2) := by decide +kernel
theorem dL_sent_228 : decode cL_sent 228 = .ok (.isub, 1) := by decide +kernel
theorem dL_sent_229 : decode cL_sent 229 = .ok (.iload 11, 2) := by decide +kernel
theorem dL_sent_231 : decode cL_sent 231 = .ok (.if_icmp .ne 27, 3) := by decide +kernel
theorem dL_sent_234 : decode cL_sent 234 = .ok (.aload_n 0, 1) := by decide +kernel
theorem dL_sent_235 : decode cL_sent 235 = .ok (.iload 7, 2) := by decide +kernel
theorem dL_sent_237 : decode cL_sent 237 = .ok (.bipush 6, 2) := by decide +kernel
theorem dL_sent_239 : decode cL_sent 239 = .ok (.invokestatic 103, 3) := by decide +kernel
theorem dL_sent_242 : decode cL_sent 242 = .ok (.aload_n 0, 1) := by decide +kernel
theorem dL_sent_243 : decode cL_sent 243 = .ok (.bipush 8, 2) := by decide +kernel
theorem dL_sent_245 : decode cL_sent 245 = .ok (.invokestatic 88, 3) := by decide +kernel
theorem dL_sent_248 : decode cL_sent 248 = .ok (.iload 8, 2) := by decide +kernel
theorem dL_sent_250 : decode cL_sent 250 = .ok (.isub, 1) := by decide +kernel
theorem dL_sent_251 : decode cL_sent 251 = .ok (.if_icmp .ne 7, 3) := by decide +kernel
theorem dL_sent_254 : decode cL_sent 254 = .ok (.iconst 1, 1) := by decide +kernel
theorem dL_sent_255 : decode cL_sent 255 = .ok (.goto 4, 3) := by decide +kernel
theorem dL_sent_258 : decode cL_sent 258 = .ok (.iconst 0, 1) := by decide +kernel
theorem dL_sent_259 : decode cL_sent 259 = .ok (.ireturn, 1) := by decide +kernel
theorem dL_ticked_0 : decode cL_ticked 0 = .ok (.bipush 16, 2) := by decide +kernel
theorem dL_ticked_2 : decode cL_ticked 2 = .ok (.newarray .int, 2) := by decide +kernel
theorem dL_ticked_4 : decode cL_ticked 4 = .ok (.astore_n 1, 1) := by decide +kernel
theorem dL_ticked_5 : decode cL_ticked 5 = .ok (.iconst 0, 1) := by decide +kernel
theorem dL_ticked_6 : decode cL_ticked 6 = .ok (.istore_n 2, 1) := by decide +kernel
theorem dL_ticked_7 : decode cL_ticked 7 = .ok (.iload_n 2, 1) := by decide +kernel
theorem dL_ticked_8 : decode cL_ticked 8 = .ok (.bipush 16, 2) := by decide +kernel
theorem dL_ticked_10 : decode cL_ticked 10 = .ok (.if_icmp .ge 18, 3) := by decide +kernel
theorem dL_ticked_13 : decode cL_ticked 13 = .ok (.aload_n 1, 1) := by decide +kernel
theorem dL_ticked_14 : decode cL_ticked 14 = .ok (.iload_n 2, 1) := by decide +kernel
theorem dL_ticked_15 : decode cL_ticked 15 = .ok (.aload_n 0, 1) := by decide +kernel
theorem dL_ticked_16 : decode cL_ticked 16 = .ok (.iload_n 2, 1) := by decide +kernel
theorem dL_ticked_17 : decode cL_ticked 17 = .ok (.iconst 1, 1) := by decide +kernel
theorem dL_ticked_18 : decode cL_ticked 18 = .ok (.invokestatic 105, 3) := by decide +kernel
theorem dL_ticked_21 : decode cL_ticked 21 = .ok (.iastore, 1) := by decide +kernel
theorem dL_ticked_22 : decode cL_ticked 22 = .ok (.iinc 2 1, 3) := by decide +kernel
theorem dL_ticked_25 : decode cL_ticked 25 = .ok (.goto (-18), 3) := by decide +kernel
theorem dL_ticked_28 : decode cL_ticked 28 = .ok (.aload_n 0, 1) := by decide +kernel
theorem dL_ticked_29 : decode cL_ticked 29 = .ok (.bipush 9, 2) := by decide +kernel
theorem dL_ticked_31 : decode cL_ticked 31 = .ok (.invokestatic 88, 3) := by decide +kernel
theorem dL_ticked_34 : decode cL_ticked 34 = .ok (.istore_n 2, 1) := by decide +kernel
theorem dL_ticked_35 : decode cL_ticked 35 = .ok (.aload_n 0, 1) := by decide +kernel
theorem dL_ticked_36 : decode cL_ticked 36 = .ok (.iconst 3, 1) := by decide +kernel
theorem dL_ticked_37 : decode cL_ticked 37 = .ok (.invokestatic 88, 3) := by decide +kernel
theorem dL_ticked_40 : decode cL_ticked 40 = .ok (.istore_n 3, 1) := by decide +kernel
theorem dL_ticked_41 : decode cL_ticked 41 = .ok (.aload_n 0, 1) := by decide +kernel
theorem dL_ticked_42 : decode cL_ticked 42 = .ok (.iconst 1, 1) := by decide +kernel
theorem dL_ticked_43 : decode cL_ticked 43 = .ok (.invokestatic 129, 3) := by decide +kernel
theorem dL_ticked_46 : decode cL_ticked 46 = .ok (.istore 4, 2) := by decide +kernel
theorem dL_ticked_48 : decode cL_ticked 48 = .ok (.iload 4, 2) := by decide +kernel
theorem dL_ticked_50 : decode cL_ticked 50 = .ok (.aload_n 0, 1) := by decide +kernel
theorem dL_ticked_51 : decode cL_ticked 51 = .ok (.bipush 9, 2) := by decide +kernel
theorem dL_ticked_53 : decode cL_ticked 53 = .ok (.invokestatic 88, 3) := by decide +kernel
theorem dL_ticked_56 : decode cL_ticked 56 = .ok (.iload_n 2, 1) := by decide +kernel
theorem dL_ticked_57 : decode cL_ticked 57 = .ok (.isub, 1) := by decide +kernel
theorem dL_ticked_58 : decode cL_ticked 58 = .ok (.if_icmp .ne 18, 3) := by decide +kernel
theorem dL_ticked_61 : decode cL_ticked 61 = .ok (.aload_n 0, 1) := by decide +kernel
theorem dL_ticked_62 : decode cL_ticked 62 = .ok (.iconst 3, 1) := by decide +kernel
theorem dL_ticked_63 : decode cL_ticked 63 = .ok (.invokestatic 88, 3) := by decide +kernel
theorem dL_ticked_66 : decode cL_ticked 66 = .ok (.iload_n 3, 1) := by decide +kernel
theorem dL_ticked_67 : decode cL_ticked 67 = .ok (.iconst 1, 1) := by decide +kernel
theorem dL_ticked_68 : decode cL_ticked 68 = .ok (.iadd, 1) := by decide +kernel
theorem dL_ticked_69 : decode cL_ticked 69 = .ok (.if_icmp .ne 7, 3) := by decide +kernel
theorem dL_ticked_72 : decode cL_ticked 72 = .ok (.iconst 1, 1) := by decide +kernel
theorem dL_ticked_73 : decode cL_ticked 73 = .ok (.goto 4, 3) := by decide +kernel
theorem dL_ticked_76 : decode cL_ticked 76 = .ok (.iconst 0, 1) := by decide +kernel
theorem dL_ticked_77 : decode cL_ticked 77 = .ok (.istore 5, 2) := by decide +kernel
theorem dL_ticked_79 : decode cL_ticked 79 = .ok (.iconst 0, 1) := by decide +kernel
theorem dL_ticked_80 : decode cL_ticked 80 = .ok (.istore 6, 2) := by decide +kernel
theorem dL_ticked_82 : decode cL_ticked 82 = .ok (.iload 6, 2) := by decide +kernel
theorem dL_ticked_84 : decode cL_ticked 84 = .ok (.bipush 16, 2) := by decide +kernel
theorem dL_ticked_86 : decode cL_ticked 86 = .ok (.if_icmp .ge 71, 3) := by decide +kernel
theorem dL_ticked_89 : decode cL_ticked 89 = .ok (.iload 5, 2) := by decide +kernel
theorem dL_ticked_91 : decode cL_ticked 91 = .ok (.ifCond .eq 66, 3) := by decide +kernel
theorem dL_ticked_94 : decode cL_ticked 94 = .ok (.aload_n 0, 1) := by decide +kernel
theorem dL_ticked_95 : decode cL_ticked 95 = .ok (.iload 6, 2) := by decide +kernel
theorem dL_ticked_97 : decode cL_ticked 97 = .ok (.iconst 1, 1) := by decide +kernel
theorem dL_ticked_98 : decode cL_ticked 98 = .ok (.invokestatic 105, 3) := by decide +kernel
theorem dL_ticked_101 : decode cL_ticked 101 = .ok (.aload_n 1, 1) := by decide +kernel
theorem dL_ticked_102 : decode cL_ticked 102 = .ok (.iload 6, 2) := by decide +kernel
theorem dL_ticked_104 : decode cL_ticked 104 = .ok (.iaload, 1) := by decide +kernel
theorem dL_ticked_105 : decode cL_ticked 105 = .ok (.isub, 1) := by decide +kernel
theorem dL_ticked_106 : decode cL_ticked 106 = .ok (.aload_n 0, 1) := by decide +kernel
theorem dL_ticked_107 : decode cL_ticked 107 = .ok (.iconst 5, 1) := by decide +kernel
theorem dL_ticked_108 : decode cL_ticked 108 = .ok (.invokestatic 88, 3) := by decide +kernel
theorem dL_ticked_111 : decode cL_ticked 111 = .ok (.if_icmp .gt 37, 3) := by decide +kernel
theorem dL_ticked_114 : decode cL_ticked 114 = .ok (.aload_n 0, 1) := by decide +kernel
theorem dL_ticked_115 : decode cL_ticked 115 = .ok (.iload 6, 2) := by decide +kernel
theorem dL_ticked_117 : decode cL_ticked 117 = .ok (.iconst 1, 1) := by decide +kernel
theorem dL_ticked_118 : decode cL_ticked 118 = .ok (.invokestatic 105, 3) := by decide +kernel
theorem dL_ticked_121 : decode cL_ticked 121 = .ok (.aload_n 1, 1) := by decide +kernel
theorem dL_ticked_122 : decode cL_ticked 122 = .ok (.iload 6, 2) := by decide +kernel
theorem dL_ticked_124 : decode cL_ticked 124 = .ok (.iaload, 1) := by decide +kernel
theorem dL_ticked_125 : decode cL_ticked 125 = .ok (.isub, 1) := by decide +kernel
theorem dL_ticked_126 : decode cL_ticked 126 = .ok (.aload_n 0, 1) := by decide +kernel
theorem dL_ticked_127 : decode cL_ticked 127 = .ok (.iconst 5, 1) := by decide +kernel
theorem dL_ticked_128 : decode cL_ticked 128 = .ok (.invokestatic 88, 3) := by decide +kernel
theorem dL_ticked_131 : decode cL_ticked 131 = .ok (.if_icmp .eq 13, 3) := by decide +kernel
theorem dL_ticked_134 : decode cL_ticked 134 = .ok (.aload_n 0, 1) := by decide +kernel
theorem dL_ticked_135 : decode cL_ticked 135 = .ok (.iload 6, 2) := by decide +kernel
theorem dL_ticked_137 : decode cL_ticked 137 = .ok (.iload_n 3, 1) := by decide +kernel
theorem dL_ticked_138 : decode cL_ticked 138 = .ok (.invokestatic 165, 3) := by decide +kernel
theorem dL_ticked_141 : decode cL_ticked 141 = .ok (.ifCond .eq 7, 3) := by decide +kernel
theorem dL_ticked_144 : decode cL_ticked 144 = .ok (.iconst 1, 1) := by decide +kernel
theorem dL_ticked_145 : decode cL_ticked 145 = .ok (.goto 4, 3) := by decide +kernel
theorem dL_ticked_148 : decode cL_ticked 148 = .ok (.iconst 0, 1) := by decide +kernel
theorem dL_ticked_149 : decode cL_ticked 149 = .ok (.istore 5, 2) := by decide +kernel
theorem dL_ticked_151 : decode cL_ticked 151 = .ok (.iinc 6 1, 3) := by decide +kernel
theorem dL_ticked_154 : decode cL_ticked 154 = .ok (.goto (-72), 3) := by decide +kernel
theorem dL_ticked_157 : decode cL_ticked 157 = .ok (.iload 5, 2) := by decide +kernel
theorem dL_ticked_159 : decode cL_ticked 159 = .ok (.ireturn, 1) := by decide +kernel
theorem dL_isDone_0 : decode cL_isDone 0 = .ok (.iconst 1, 1) := by decide +kernel
theorem dL_isDone_1 : decode cL_isDone 1 = .ok (.istore_n 3, 1) := by decide +kernel
theorem dL_isDone_2 : decode cL_isDone 2 = .ok (.iconst 0, 1) := by decide +kernel
theorem dL_isDone_3 : decode cL_isDone 3 = .ok (.istore 4, 2) := by decide +kernel
theorem dL_isDone_5 : decode cL_isDone 5 = .ok (.iload 4, 2) := by decide +kernel
theorem dL_isDone_7 : decode cL_isDone 7 = .ok (.aload_n 0, 1) := by decide +kernel
theorem dL_isDone_8 : decode cL_isDone 8 = .ok (.iconst 0, 1) := by decide +kernel
theorem dL_isDone_9 : decode cL_isDone 9 = .ok (.invokestatic 88, 3) := by decide +kernel
theorem dL_isDone_12 : decode cL_isDone 12 = .ok (.if_icmp .ge 63, 3) := by decide +kernel
theorem dL_isDone_15 : decode cL_isDone 15 = .ok (.iload_n 3, 1) := by decide +kernel
theorem dL_isDone_16 : decode cL_isDone 16 = .ok (.ifCond .eq 51, 3) := by decide +kernel
theorem dL_isDone_19 : decode cL_isDone 19 = .ok (.aload_n 0, 1) := by decide +kernel
theorem dL_isDone_20 : decode cL_isDone 20 = .ok (.iload 4, 2) := by decide +kernel
theorem dL_isDone_22 : decode cL_isDone 22 = .ok (.iconst 5, 1) := by decide +kernel
theorem dL_isDone_23 : decode cL_isDone 23 = .ok (.invokestatic 93, 3) := by decide +kernel
theorem dL_isDone_26 : decode cL_isDone 26 = .ok (.ifCond .eq 37, 3) := by decide +kernel
theorem dL_isDone_29 : decode cL_isDone 29 = .ok (.aload_n 0, 1) := by decide +kernel
theorem dL_isDone_30 : decode cL_isDone 30 = .ok (.iload 4, 2) := by decide +kernel
theorem dL_isDone_32 : decode cL_isDone 32 = .ok (.iconst 4, 1) := by decide +kernel
theorem dL_isDone_33 : decode cL_isDone 33 = .ok (.invokestatic 93, 3) := by decide +kernel
theorem dL_isDone_36 : decode cL_isDone 36 = .ok (.iload_n 1, 1) := by decide +kernel
theorem dL_isDone_37 : decode cL_isDone 37 = .ok (.if_icmp .ne 26, 3) := by decide +kernel
theorem dL_isDone_40 : decode cL_isDone 40 = .ok (.aload_n 0, 1) := by decide +kernel
theorem dL_isDone_41 : decode cL_isDone 41 = .ok (.iload 4, 2) := by decide +kernel
theorem dL_isDone_43 : decode cL_isDone 43 = .ok (.bipush 11, 2) := by decide +kernel
theorem dL_isDone_45 : decode cL_isDone 45 = .ok (.invokestatic 93, 3) := by decide +kernel
theorem dL_isDone_48 : decode cL_isDone 48 = .ok (.iload_n 2, 1) := by decide +kernel
theorem dL_isDone_49 : decode cL_isDone 49 = .ok (.if_icmp .gt 14, 3) := by decide +kernel
theorem dL_isDone_52 : decode cL_isDone 52 = .ok (.aload_n 0, 1) := by decide +kernel
theorem dL_isDone_53 : decode cL_isDone 53 = .ok (.iload 4, 2) := by decide +kernel
theorem dL_isDone_55 : decode cL_isDone 55 = .ok (.bipush 6, 2) := by decide +kernel
theorem dL_isDone_57 : decode cL_isDone 57 = .ok (.invokestatic 93, 3) := by decide +kernel
theorem dL_isDone_60 : decode cL_isDone 60 = .ok (.ifCond .ne 7, 3) := by decide +kernel
theorem dL_isDone_63 : decode cL_isDone 63 = .ok (.iconst 1, 1) := by decide +kernel
theorem dL_isDone_64 : decode cL_isDone 64 = .ok (.goto 4, 3) := by decide +kernel
theorem dL_isDone_67 : decode cL_isDone 67 = .ok (.iconst 0, 1) := by decide +kernel
theorem dL_isDone_68 : decode cL_isDone 68 = .ok (.istore_n 3, 1) := by decide +kernel
theorem dL_isDone_69 : decode cL_isDone 69 = .ok (.iinc 4 1, 3) := by decide +kernel
theorem dL_isDone_72 : decode cL_isDone 72 = .ok (.goto (-67), 3) := by decide +kernel
theorem dL_isDone_75 : decode cL_isDone 75 = .ok (.iload_n 3, 1) := by decide +kernel
theorem dL_isDone_76 : decode cL_isDone 76 = .ok (.ireturn, 1) := by decide +kernel
theorem dL_acts_0 : decode cL_acts 0 = .ok (.iload_n 2, 1) := by decide +kernel
theorem dL_acts_1 : decode cL_acts 1 = .ok (.aload_n 0, 1) := by decide +kernel
theorem dL_acts_2 : decode cL_acts 2 = .ok (.iconst 0, 1) := by decide +kernel
theorem dL_acts_3 : decode cL_acts 3 = .ok (.invokestatic 88, 3) := by decide +kernel
theorem dL_acts_6 : decode cL_acts 6 = .ok (.invokestatic 158, 3) := by decide +kernel
theorem dL_acts_9 : decode cL_acts 9 = .ok (.istore 4, 2) := by decide +kernel
theorem dL_acts_11 : decode cL_acts 11 = .ok (.iload_n 1, 1) := by decide +kernel
theorem dL_acts_12 : decode cL_acts 12 = .ok (.tableswitch 403 0 11 #[64, 64, 64, 64, 71, 71, 176, 176, 176, 181, 227, 304], 64) := by decide +kernel
theorem dL_acts_76 : decode cL_acts 76 = .ok (.aload_n 0, 1) := by decide +kernel
theorem dL_acts_77 : decode cL_acts 77 = .ok (.iload_n 2, 1) := by decide +kernel
theorem dL_acts_78 : decode cL_acts 78 = .ok (.iload_n 3, 1) := by decide +kernel
theorem dL_acts_79 : decode cL_acts 79 = .ok (.invokestatic 169, 3) := by decide +kernel
theorem dL_acts_82 : decode cL_acts 82 = .ok (.ireturn, 1) := by decide +kernel
theorem dL_acts_83 : decode cL_acts 83 = .ok (.aload_n 0, 1) := by decide +kernel
theorem dL_acts_84 : decode cL_acts 84 = .ok (.iload 4, 2) := by decide +kernel
theorem dL_acts_86 : decode cL_acts 86 = .ok (.iconst 2, 1) := by decide +kernel
theorem dL_acts_87 : decode cL_acts 87 = .ok (.invokestatic 93, 3) := by decide +kernel
theorem dL_acts_90 : decode cL_acts 90 = .ok (.istore 5, 2) := by decide +kernel
theorem dL_acts_92 : decode cL_acts 92 = .ok (.iload_n 3, 1) := by decide +kernel
theorem dL_acts_93 : decode cL_acts 93 = .ok (.bipush 16, 2) := by decide +kernel
theorem dL_acts_95 : decode cL_acts 95 = .ok (.invokestatic 158, 3) := by decide +kernel
theorem dL_acts_98 : decode cL_acts 98 = .ok (.istore 6, 2) := by decide +kernel
theorem dL_acts_100 : decode cL_acts 100 = .ok (.aload_n 0, 1) := by decide +kernel
theorem dL_acts_101 : decode cL_acts 101 = .ok (.iload 4, 2) := by decide +kernel
theorem dL_acts_103 : decode cL_acts 103 = .ok (.iload 6, 2) := by decide +kernel
theorem dL_acts_105 : decode cL_acts 105 = .ok (.invokestatic 114, 3) := by decide +kernel
theorem dL_acts_108 : decode cL_acts 108 = .ok (.istore 7, 2) := by decide +kernel
theorem dL_acts_110 : decode cL_acts 110 = .ok (.iload 7, 2) := by decide +kernel
theorem dL_acts_112 : decode cL_acts 112 = .ok (.aload_n 0, 1) := by decide +kernel
theorem dL_acts_113 : decode cL_acts 113 = .ok (.iload 4, 2) := by decide +kernel
theorem dL_acts_115 : decode cL_acts 115 = .ok (.iconst 5, 1) := by decide +kernel
theorem dL_acts_116 : decode cL_acts 116 = .ok (.invokestatic 93, 3) := by decide +kernel
theorem dL_acts_119 : decode cL_acts 119 = .ok (.ifCond .eq 21, 3) := by decide +kernel
theorem dL_acts_122 : decode cL_acts 122 = .ok (.aload_n 0, 1) := by decide +kernel
theorem dL_acts_123 : decode cL_acts 123 = .ok (.iload 4, 2) := by decide +kernel
theorem dL_acts_125 : decode cL_acts 125 = .ok (.iconst 0, 1) := by decide +kernel
theorem dL_acts_126 : decode cL_acts 126 = .ok (.invokestatic 93, 3) := by decide +kernel
theorem dL_acts_129 : decode cL_acts 129 = .ok (.iconst 2, 1) := by decide +kernel
theorem dL_acts_130 : decode cL_acts 130 = .ok (.if_icmp .eq 10, 3) := by decide +kernel
theorem dL_acts_133 : decode cL_acts 133 = .ok (.iload 5, 2) := by decide +kernel
theorem dL_acts_135 : decode cL_acts 135 = .ok (.iload 6, 2) := by decide +kernel
theorem dL_acts_137 : decode cL_acts 137 = .ok (.if_icmp .ne 8, 3) := by decide +kernel
theorem dL_acts_140 : decode cL_acts 140 = .ok (.ldc 23, 2) := by decide +kernel
theorem dL_acts_142 : decode cL_acts 142 = .ok (.goto 5, 3) := by decide +kernel
theorem dL_acts_145 : decode cL_acts 145 = .ok (.iload 5, 2) := by decide +kernel
theorem dL_acts_147 : decode cL_acts 147 = .ok (.if_icmp .ne 39, 3) := by decide +kernel
theorem dL_acts_150 : decode cL_acts 150 = .ok (.iload 7, 2) := by decide +kernel
theorem dL_acts_152 : decode cL_acts 152 = .ok (.ifCond .lt 30, 3) := by decide +kernel
theorem dL_acts_155 : decode cL_acts 155 = .ok (.aload_n 0, 1) := by decide +kernel
theorem dL_acts_156 : decode cL_acts 156 = .ok (.iload 4, 2) := by decide +kernel
theorem dL_acts_158 : decode cL_acts 158 = .ok (.iconst 2, 1) := by decide +kernel
theorem dL_acts_159 : decode cL_acts 159 = .ok (.invokestatic 93, 3) := by decide +kernel
theorem dL_acts_162 : decode cL_acts 162 = .ok (.iload 6, 2) := by decide +kernel
theorem dL_acts_164 : decode cL_acts 164 = .ok (.if_icmp .ne 22, 3) := by decide +kernel
theorem dL_acts_167 : decode cL_acts 167 = .ok (.aload_n 0, 1) := by decide +kernel
theorem dL_acts_168 : decode cL_acts 168 = .ok (.iload 4, 2) := by decide +kernel
theorem dL_acts_170 : decode cL_acts 170 = .ok (.iconst 3, 1) := by decide +kernel
theorem dL_acts_171 : decode cL_acts 171 = .ok (.invokestatic 93, 3) := by decide +kernel
theorem dL_acts_174 : decode cL_acts 174 = .ok (.aload_n 0, 1) := by decide +kernel
theorem dL_acts_175 : decode cL_acts 175 = .ok (.iconst 3, 1) := by decide +kernel
theorem dL_acts_176 : decode cL_acts 176 = .ok (.invokestatic 88, 3) := by decide +kernel
theorem dL_acts_179 : decode cL_acts 179 = .ok (.if_icmp .ne 7, 3) := by decide +kernel
theorem dL_acts_182 : decode cL_acts 182 = .ok (.iconst 1, 1) := by decide +kernel
theorem dL_acts_183 : decode cL_acts 183 = .ok (.goto 4, 3) := by decide +kernel
theorem dL_acts_186 : decode cL_acts 186 = .ok (.iconst 0, 1) := by decide +kernel
theorem dL_acts_187 : decode cL_acts 187 = .ok (.ireturn, 1) := by decide +kernel
theorem dL_acts_188 : decode cL_acts 188 = .ok (.aload_n 0, 1) := by decide +kernel
theorem dL_acts_189 : decode cL_acts 189 = .ok (.invokestatic 172, 3) := by decide +kernel
theorem dL_acts_192 : decode cL_acts 192 = .ok (.ireturn, 1) := by decide +kernel
theorem dL_acts_193 : decode cL_acts 193 = .ok (.aload_n 0, 1) := by decide +kernel
theorem dL_acts_194 : decode cL_acts 194 = .ok (.iload 4, 2) := by decide +kernel
theorem dL_acts_196 : decode cL_acts 196 = .ok (.iconst 1, 1) := by decide +kernel
theorem dL_acts_197 : decode cL_acts 197 = .ok (.invokestatic 93, 3) := by decide +kernel
theorem dL_acts_200 : decode cL_acts 200 = .ok (.istore 5, 2) := by decide +kernel
theorem dL_acts_202 : decode cL_acts 202 = .ok (.aload_n 0, 1) := by decide +kernel
theorem dL_acts_203 : decode cL_acts 203 = .ok (.iload 4, 2) := by decide +kernel
theorem dL_acts_205 : decode cL_acts 205 = .ok (.iload_n 3, 1) := by decide +kernel
theorem dL_acts_206 : decode cL_acts 206 = .ok (.iconst 3, 1) := by decide +kernel
theorem dL_acts_207 : decode cL_acts 207 = .ok (.invokestatic 158, 3) := by decide +kernel
theorem dL_acts_210 : decode cL_acts 210 = .ok (.invokestatic 120, 3) := by decide +kernel
theorem dL_acts_213 : decode cL_acts 213 = .ok (.iload 5, 2) := by decide +kernel
theorem dL_acts_215 : decode cL_acts 215 = .ok (.if_icmp .ne 22, 3) := by decide +kernel
theorem dL_acts_218 : decode cL_acts 218 = .ok (.aload_n 0, 1) := by decide +kernel
theorem dL_acts_219 : decode cL_acts 219 = .ok (.iload 4, 2) := by decide +kernel
theorem dL_acts_221 : decode cL_acts 221 = .ok (.iconst 1, 1) := by decide +kernel
theorem dL_acts_222 : decode cL_acts 222 = .ok (.invokestatic 93, 3) := by decide +kernel
theorem dL_acts_225 : decode cL_acts 225 = .ok (.iload_n 3, 1) := by decide +kernel
theorem dL_acts_226 : decode cL_acts 226 = .ok (.iconst 3, 1) := by decide +kernel
theorem dL_acts_227 : decode cL_acts 227 = .ok (.invokestatic 158, 3) := by decide +kernel
theorem dL_acts_230 : decode cL_acts 230 = .ok (.if_icmp .ne 7, 3) := by decide +kernel
theorem dL_acts_233 : decode cL_acts 233 = .ok (.iconst 1, 1) := by decide +kernel
theorem dL_acts_234 : decode cL_acts 234 = .ok (.goto 4, 3) := by decide +kernel
theorem dL_acts_237 : decode cL_acts 237 = .ok (.iconst 0, 1) := by decide +kernel
theorem dL_acts_238 : decode cL_acts 238 = .ok (.ireturn, 1) := by decide +kernel
theorem dL_acts_239 : decode cL_acts 239 = .ok (.iload_n 3, 1) := by decide +kernel
theorem dL_acts_240 : decode cL_acts 240 = .ok (.iconst 4, 1) := by decide +kernel
theorem dL_acts_241 : decode cL_acts 241 = .ok (.invokestatic 158, 3) := by decide +kernel
theorem dL_acts_244 : decode cL_acts 244 = .ok (.istore 5, 2) := by decide +kernel
theorem dL_acts_246 : decode cL_acts 246 = .ok (.aload_n 0, 1) := by decide +kernel
theorem dL_acts_247 : decode cL_acts 247 = .ok (.iconst 4, 1) := by decide +kernel
theorem dL_acts_248 : decode cL_acts 248 = .ok (.iload 5, 2) := by decide +kernel
theorem dL_acts_250 : decode cL_acts 250 = .ok (.iadd, 1) := by decide +kernel
theorem dL_acts_251 : decode cL_acts 251 = .ok (.invokestatic 88, 3) := by decide +kernel
theorem dL_acts_254 : decode cL_acts 254 = .ok (.istore 6, 2) := by decide +kernel
theorem dL_acts_256 : decode cL_acts 256 = .ok (.iload 5, 2) := by decide +kernel
theorem dL_acts_258 : decode cL_acts 258 = .ok (.iconst 1, 1) := by decide +kernel
theorem dL_acts_259 : decode cL_acts 259 = .ok (.if_icmp .ne 15, 3) := by decide +kernel
theorem dL_acts_262 : decode cL_acts 262 = .ok (.iconst 1, 1) := by decide +kernel
theorem dL_acts_263 : decode cL_acts 263 = .ok (.iload_n 3, 1) := by decide +kernel
theorem dL_acts_264 : decode cL_acts 264 = .ok (.iconst 2, 1) := by decide +kernel
theorem dL_acts_265 : decode cL_acts 265 = .ok (.ishr, 1) := by decide +kernel
theorem dL_acts_266 : decode cL_acts 266 = .ok (.iconst 3, 1) := by decide +kernel
theorem dL_acts_267 : decode cL_acts 267 = .ok (.invokestatic 158, 3) := by decide +kernel
theorem dL_acts_270 : decode cL_acts 270 = .ok (.iadd, 1) := by decide +kernel
theorem dL_acts_271 : decode cL_acts 271 = .ok (.goto 11, 3) := by decide +kernel
theorem dL_acts_274 : decode cL_acts 274 = .ok (.iload_n 3, 1) := by decide +kernel
theorem dL_acts_275 : decode cL_acts 275 = .ok (.iconst 2, 1) := by decide +kernel
theorem dL_acts_276 : decode cL_acts 276 = .ok (.ishr, 1) := by decide +kernel
theorem dL_acts_277 : decode cL_acts 277 = .ok (.bipush 6, 2) := by decide +kernel
theorem dL_acts_279 : decode cL_acts 279 = .ok (.invokestatic 158, 3) := by decide +kernel
theorem dL_acts_282 : decode cL_acts 282 = .ok (.istore 7, 2) := by decide +kernel
theorem dL_acts_284 : decode cL_acts 284 = .ok (.aload_n 0, 1) := by decide +kernel
theorem dL_acts_285 : decode cL_acts 285 = .ok (.iload 5, 2) := by decide +kernel
theorem dL_acts_287 : decode cL_acts 287 = .ok (.iload 7, 2) := by decide +kernel
theorem dL_acts_289 : decode cL_acts 289 = .ok (.invokestatic 123, 3) := by decide +kernel
theorem dL_acts_292 : decode cL_acts 292 = .ok (.iload 6, 2) := by decide +kernel
theorem dL_acts_294 : decode cL_acts 294 = .ok (.if_icmp .ne 20, 3) := by decide +kernel
theorem dL_acts_297 : decode cL_acts 297 = .ok (.aload_n 0, 1) := by decide +kernel
theorem dL_acts_298 : decode cL_acts 298 = .ok (.iconst 4, 1) := by decide +kernel
theorem dL_acts_299 : decode cL_acts 299 = .ok (.iload 5, 2) := by decide +kernel
theorem dL_acts_301 : decode cL_acts 301 = .ok (.iadd, 1) := by decide +kernel
theorem dL_acts_302 : decode cL_acts 302 = .ok (.invokestatic 88, 3) := by decide +kernel
theorem dL_acts_305 : decode cL_acts 305 = .ok (.iload 7, 2) := by decide +kernel
theorem dL_acts_307 : decode cL_acts 307 = .ok (.if_icmp .ne 7, 3) := by decide +kernel
theorem dL_acts_310 : decode cL_acts 310 = .ok (.iconst 1, 1) := by decide +kernel
theorem dL_acts_311 : decode cL_acts 311 = .ok (.goto 4, 3) := by decide +kernel
theorem dL_acts_314 : decode cL_acts 314 = .ok (.iconst 0, 1) := by decide +kernel
theorem dL_acts_315 : decode cL_acts 315 = .ok (.ireturn, 1) := by decide +kernel
theorem dL_acts_316 : decode cL_acts 316 = .ok (.aload_n 0, 1) := by decide +kernel
theorem dL_acts_317 : decode cL_acts 317 = .ok (.iconst 0, 1) := by decide +kernel
theorem dL_acts_318 : decode cL_acts 318 = .ok (.invokestatic 88, 3) := by decide +kernel
theorem dL_acts_321 : decode cL_acts 321 = .ok (.istore 5, 2) := by decide +kernel
theorem dL_acts_323 : decode cL_acts 323 = .ok (.aload_n 0, 1) := by decide +kernel
theorem dL_acts_324 : decode cL_acts 324 = .ok (.iload_n 3, 1) := by decide +kernel
theorem dL_acts_325 : decode cL_acts 325 = .ok (.iconst 3, 1) := by decide +kernel
theorem dL_acts_326 : decode cL_acts 326 = .ok (.invokestatic 158, 3) := by decide +kernel
theorem dL_acts_329 : decode cL_acts 329 = .ok (.iload_n 3, 1) := by decide +kernel
theorem dL_acts_330 : decode cL_acts 330 = .ok (.iconst 2, 1) := by decide +kernel
theorem dL_acts_331 : decode cL_acts 331 = .ok (.ishr, 1) := by decide +kernel
theorem dL_acts_332 : decode cL_acts 332 = .ok (.iconst 3, 1) := by decide +kernel
theorem dL_acts_333 : decode cL_acts 333 = .ok (.invokestatic 158, 3) := by decide +kernel
theorem dL_acts_336 : decode cL_acts 336 = .ok (.iload_n 3, 1) := by decide +kernel
theorem dL_acts_337 : decode cL_acts 337 = .ok (.iconst 4, 1) := by decide +kernel
theorem dL_acts_338 : decode cL_acts 338 = .ok (.ishr, 1) := by decide +kernel
theorem dL_acts_339 : decode cL_acts 339 = .ok (.bipush 16, 2) := by decide +kernel
theorem dL_acts_341 : decode cL_acts 341 = .ok (.invokestatic 158, 3) := by decide +kernel
theorem dL_acts_344 : decode cL_acts 344 = .ok (.invokestatic 111, 3) := by decide +kernel
theorem dL_acts_347 : decode cL_acts 347 = .ok (.istore 6, 2) := by decide +kernel
theorem dL_acts_349 : decode cL_acts 349 = .ok (.iload 6, 2) := by decide +kernel
theorem dL_acts_351 : decode cL_acts 351 = .ok (.iload 5, 2) := by decide +kernel
theorem dL_acts_353 : decode cL_acts 353 = .ok (.bipush 8, 2) := by decide +kernel
theorem dL_acts_355 : decode cL_acts 355 = .ok (.if_icmp .ne 8, 3) := by decide +kernel
theorem dL_acts_358 : decode cL_acts 358 = .ok (.ldc 23, 2) := by decide +kernel
theorem dL_acts_360 : decode cL_acts 360 = .ok (.goto 5, 3) := by decide +kernel
theorem dL_acts_363 : decode cL_acts 363 = .ok (.iload 5, 2) := by decide +kernel
theorem dL_acts_365 : decode cL_acts 365 = .ok (.if_icmp .ne 48, 3) := by decide +kernel
theorem dL_acts_368 : decode cL_acts 368 = .ok (.iload 5, 2) := by decide +kernel
theorem dL_acts_370 : decode cL_acts 370 = .ok (.bipush 8, 2) := by decide +kernel
theorem dL_acts_372 : decode cL_acts 372 = .ok (.if_icmp .eq 37, 3) := by decide +kernel
theorem dL_acts_375 : decode cL_acts 375 = .ok (.aload_n 0, 1) := by decide +kernel
theorem dL_acts_376 : decode cL_acts 376 = .ok (.iload 5, 2) := by decide +kernel
theorem dL_acts_378 : decode cL_acts 378 = .ok (.iconst 4, 1) := by decide +kernel
theorem dL_acts_379 : decode cL_acts 379 = .ok (.invokestatic 93, 3) := by decide +kernel
theorem dL_acts_382 : decode cL_acts 382 = .ok (.iload_n 3, 1) := by decide +kernel
theorem dL_acts_383 : decode cL_acts 383 = .ok (.iconst 4, 1) := by decide +kernel
theorem dL_acts_384 : decode cL_acts 384 = .ok (.ishr, 1) := by decide +kernel
theorem dL_acts_385 : decode cL_acts 385 = .ok (.bipush 16, 2) := by decide +kernel
theorem dL_acts_387 : decode cL_acts 387 = .ok (.invokestatic 158, 3) := by decide +kernel
theorem dL_acts_390 : decode cL_acts 390 = .ok (.if_icmp .ne 23, 3) := by decide +kernel
theorem dL_acts_393 : decode cL_acts 393 = .ok (.aload_n 0, 1) := by decide +kernel
theorem dL_acts_394 : decode cL_acts 394 = .ok (.iload 5, 2) := by decide +kernel
theorem dL_acts_396 : decode cL_acts 396 = .ok (.iconst 0, 1) := by decide +kernel
theorem dL_acts_397 : decode cL_acts 397 = .ok (.iconst 1, 1) := by decide +kernel
theorem dL_acts_398 : decode cL_acts 398 = .ok (.invokestatic 97, 3) := by decide +kernel
theorem dL_acts_401 : decode cL_acts 401 = .ok (.aload_n 0, 1) := by decide +kernel
theorem dL_acts_402 : decode cL_acts 402 = .ok (.iconst 3, 1) := by decide +kernel
theorem dL_acts_403 : decode cL_acts 403 = .ok (.invokestatic 88, 3) := by decide +kernel
theorem dL_acts_406 : decode cL_acts 406 = .ok (.if_icmp .ne 7, 3) := by decide +kernel
theorem dL_acts_409 : decode cL_acts 409 = .ok (.iconst 1, 1) := by decide +kernel
theorem dL_acts_410 : decode cL_acts 410 = .ok (.goto 4, 3) := by decide +kernel
theorem dL_acts_413 : decode cL_acts 413 = .ok (.iconst 0, 1) := by decide +kernel
theorem dL_acts_414 : decode cL_acts 414 = .ok (.ireturn, 1) := by decide +kernel
theorem dL_acts_415 : decode cL_acts 415 = .ok (.aload_n 0, 1) := by decide +kernel
theorem dL_acts_416 : decode cL_acts 416 = .ok (.iload 4, 2) := by decide +kernel
theorem dL_acts_418 : decode cL_acts 418 = .ok (.iconst 5, 1) := by decide +kernel
theorem dL_acts_419 : decode cL_acts 419 = .ok (.invokestatic 93, 3) := by decide +kernel
theorem dL_acts_422 : decode cL_acts 422 = .ok (.istore 5, 2) := by decide +kernel
theorem dL_acts_424 : decode cL_acts 424 = .ok (.aload_n 0, 1) := by decide +kernel
theorem dL_acts_425 : decode cL_acts 425 = .ok (.iload 4, 2) := by decide +kernel
theorem dL_acts_427 : decode cL_acts 427 = .ok (.bipush 6, 2) := by decide +kernel
theorem dL_acts_429 : decode cL_acts 429 = .ok (.invokestatic 93, 3) := by decide +kernel
theorem dL_acts_432 : decode cL_acts 432 = .ok (.istore 6, 2) := by decide +kernel
theorem dL_acts_434 : decode cL_acts 434 = .ok (.aload_n 0, 1) := by decide +kernel
theorem dL_acts_435 : decode cL_acts 435 = .ok (.bipush 11, 2) := by decide +kernel
theorem dL_acts_437 : decode cL_acts 437 = .ok (.invokestatic 88, 3) := by decide +kernel
theorem dL_acts_440 : decode cL_acts 440 = .ok (.istore 7, 2) := by decide +kernel
theorem dL_acts_442 : decode cL_acts 442 = .ok (.iload_n 3, 1) := by decide +kernel
theorem dL_acts_443 : decode cL_acts 443 = .ok (.iconst 3, 1) := by decide +kernel
theorem dL_acts_444 : decode cL_acts 444 = .ok (.invokestatic 158, 3) := by decide +kernel
theorem dL_acts_447 : decode cL_acts 447 = .ok (.ifCond .ne 12, 3) := by decide +kernel
theorem dL_acts_450 : decode cL_acts 450 = .ok (.aload_n 0, 1) := by decide +kernel
theorem dL_acts_451 : decode cL_acts 451 = .ok (.iload 4, 2) := by decide +kernel
theorem dL_acts_453 : decode cL_acts 453 = .ok (.invokestatic 117, 3) := by decide +kernel
theorem dL_acts_456 : decode cL_acts 456 = .ok (.goto 15, 3) := by decide +kernel
theorem dL_acts_459 : decode cL_acts 459 = .ok (.iload 5, 2) := by decide +kernel
theorem dL_acts_461 : decode cL_acts 461 = .ok (.ifCond .ne 8, 3) := by decide +kernel
theorem dL_acts_464 : decode cL_acts 464 = .ok (.ldc 23, 2) := by decide +kernel
theorem dL_acts_466 : decode cL_acts 466 = .ok (.goto 5, 3) := by decide +kernel
theorem dL_acts_469 : decode cL_acts 469 = .ok (.iload 6, 2) := by decide +kernel
theorem dL_acts_471 : decode cL_acts 471 = .ok (.istore 8, 2) := by decide +kernel
theorem dL_acts_473 : decode cL_acts 473 = .ok (.iload 8, 2) := by decide +kernel
theorem dL_acts_475 : decode cL_acts 475 = .ok (.iload 5, 2) := by decide +kernel
theorem dL_acts_477 : decode cL_acts 477 = .ok (.ifCond .ne 8, 3) := by decide +kernel
theorem dL_acts_480 : decode cL_acts 480 = .ok (.ldc 23, 2) := by decide +kernel
theorem dL_acts_482 : decode cL_acts 482 = .ok (.goto 5, 3) := by decide +kernel
theorem dL_acts_485 : decode cL_acts 485 = .ok (.iload 6, 2) := by decide +kernel
theorem dL_acts_487 : decode cL_acts 487 = .ok (.if_icmp .ne 32, 3) := by decide +kernel
theorem dL_acts_490 : decode cL_acts 490 = .ok (.aload_n 0, 1) := by decide +kernel
theorem dL_acts_491 : decode cL_acts 491 = .ok (.bipush 11, 2) := by decide +kernel
theorem dL_acts_493 : decode cL_acts 493 = .ok (.invokestatic 88, 3) := by decide +kernel
theorem dL_acts_496 : decode cL_acts 496 = .ok (.iload 7, 2) := by decide +kernel
theorem dL_acts_498 : decode cL_acts 498 = .ok (.if_icmp .eq 17, 3) := by decide +kernel
theorem dL_acts_501 : decode cL_acts 501 = .ok (.aload_n 0, 1) := by decide +kernel
theorem dL_acts_502 : decode cL_acts 502 = .ok (.bipush 11, 2) := by decide +kernel
theorem dL_acts_504 : decode cL_acts 504 = .ok (.invokestatic 88, 3) := by decide +kernel
theorem dL_acts_507 : decode cL_acts 507 = .ok (.iload 7, 2) := by decide +kernel
theorem dL_acts_509 : decode cL_acts 509 = .ok (.iload 6, 2) := by decide +kernel
theorem dL_acts_511 : decode cL_acts 511 = .ok (.iadd, 1) := by decide +kernel
theorem dL_acts_512 : decode cL_acts 512 = .ok (.if_icmp .ne 7, 3) := by decide +kernel
theorem dL_acts_515 : decode cL_acts 515 = .ok (.iconst 1, 1) := by decide +kernel
theorem dL_acts_516 : decode cL_acts 516 = .ok (.goto 4, 3) := by decide +kernel
theorem dL_acts_519 : decode cL_acts 519 = .ok (.iconst 0, 1) := by decide +kernel
theorem dL_acts_520 : decode cL_acts 520 = .ok (.ireturn, 1) := by decide +kernel
theorem dL_law_0 : decode cL_law 0 = .ok (.new 10, 3) := by decide +kernel
theorem dL_law_3 : decode cL_law 3 = .ok (.dup, 1) := by decide +kernel
theorem dL_law_4 : decode cL_law 4 = .ok (.invokespecial 176, 3) := by decide +kernel
theorem dL_law_7 : decode cL_law 7 = .ok (.astore_n 1, 1) := by decide +kernel
theorem dL_law_8 : decode cL_law 8 = .ok (.aload_n 1, 1) := by decide +kernel
theorem dL_law_9 : decode cL_law 9 = .ok (.invokestatic 161, 3) := by decide +kernel
theorem dL_law_12 : decode cL_law 12 = .ok (.ldc 23, 2) := by decide +kernel
theorem dL_law_14 : decode cL_law 14 = .ok (.if_icmp .ne 22, 3) := by decide +kernel
theorem dL_law_17 : decode cL_law 17 = .ok (.aload_n 1, 1) := by decide +kernel
theorem dL_law_18 : decode cL_law 18 = .ok (.invokestatic 177, 3) := by decide +kernel
theorem dL_law_21 : decode cL_law 21 = .ok (.ifCond .eq 15, 3) := by decide +kernel
theorem dL_law_24 : decode cL_law 24 = .ok (.aload_n 1, 1) := by decide +kernel
theorem dL_law_25 : decode cL_law 25 = .ok (.iconst 3, 1) := by decide +kernel
theorem dL_law_26 : decode cL_law 26 = .ok (.invokestatic 180, 3) := by decide +kernel
theorem dL_law_29 : decode cL_law 29 = .ok (.ifCond .eq 7, 3) := by decide +kernel
theorem dL_law_32 : decode cL_law 32 = .ok (.iconst 1, 1) := by decide +kernel
theorem dL_law_33 : decode cL_law 33 = .ok (.goto 4, 3) := by decide +kernel
theorem dL_law_36 : decode cL_law 36 = .ok (.iconst 0, 1) := by decide +kernel
theorem dL_law_37 : decode cL_law 37 = .ok (.istore_n 2, 1) := by decide +kernel
theorem dL_law_38 : decode cL_law 38 = .ok (.iconst 0, 1) := by decide +kernel
theorem dL_law_39 : decode cL_law 39 = .ok (.istore_n 3, 1) := by decide +kernel
theorem dL_law_40 : decode cL_law 40 = .ok (.iload_n 3, 1) := by decide +kernel
theorem dL_law_41 : decode cL_law 41 = .ok (.iconst 3, 1) := by decide +kernel
theorem dL_law_42 : decode cL_law 42 = .ok (.if_icmp .ge 60, 3) := by decide +kernel
theorem dL_law_45 : decode cL_law 45 = .ok (.iload_n 2, 1) := by decide +kernel
theorem dL_law_46 : decode cL_law 46 = .ok (.ifCond .eq 56, 3) := by decide +kernel
theorem dL_law_49 : decode cL_law 49 = .ok (.aload_n 0, 1) := by decide +kernel
theorem dL_law_50 : decode cL_law 50 = .ok (.bipush 80, 2) := by decide +kernel
theorem dL_law_52 : decode cL_law 52 = .ok (.iload_n 3, 1) := by decide +kernel
theorem dL_law_53 : decode cL_law 53 = .ok (.iadd, 1) := by decide +kernel
theorem dL_law_54 : decode cL_law 54 = .ok (.invokestatic 183, 3) := by decide +kernel
theorem dL_law_57 : decode cL_law 57 = .ok (.istore 4, 2) := by decide +kernel
theorem dL_law_59 : decode cL_law 59 = .ok (.aload_n 1, 1) := by decide +kernel
theorem dL_law_60 : decode cL_law 60 = .ok (.iload 4, 2) := by decide +kernel
theorem dL_law_62 : decode cL_law 62 = .ok (.iconst 2, 1) := by decide +kernel
theorem dL_law_63 : decode cL_law 63 = .ok (.invokestatic 158, 3) := by decide +kernel
theorem dL_law_66 : decode cL_law 66 = .ok (.iload 4, 2) := by decide +kernel
theorem dL_law_68 : decode cL_law 68 = .ok (.iconst 2, 1) := by decide +kernel
theorem dL_law_69 : decode cL_law 69 = .ok (.ishr, 1) := by decide +kernel
theorem dL_law_70 : decode cL_law 70 = .ok (.iconst 3, 1) := by decide +kernel
theorem dL_law_71 : decode cL_law 71 = .ok (.invokestatic 158, 3) := by decide +kernel
theorem dL_law_74 : decode cL_law 74 = .ok (.iload 4, 2) := by decide +kernel
theorem dL_law_76 : decode cL_law 76 = .ok (.iconst 4, 1) := by decide +kernel
theorem dL_law_77 : decode cL_law 77 = .ok (.ishr, 1) := by decide +kernel
theorem dL_law_78 : decode cL_law 78 = .ok (.bipush 16, 2) := by decide +kernel
theorem dL_law_80 : decode cL_law 80 = .ok (.invokestatic 158, 3) := by decide +kernel
theorem dL_law_83 : decode cL_law 83 = .ok (.invokestatic 111, 3) := by decide +kernel
theorem dL_law_86 : decode cL_law 86 = .ok (.iload_n 3, 1) := by decide +kernel
theorem dL_law_87 : decode cL_law 87 = .ok (.if_icmp .ne 7, 3) := by decide +kernel
theorem dL_law_90 : decode cL_law 90 = .ok (.iconst 1, 1) := by decide +kernel
theorem dL_law_91 : decode cL_law 91 = .ok (.goto 4, 3) := by decide +kernel
theorem dL_law_94 : decode cL_law 94 = .ok (.iconst 0, 1) := by decide +kernel
theorem dL_law_95 : decode cL_law 95 = .ok (.istore_n 2, 1) := by decide +kernel
theorem dL_law_96 : decode cL_law 96 = .ok (.iinc 3 1, 3) := by decide +kernel
theorem dL_law_99 : decode cL_law 99 = .ok (.goto (-59), 3) := by decide +kernel
theorem dL_law_102 : decode cL_law 102 = .ok (.iconst 0, 1) := by decide +kernel
theorem dL_law_103 : decode cL_law 103 = .ok (.istore_n 3, 1) := by decide +kernel
theorem dL_law_104 : decode cL_law 104 = .ok (.iload_n 3, 1) := by decide +kernel
theorem dL_law_105 : decode cL_law 105 = .ok (.bipush 40, 2) := by decide +kernel
theorem dL_law_107 : decode cL_law 107 = .ok (.if_icmp .ge 222, 3) := by decide +kernel
theorem dL_law_110 : decode cL_law 110 = .ok (.iload_n 2, 1) := by decide +kernel
theorem dL_law_111 : decode cL_law 111 = .ok (.ifCond .eq 218, 3) := by decide +kernel
theorem dL_law_114 : decode cL_law 114 = .ok (.aload_n 0, 1) := by decide +kernel
theorem dL_law_115 : decode cL_law 115 = .ok (.iconst 2, 1) := by decide +kernel
theorem dL_law_116 : decode cL_law 116 = .ok (.iload_n 3, 1) := by decide +kernel
theorem dL_law_117 : decode cL_law 117 = .ok (.imul, 1) := by decide +kernel
theorem dL_law_118 : decode cL_law 118 = .ok (.invokestatic 183, 3) := by decide +kernel
theorem dL_law_121 : decode cL_law 121 = .ok (.istore 4, 2) := by decide +kernel
theorem dL_law_123 : decode cL_law 123 = .ok (.aload_n 0, 1) := by decide +kernel
theorem dL_law_124 : decode cL_law 124 = .ok (.iconst 2, 1) := by decide +kernel
theorem dL_law_125 : decode cL_law 125 = .ok (.iload_n 3, 1) := by decide +kernel
theorem dL_law_126 : decode cL_law 126 = .ok (.imul, 1) := by decide +kernel
theorem dL_law_127 : decode cL_law 127 = .ok (.iconst 1, 1) := by decide +kernel
theorem dL_law_128 : decode cL_law 128 = .ok (.iadd, 1) := by decide +kernel
theorem dL_law_129 : decode cL_law 129 = .ok (.invokestatic 183, 3) := by decide +kernel
theorem dL_law_132 : decode cL_law 132 = .ok (.istore 5, 2) := by decide +kernel
theorem dL_law_134 : decode cL_law 134 = .ok (.aload_n 1, 1) := by decide +kernel
theorem dL_law_135 : decode cL_law 135 = .ok (.iload 4, 2) := by decide +kernel
theorem dL_law_137 : decode cL_law 137 = .ok (.iconst 5, 1) := by decide +kernel
theorem dL_law_138 : decode cL_law 138 = .ok (.ishr, 1) := by decide +kernel
theorem dL_law_139 : decode cL_law 139 = .ok (.bipush 13, 2) := by decide +kernel
theorem dL_law_141 : decode cL_law 141 = .ok (.invokestatic 158, 3) := by decide +kernel
theorem dL_law_144 : decode cL_law 144 = .ok (.iload 4, 2) := by decide +kernel
theorem dL_law_146 : decode cL_law 146 = .ok (.bipush 9, 2) := by decide +kernel
theorem dL_law_148 : decode cL_law 148 = .ok (.ishr, 1) := by decide +kernel
theorem dL_law_149 : decode cL_law 149 = .ok (.iload 5, 2) := by decide +kernel
theorem dL_law_151 : decode cL_law 151 = .ok (.invokestatic 187, 3) := by decide +kernel
theorem dL_law_154 : decode cL_law 154 = .ok (.ifCond .eq 60, 3) := by decide +kernel
theorem dL_law_157 : decode cL_law 157 = .ok (.aload_n 1, 1) := by decide +kernel
theorem dL_law_158 : decode cL_law 158 = .ok (.iload 4, 2) := by decide +kernel
theorem dL_law_160 : decode cL_law 160 = .ok (.iload 5, 2) := by decide +kernel
theorem dL_law_162 : decode cL_law 162 = .ok (.ixor, 1) := by decide +kernel
theorem dL_law_163 : decode cL_law 163 = .ok (.invokestatic 180, 3) := by decide +kernel
theorem dL_law_166 : decode cL_law 166 = .ok (.ifCond .eq 48, 3) := by decide +kernel
theorem dL_law_169 : decode cL_law 169 = .ok (.iload_n 3, 1) := by decide +kernel
theorem dL_law_170 : decode cL_law 170 = .ok (.bipush 7, 2) := by decide +kernel
theorem dL_law_172 : decode cL_law 172 = .ok (.irem, 1) := by decide +kernel
theorem dL_law_173 : decode cL_law 173 = .ok (.iconst 5, 1) := by decide +kernel
theorem dL_law_174 : decode cL_law 174 = .ok (.if_icmp .ne 10, 3) := by decide +kernel
theorem dL_law_177 : decode cL_law 177 = .ok (.aload_n 1, 1) := by decide +kernel
theorem dL_law_178 : decode cL_law 178 = .ok (.invokestatic 177, 3) := by decide +kernel
theorem dL_law_181 : decode cL_law 181 = .ok (.ifCond .eq 33, 3) := by decide +kernel
theorem dL_law_184 : decode cL_law 184 = .ok (.iload_n 3, 1) := by decide +kernel
theorem dL_law_185 : decode cL_law 185 = .ok (.iconst 3, 1) := by decide +kernel
theorem dL_law_186 : decode cL_law 186 = .ok (.irem, 1) := by decide +kernel
theorem dL_law_187 : decode cL_law 187 = .ok (.iconst 1, 1) := by decide +kernel
theorem dL_law_188 : decode cL_law 188 = .ok (.if_icmp .ne 22, 3) := by decide +kernel
theorem dL_law_191 : decode cL_law 191 = .ok (.aload_n 1, 1) := by decide +kernel
theorem dL_law_192 : decode cL_law 192 = .ok (.iload 5, 2) := by decide +kernel
theorem dL_law_194 : decode cL_law 194 = .ok (.iconst 5, 1) := by decide +kernel
theorem dL_law_195 : decode cL_law 195 = .ok (.ishr, 1) := by decide +kernel
theorem dL_law_196 : decode cL_law 196 = .ok (.aload_n 1, 1) := by decide +kernel
theorem dL_law_197 : decode cL_law 197 = .ok (.iconst 0, 1) := by decide +kernel
theorem dL_law_198 : decode cL_law 198 = .ok (.invokestatic 88, 3) := by decide +kernel
theorem dL_law_201 : decode cL_law 201 = .ok (.invokestatic 158, 3) := by decide +kernel
theorem dL_law_204 : decode cL_law 204 = .ok (.invokestatic 191, 3) := by decide +kernel
theorem dL_law_207 : decode cL_law 207 = .ok (.ifCond .eq 7, 3) := by decide +kernel
theorem dL_law_210 : decode cL_law 210 = .ok (.iconst 1, 1) := by decide +kernel
theorem dL_law_211 : decode cL_law 211 = .ok (.goto 4, 3) := by decide +kernel
theorem dL_law_214 : decode cL_law 214 = .ok (.iconst 0, 1) := by decide +kernel
theorem dL_law_215 : decode cL_law 215 = .ok (.istore_n 2, 1) := by decide +kernel
theorem dL_law_216 : decode cL_law 216 = .ok (.iload_n 2, 1) := by decide +kernel
theorem dL_law_217 : decode cL_law 217 = .ok (.ifCond .eq 106, 3) := by decide +kernel
theorem dL_law_220 : decode cL_law 220 = .ok (.iload_n 3, 1) := by decide +kernel
theorem dL_law_221 : decode cL_law 221 = .ok (.iconst 5, 1) := by decide +kernel
theorem dL_law_222 : decode cL_law 222 = .ok (.irem, 1) := by decide +kernel
theorem dL_law_223 : decode cL_law 223 = .ok (.iconst 4, 1) := by decide +kernel
theorem dL_law_224 : decode cL_law 224 = .ok (.if_icmp .ne 99, 3) := by decide +kernel
theorem dL_law_227 : decode cL_law 227 = .ok (.aload_n 1, 1) := by decide +kernel
theorem dL_law_228 : decode cL_law 228 = .ok (.invokestatic 107, 3) := by decide +kernel
theorem dL_law_231 : decode cL_law 231 = .ok (.lstore 6, 2) := by decide +kernel
theorem dL_law_233 : decode cL_law 233 = .ok (.aload_n 1, 1) := by decide +kernel
theorem dL_law_234 : decode cL_law 234 = .ok (.iconst 3, 1) := by decide +kernel
theorem dL_law_235 : decode cL_law 235 = .ok (.iload 4, 2) := by decide +kernel
theorem dL_law_237 : decode cL_law 237 = .ok (.bipush 21, 2) := by decide +kernel
theorem dL_law_239 : decode cL_law 239 = .ok (.invokestatic 158, 3) := by decide +kernel
theorem dL_law_242 : decode cL_law 242 = .ok (.invokestatic 123, 3) := by decide +kernel
theorem dL_law_245 : decode cL_law 245 = .ok (.ifCond .lt 76, 3) := by decide +kernel
theorem dL_law_248 : decode cL_law 248 = .ok (.aload_n 1, 1) := by decide +kernel
theorem dL_law_249 : decode cL_law 249 = .ok (.iconst 1, 1) := by decide +kernel
theorem dL_law_250 : decode cL_law 250 = .ok (.iload 5, 2) := by decide +kernel
theorem dL_law_252 : decode cL_law 252 = .ok (.bipush 9, 2) := by decide +kernel
theorem dL_law_254 : decode cL_law 254 = .ok (.invokestatic 158, 3) := by decide +kernel
theorem dL_law_257 : decode cL_law 257 = .ok (.iadd, 1) := by decide +kernel
theorem dL_law_258 : decode cL_law 258 = .ok (.invokestatic 129, 3) := by decide +kernel
theorem dL_law_261 : decode cL_law 261 = .ok (.ifCond .lt 60, 3) := by decide +kernel
theorem dL_law_264 : decode cL_law 264 = .ok (.aload_n 1, 1) := by decide +kernel
theorem dL_law_265 : decode cL_law 265 = .ok (.iconst 0, 1) := by decide +kernel
theorem dL_law_266 : decode cL_law 266 = .ok (.iconst 0, 1) := by decide +kernel
theorem dL_law_267 : decode cL_law 267 = .ok (.iconst 0, 1) := by decide +kernel
theorem dL_law_268 : decode cL_law 268 = .ok (.invokestatic 126, 3) := by decide +kernel
theorem dL_law_271 : decode cL_law 271 = .ok (.ldc 23, 2) := by decide +kernel
theorem dL_law_273 : decode cL_law 273 = .ok (.if_icmp .lt 48, 3) := by decide +kernel
theorem dL_law_276 : decode cL_law 276 = .ok (.aload_n 1, 1) := by decide +kernel
theorem dL_law_277 : decode cL_law 277 = .ok (.invokestatic 161, 3) := by decide +kernel
theorem dL_law_280 : decode cL_law 280 = .ok (.ifCond .lt 41, 3) := by decide +kernel
theorem dL_law_283 : decode cL_law 283 = .ok (.aload_n 1, 1) := by decide +kernel
theorem dL_law_284 : decode cL_law 284 = .ok (.invokestatic 161, 3) := by decide +kernel
theorem dL_law_287 : decode cL_law 287 = .ok (.ifCond .lt 34, 3) := by decide +kernel
theorem dL_law_290 : decode cL_law 290 = .ok (.aload_n 1, 1) := by decide +kernel
theorem dL_law_291 : decode cL_law 291 = .ok (.iconst 2, 1) := by decide +kernel
theorem dL_law_292 : decode cL_law 292 = .ok (.invokestatic 88, 3) := by decide +kernel
theorem dL_law_295 : decode cL_law 295 = .ok (.bipush 60, 2) := by decide +kernel
theorem dL_law_297 : decode cL_law 297 = .ok (.if_icmp .eq 10, 3) := by decide +kernel
theorem dL_law_300 : decode cL_law 300 = .ok (.aload_n 1, 1) := by decide +kernel
theorem dL_law_301 : decode cL_law 301 = .ok (.invokestatic 161, 3) := by decide +kernel
theorem dL_law_304 : decode cL_law 304 = .ok (.ifCond .lt 17, 3) := by decide +kernel
theorem dL_law_307 : decode cL_law 307 = .ok (.aload_n 1, 1) := by decide +kernel
theorem dL_law_308 : decode cL_law 308 = .ok (.invokestatic 107, 3) := by decide +kernel
theorem dL_law_311 : decode cL_law 311 = .ok (.lload 6, 2) := by decide +kernel
theorem dL_law_313 : decode cL_law 313 = .ok (.lcmp, 1) := by decide +kernel
theorem dL_law_314 : decode cL_law 314 = .ok (.ifCond .ne 7, 3) := by decide +kernel
theorem dL_law_317 : decode cL_law 317 = .ok (.iconst 1, 1) := by decide +kernel
theorem dL_law_318 : decode cL_law 318 = .ok (.goto 4, 3) := by decide +kernel
theorem dL_law_321 : decode cL_law 321 = .ok (.iconst 0, 1) := by decide +kernel
theorem dL_law_322 : decode cL_law 322 = .ok (.istore_n 2, 1) := by decide +kernel
theorem dL_law_323 : decode cL_law 323 = .ok (.iinc 3 1, 3) := by decide +kernel
theorem dL_law_326 : decode cL_law 326 = .ok (.goto (-222), 3) := by decide +kernel
theorem dL_law_329 : decode cL_law 329 = .ok (.iload_n 2, 1) := by decide +kernel
theorem dL_law_330 : decode cL_law 330 = .ok (.ifCond .eq 14, 3) := by decide +kernel
theorem dL_law_333 : decode cL_law 333 = .ok (.aload_n 1, 1) := by decide +kernel
theorem dL_law_334 : decode cL_law 334 = .ok (.invokestatic 177, 3) := by decide +kernel
theorem dL_law_337 : decode cL_law 337 = .ok (.ifCond .eq 7, 3) := by decide +kernel
theorem dL_law_340 : decode cL_law 340 = .ok (.iconst 1, 1) := by decide +kernel
theorem dL_law_341 : decode cL_law 341 = .ok (.goto 4, 3) := by decide +kernel
theorem dL_law_344 : decode cL_law 344 = .ok (.iconst 0, 1) := by decide +kernel
theorem dL_law_345 : decode cL_law 345 = .ok (.ireturn, 1) := by decide +kernel
