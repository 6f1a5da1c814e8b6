/-! what the tables say, word by word (printed) -/
theorem wd_348 : Cond.code yX5_cutSheet cX5_cutSheet 2 (some .int) ∈ m_gd := List.mem_filter.mpr ⟨List.mem_of_getElem? (i := 302) (by decide +kernel), by decide +kernel⟩
theorem wd_349 : Cond.methodLink RL 55 yX5_cutPack ∈ m_gd := List.mem_filter.mpr ⟨List.mem_of_getElem? (i := 330) (by decide +kernel), by decide +kernel⟩
theorem wd_350 : Cond.instanceMethod yX5_cutPack ∈ m_gd := List.mem_filter.mpr ⟨List.mem_of_getElem? (i := 331) (by decide +kernel), by decide +kernel⟩
theorem wd_351 : Cond.selects RX5 yX5_cutPack yX5_cutPack ∈ m_gd := List.mem_filter.mpr ⟨List.mem_of_getElem? (i := 332) (by decide +kernel), by decide +kernel⟩
theorem wd_352 : Cond.code yX5_cutPack cX5_cutPack 3 (some .int) ∈ m_gd := List.mem_filter.mpr ⟨List.mem_of_getElem? (i := 333) (by decide +kernel), by decide +kernel⟩
theorem wd_353 : Cond.methodLink RL 58 yX5_shuffle ∈ m_gd := List.mem_filter.mpr ⟨List.mem_of_getElem? (i := 352) (by decide +kernel), by decide +kernel⟩
theorem wd_354 : Cond.instanceMethod yX5_shuffle ∈ m_gd := List.mem_filter.mpr ⟨List.mem_of_getElem? (i := 353) (by decide +kernel), by decide +kernel⟩
theorem wd_355 : Cond.selects RX5 yX5_shuffle yX5_shuffle ∈ m_gd := List.mem_filter.mpr ⟨List.mem_of_getElem? (i := 354) (by decide +kernel), by decide +kernel⟩
theorem wd_356 : Cond.code yX5_shuffle cX5_shuffle 3 (some .int) ∈ m_gd := List.mem_filter.mpr ⟨List.mem_of_getElem? (i := 355) (by decide +kernel), by decide +kernel⟩
theorem wd_357 : Cond.methodLink RL 61 yX5_deal ∈ m_gd := List.mem_filter.mpr ⟨List.mem_of_getElem? (i := 363) (by decide +kernel), by decide +kernel⟩
theorem wd_358 : Cond.instanceMethod yX5_deal ∈ m_gd := List.mem_filter.mpr ⟨List.mem_of_getElem? (i := 364) (by decide +kernel), by decide +kernel⟩
theorem wd_359 : Cond.selects RX5 yX5_deal yX5_deal ∈ m_gd := List.mem_filter.mpr ⟨List.mem_of_getElem? (i := 365) (by decide +kernel), by decide +kernel⟩
theorem wd_360 : Cond.code yX5_deal cX5_deal 3 (some .int) ∈ m_gd := List.mem_filter.mpr ⟨List.mem_of_getElem? (i := 366) (by decide +kernel), by decide +kernel⟩
theorem wd_361 : Cond.methodLink RL 64 yX5_sell ∈ m_gd := List.mem_filter.mpr ⟨List.mem_of_getElem? (i := 368) (by decide +kernel), by decide +kernel⟩
theorem wd_362 : Cond.instanceMethod yX5_sell ∈ m_gd := List.mem_filter.mpr ⟨List.mem_of_getElem? (i := 369) (by decide +kernel), by decide +kernel⟩
theorem wd_363 : Cond.selects RX5 yX5_sell yX5_sell ∈ m_gd := List.mem_filter.mpr ⟨List.mem_of_getElem? (i := 370) (by decide +kernel), by decide +kernel⟩
theorem wd_364 : Cond.code yX5_sell cX5_sell 3 (some .int) ∈ m_gd := List.mem_filter.mpr ⟨List.mem_of_getElem? (i := 371) (by decide +kernel), by decide +kernel⟩
theorem wd_365 : Cond.methodLink RL 68 yX5_pulp ∈ m_gd := List.mem_filter.mpr ⟨List.mem_of_getElem? (i := 403) (by decide +kernel), by decide +kernel⟩
theorem wd_366 : Cond.instanceMethod yX5_pulp ∈ m_gd := List.mem_filter.mpr ⟨List.mem_of_getElem? (i := 404) (by decide +kernel), by decide +kernel⟩
theorem wd_367 : Cond.selects RX5 yX5_pulp yX5_pulp ∈ m_gd := List.mem_filter.mpr ⟨List.mem_of_getElem? (i := 405) (by decide +kernel), by decide +kernel⟩
theorem wd_368 : Cond.code yX5_pulp cX5_pulp 2 (some .int) ∈ m_gd := List.mem_filter.mpr ⟨List.mem_of_getElem? (i := 406) (by decide +kernel), by decide +kernel⟩
theorem wd_369 : Cond.methodLink RL 71 yL_court ∈ m_gd := List.mem_filter.mpr ⟨List.mem_of_getElem? (i := 410) (by decide +kernel), by decide +kernel⟩
theorem wd_370 : Cond.static yL_court ∈ m_gd := List.mem_filter.mpr ⟨List.mem_of_getElem? (i := 411) (by decide +kernel), by decide +kernel⟩
set_option maxRecDepth 100000 in
theorem wd_371 : Cond.code yL_court cL_court 1 (some .int) ∈ m_gd := List.mem_filter.mpr ⟨List.mem_of_getElem? (i := 412) (by rfl), by decide +kernel⟩
theorem wd_372 : Cond.methodLink RL 74 yL_cuts ∈ m_gd := List.mem_filter.mpr ⟨List.mem_of_getElem? (i := 416) (by decide +kernel), by decide +kernel⟩
theorem wd_373 : Cond.static yL_cuts ∈ m_gd := List.mem_filter.mpr ⟨List.mem_of_getElem? (i := 417) (by decide +kernel), by decide +kernel⟩
set_option maxRecDepth 100000 in
theorem wd_374 : Cond.code yL_cuts cL_cuts 8 none ∈ m_gd := List.mem_filter.mpr ⟨List.mem_of_getElem? (i := 418) (by rfl), by decide +kernel⟩
theorem wd_375 : Cond.methodLink RL 78 yL_turns ∈ m_gd := List.mem_filter.mpr ⟨List.mem_of_getElem? (i := 425) (by decide +kernel), by decide +kernel⟩
theorem wd_376 : Cond.static yL_turns ∈ m_gd := List.mem_filter.mpr ⟨List.mem_of_getElem? (i := 426) (by decide +kernel), by decide +kernel⟩
set_option maxRecDepth 100000 in
theorem wd_377 : Cond.code yL_turns cL_turns 6 none ∈ m_gd := List.mem_filter.mpr ⟨List.mem_of_getElem? (i := 427) (by rfl), by decide +kernel⟩
theorem wd_378 : Cond.methodLink RL 82 yL_shuffles ∈ m_gd := List.mem_filter.mpr ⟨List.mem_of_getElem? (i := 428) (by decide +kernel), by decide +kernel⟩
theorem wd_379 : Cond.static yL_shuffles ∈ m_gd := List.mem_filter.mpr ⟨List.mem_of_getElem? (i := 429) (by decide +kernel), by decide +kernel⟩
set_option maxRecDepth 100000 in
theorem wd_380 : Cond.code yL_shuffles cL_shuffles 8 (some .int) ∈ m_gd := List.mem_filter.mpr ⟨List.mem_of_getElem? (i := 430) (by rfl), by decide +kernel⟩
theorem wd_381 : Cond.methodLink RL 85 yL_why ∈ m_gd := List.mem_filter.mpr ⟨List.mem_of_getElem? (i := 431) (by decide +kernel), by decide +kernel⟩
theorem wd_382 : Cond.static yL_why ∈ m_gd := List.mem_filter.mpr ⟨List.mem_of_getElem? (i := 432) (by decide +kernel), by decide +kernel⟩
set_option maxRecDepth 100000 in
theorem wd_383 : Cond.code yL_why cL_why 4 (some .int) ∈ m_gd := List.mem_filter.mpr ⟨List.mem_of_getElem? (i := 433) (by rfl), by decide +kernel⟩
theorem wd_384 : Cond.methodLink RL 89 yL_low ∈ m_gd := List.mem_filter.mpr ⟨List.mem_of_getElem? (i := 197) (by decide +kernel), by decide +kernel⟩
theorem wd_385 : Cond.static yL_low ∈ m_gd := List.mem_filter.mpr ⟨List.mem_of_getElem? (i := 198) (by decide +kernel), by decide +kernel⟩
set_option maxRecDepth 100000 in
theorem wd_386 : Cond.code yL_low cL_low 2 (some .int) ∈ m_gd := List.mem_filter.mpr ⟨List.mem_of_getElem? (i := 199) (by rfl), by decide +kernel⟩
theorem wd_387 : Cond.methodLink RL 92 yX5_count ∈ m_gd := List.mem_filter.mpr ⟨List.mem_of_getElem? (i := 449) (by decide +kernel), by decide +kernel⟩
theorem wd_388 : Cond.instanceMethod yX5_count ∈ m_gd := List.mem_filter.mpr ⟨List.mem_of_getElem? (i := 450) (by decide +kernel), by decide +kernel⟩
theorem wd_389 : Cond.selects RX5 yX5_count yX5_count ∈ m_gd := List.mem_filter.mpr ⟨List.mem_of_getElem? (i := 451) (by decide +kernel), by decide +kernel⟩
theorem wd_390 : Cond.code yX5_count cX5_count 2 (some .int) ∈ m_gd := List.mem_filter.mpr ⟨List.mem_of_getElem? (i := 452) (by decide +kernel), by decide +kernel⟩
theorem wd_391 : Cond.methodLink RL 95 yX5_chances ∈ m_gd := List.mem_filter.mpr ⟨List.mem_of_getElem? (i := 519) (by decide +kernel), by decide +kernel⟩
theorem wd_392 : Cond.instanceMethod yX5_chances ∈ m_gd := List.mem_filter.mpr ⟨List.mem_of_getElem? (i := 520) (by decide +kernel), by decide +kernel⟩
theorem wd_393 : Cond.selects RX5 yX5_chances yX5_chances ∈ m_gd := List.mem_filter.mpr ⟨List.mem_of_getElem? (i := 521) (by decide +kernel), by decide +kernel⟩
theorem wd_394 : Cond.code yX5_chances cX5_chances 1 (some .float) ∈ m_gd := List.mem_filter.mpr ⟨List.mem_of_getElem? (i := 522) (by decide +kernel), by decide +kernel⟩
theorem wd_395 : Cond.constantFloat RL 99 3212836864 ∈ m_gd := List.mem_filter.mpr ⟨List.mem_of_getElem? (i := 528) (by decide +kernel), by decide +kernel⟩
theorem wd_396 : Cond.methodLink RL 100 yX5_cardOf ∈ m_gd := List.mem_filter.mpr ⟨List.mem_of_getElem? (i := 490) (by decide +kernel), by decide +kernel⟩
theorem wd_397 : Cond.instanceMethod yX5_cardOf ∈ m_gd := List.mem_filter.mpr ⟨List.mem_of_getElem? (i := 491) (by decide +kernel), by decide +kernel⟩
theorem wd_398 : Cond.selects RX5 yX5_cardOf yX5_cardOf ∈ m_gd := List.mem_filter.mpr ⟨List.mem_of_getElem? (i := 492) (by decide +kernel), by decide +kernel⟩
theorem wd_399 : Cond.code yX5_cardOf cX5_cardOf 3 (some .int) ∈ m_gd := List.mem_filter.mpr ⟨List.mem_of_getElem? (i := 493) (by decide +kernel), by decide +kernel⟩
theorem wd_400 : Cond.methodLink RL 103 yX5_pack ∈ m_gd := List.mem_filter.mpr ⟨List.mem_of_getElem? (i := 529) (by decide +kernel), by decide +kernel⟩
theorem wd_401 : Cond.instanceMethod yX5_pack ∈ m_gd := List.mem_filter.mpr ⟨List.mem_of_getElem? (i := 530) (by decide +kernel), by decide +kernel⟩
theorem wd_402 : Cond.selects RX5 yX5_pack yX5_pack ∈ m_gd := List.mem_filter.mpr ⟨List.mem_of_getElem? (i := 531) (by decide +kernel), by decide +kernel⟩
theorem wd_403 : Cond.code yX5_pack cX5_pack 4 (some .int) ∈ m_gd := List.mem_filter.mpr ⟨List.mem_of_getElem? (i := 532) (by decide +kernel), by decide +kernel⟩
theorem wd_404 : Cond.methodLink RL 106 yL_ones ∈ m_gd := List.mem_filter.mpr ⟨List.mem_of_getElem? (i := 446) (by decide +kernel), by decide +kernel⟩
theorem wd_405 : Cond.static yL_ones ∈ m_gd := List.mem_filter.mpr ⟨List.mem_of_getElem? (i := 447) (by decide +kernel), by decide +kernel⟩
set_option maxRecDepth 100000 in
theorem wd_406 : Cond.code yL_ones cL_ones 3 (some .int) ∈ m_gd := List.mem_filter.mpr ⟨List.mem_of_getElem? (i := 448) (by rfl), by decide +kernel⟩
theorem wd_407 : Cond.methodLink RL 109 yX5_why ∈ m_gd := List.mem_filter.mpr ⟨List.mem_of_getElem? (i := 474) (by decide +kernel), by decide +kernel⟩
theorem wd_408 : Cond.instanceMethod yX5_why ∈ m_gd := List.mem_filter.mpr ⟨List.mem_of_getElem? (i := 475) (by decide +kernel), by decide +kernel⟩
theorem wd_409 : Cond.selects RX5 yX5_why yX5_why ∈ m_gd := List.mem_filter.mpr ⟨List.mem_of_getElem? (i := 476) (by decide +kernel), by decide +kernel⟩
theorem wd_410 : Cond.code yX5_why cX5_why 1 (some .int) ∈ m_gd := List.mem_filter.mpr ⟨List.mem_of_getElem? (i := 477) (by decide +kernel), by decide +kernel⟩
theorem wd_411 : Cond.methodLink RL 111 yX5_ifPrinted ∈ m_gd := List.mem_filter.mpr ⟨List.mem_of_getElem? (i := 478) (by decide +kernel), by decide +kernel⟩
theorem wd_412 : Cond.instanceMethod yX5_ifPrinted ∈ m_gd := List.mem_filter.mpr ⟨List.mem_of_getElem? (i := 479) (by decide +kernel), by decide +kernel⟩
theorem wd_413 : Cond.selects RX5 yX5_ifPrinted yX5_ifPrinted ∈ m_gd := List.mem_filter.mpr ⟨List.mem_of_getElem? (i := 480) (by decide +kernel), by decide +kernel⟩
theorem wd_414 : Cond.code yX5_ifPrinted cX5_ifPrinted 2 (some .int) ∈ m_gd := List.mem_filter.mpr ⟨List.mem_of_getElem? (i := 481) (by decide +kernel), by decide +kernel⟩
theorem wd_415 : Cond.methodLink RL 114 yX5_block ∈ m_gd := List.mem_filter.mpr ⟨List.mem_of_getElem? (i := 486) (by decide +kernel), by decide +kernel⟩
theorem wd_416 : Cond.instanceMethod yX5_block ∈ m_gd := List.mem_filter.mpr ⟨List.mem_of_getElem? (i := 487) (by decide +kernel), by decide +kernel⟩
theorem wd_417 : Cond.selects RX5 yX5_block yX5_block ∈ m_gd := List.mem_filter.mpr ⟨List.mem_of_getElem? (i := 488) (by decide +kernel), by decide +kernel⟩
theorem wd_418 : Cond.code yX5_block cX5_block 3 (some .int) ∈ m_gd := List.mem_filter.mpr ⟨List.mem_of_getElem? (i := 489) (by decide +kernel), by decide +kernel⟩
theorem wd_419 : Cond.methodLink RL 117 yX5_sheet ∈ m_gd := List.mem_filter.mpr ⟨List.mem_of_getElem? (i := 503) (by decide +kernel), by decide +kernel⟩
theorem wd_420 : Cond.instanceMethod yX5_sheet ∈ m_gd := List.mem_filter.mpr ⟨List.mem_of_getElem? (i := 504) (by decide +kernel), by decide +kernel⟩
theorem wd_421 : Cond.selects RX5 yX5_sheet yX5_sheet ∈ m_gd := List.mem_filter.mpr ⟨List.mem_of_getElem? (i := 505) (by decide +kernel), by decide +kernel⟩
theorem wd_422 : Cond.code yX5_sheet cX5_sheet 6 (some .int) ∈ m_gd := List.mem_filter.mpr ⟨List.mem_of_getElem? (i := 506) (by decide +kernel), by decide +kernel⟩
theorem wd_423 : Cond.methodLink RL 121 yX5_bestWay ∈ m_gd := List.mem_filter.mpr ⟨List.mem_of_getElem? (i := 507) (by decide +kernel), by decide +kernel⟩
theorem wd_424 : Cond.instanceMethod yX5_bestWay ∈ m_gd := List.mem_filter.mpr ⟨List.mem_of_getElem? (i := 508) (by decide +kernel), by decide +kernel⟩
theorem wd_425 : Cond.selects RX5 yX5_bestWay yX5_bestWay ∈ m_gd := List.mem_filter.mpr ⟨List.mem_of_getElem? (i := 509) (by decide +kernel), by decide +kernel⟩
theorem wd_426 : Cond.code yX5_bestWay cX5_bestWay 6 (some .int) ∈ m_gd := List.mem_filter.mpr ⟨List.mem_of_getElem? (i := 510) (by decide +kernel), by decide +kernel⟩
theorem wd_427 : Cond.methodLink RL 124 yL_isPack ∈ m_gd := List.mem_filter.mpr ⟨List.mem_of_getElem? (i := 516) (by decide +kernel), by decide +kernel⟩
theorem wd_428 : Cond.static yL_isPack ∈ m_gd := List.mem_filter.mpr ⟨List.mem_of_getElem? (i := 517) (by decide +kernel), by decide +kernel⟩
set_option maxRecDepth 100000 in
theorem wd_429 : Cond.code yL_isPack cL_isPack 12 (some .boolean) ∈ m_gd := List.mem_filter.mpr ⟨List.mem_of_getElem? (i := 518) (by rfl), by decide +kernel⟩
theorem wd_430 : Cond.constantLong RL 128 173 ∈ m_gd := List.mem_filter.mpr ⟨List.mem_of_getElem? (i := 539) (by decide +kernel), by decide +kernel⟩
theorem wd_431 : Cond.constantLong RL 130 31 ∈ m_gd := List.mem_filter.mpr ⟨List.mem_of_getElem? (i := 540) (by decide +kernel), by decide +kernel⟩
theorem wd_432 : Cond.classLink RL 33 RX5 ∈ m_gd := List.mem_filter.mpr ⟨List.mem_of_getElem? (i := 12) (by decide +kernel), by decide +kernel⟩
theorem wd_433 : Cond.instantiable RX5 6 ∈ m_gd := List.mem_filter.mpr ⟨List.mem_of_getElem? (i := 13) (by decide +kernel), by decide +kernel⟩
theorem wd_434 : Cond.methodLink RL 132 yX5_init ∈ m_gd := List.mem_filter.mpr ⟨List.mem_of_getElem? (i := 14) (by decide +kernel), by decide +kernel⟩
theorem wd_435 : Cond.instanceMethod yX5_init ∈ m_gd := List.mem_filter.mpr ⟨List.mem_of_getElem? (i := 15) (by decide +kernel), by decide +kernel⟩
theorem wd_436 : Cond.code yX5_init cX5_init 1 none ∈ m_gd := List.mem_filter.mpr ⟨List.mem_of_getElem? (i := 16) (by decide +kernel), by decide +kernel⟩
theorem wd_437 : Cond.methodLink RL 133 yL_cell ∈ m_gd := List.mem_filter.mpr ⟨List.mem_of_getElem? (i := 192) (by decide +kernel), by decide +kernel⟩
theorem wd_438 : Cond.static yL_cell ∈ m_gd := List.mem_filter.mpr ⟨List.mem_of_getElem? (i := 193) (by decide +kernel), by decide +kernel⟩
set_option maxRecDepth 100000 in
theorem wd_439 : Cond.code yL_cell cL_cell 2 (some .int) ∈ m_gd := List.mem_filter.mpr ⟨List.mem_of_getElem? (i := 194) (by rfl), by decide +kernel⟩
theorem wd_440 : Cond.methodLink RL 137 yL_told ∈ m_gd := List.mem_filter.mpr ⟨List.mem_of_getElem? (i := 536) (by decide +kernel), by decide +kernel⟩
theorem wd_441 : Cond.static yL_told ∈ m_gd := List.mem_filter.mpr ⟨List.mem_of_getElem? (i := 537) (by decide +kernel), by decide +kernel⟩
set_option maxRecDepth 100000 in
theorem wd_442 : Cond.code yL_told cL_told 4 (some .long) ∈ m_gd := List.mem_filter.mpr ⟨List.mem_of_getElem? (i := 538) (by rfl), by decide +kernel⟩
theorem wd_443 : Cond.methodLink RL 141 yL_call ∈ m_gd := List.mem_filter.mpr ⟨List.mem_of_getElem? (i := 204) (by decide +kernel), by decide +kernel⟩
theorem wd_444 : Cond.static yL_call ∈ m_gd := List.mem_filter.mpr ⟨List.mem_of_getElem? (i := 205) (by decide +kernel), by decide +kernel⟩
set_option maxRecDepth 100000 in
theorem wd_445 : Cond.code yL_call cL_call 5 (some .int) ∈ m_gd := List.mem_filter.mpr ⟨List.mem_of_getElem? (i := 206) (by rfl), by decide +kernel⟩
theorem wd_446 : Cond.methodLink RL 145 yX5_undo ∈ m_gd := List.mem_filter.mpr ⟨List.mem_of_getElem? (i := 166) (by decide +kernel), by decide +kernel⟩
theorem wd_447 : Cond.instanceMethod yX5_undo ∈ m_gd := List.mem_filter.mpr ⟨List.mem_of_getElem? (i := 167) (by decide +kernel), by decide +kernel⟩
theorem wd_448 : Cond.selects RX5 yX5_undo yX5_undo ∈ m_gd := List.mem_filter.mpr ⟨List.mem_of_getElem? (i := 168) (by decide +kernel), by decide +kernel⟩
theorem wd_449 : Cond.code yX5_undo cX5_undo 1 (some .int) ∈ m_gd := List.mem_filter.mpr ⟨List.mem_of_getElem? (i := 169) (by decide +kernel), by decide +kernel⟩
theorem wd_450 : Cond.methodLink RL 148 yL_ofBlocks ∈ m_gd := List.mem_filter.mpr ⟨List.mem_of_getElem? (i := 407) (by decide +kernel), by decide +kernel⟩
theorem wd_451 : Cond.static yL_ofBlocks ∈ m_gd := List.mem_filter.mpr ⟨List.mem_of_getElem? (i := 408) (by decide +kernel), by decide +kernel⟩
set_option maxRecDepth 100000 in
theorem wd_452 : Cond.code yL_ofBlocks cL_ofBlocks 9 (some .int) ∈ m_gd := List.mem_filter.mpr ⟨List.mem_of_getElem? (i := 409) (by rfl), by decide +kernel⟩
theorem wd_453 : Cond.methodLink RL 152 yL_ofPack ∈ m_gd := List.mem_filter.mpr ⟨List.mem_of_getElem? (i := 413) (by decide +kernel), by decide +kernel⟩
theorem wd_454 : Cond.static yL_ofPack ∈ m_gd := List.mem_filter.mpr ⟨List.mem_of_getElem? (i := 414) (by decide +kernel), by decide +kernel⟩
set_option maxRecDepth 100000 in
theorem wd_455 : Cond.code yL_ofPack cL_ofPack 9 (some .int) ∈ m_gd := List.mem_filter.mpr ⟨List.mem_of_getElem? (i := 415) (by rfl), by decide +kernel⟩
theorem wd_456 : Cond.methodLink RL 156 yL_prints ∈ m_gd := List.mem_filter.mpr ⟨List.mem_of_getElem? (i := 201) (by decide +kernel), by decide +kernel⟩
theorem wd_457 : Cond.static yL_prints ∈ m_gd := List.mem_filter.mpr ⟨List.mem_of_getElem? (i := 202) (by decide +kernel), by decide +kernel⟩
set_option maxRecDepth 100000 in
theorem wd_458 : Cond.code yL_prints cL_prints 8 none ∈ m_gd := List.mem_filter.mpr ⟨List.mem_of_getElem? (i := 203) (by rfl), by decide +kernel⟩
theorem wd_459 : Cond.methodLink RL 160 yL_isSo ∈ m_gd := List.mem_filter.mpr ⟨List.mem_of_getElem? (i := 443) (by decide +kernel), by decide +kernel⟩
theorem wd_460 : Cond.static yL_isSo ∈ m_gd := List.mem_filter.mpr ⟨List.mem_of_getElem? (i := 444) (by decide +kernel), by decide +kernel⟩
set_option maxRecDepth 100000 in
theorem wd_461 : Cond.code yL_isSo cL_isSo 22 (some .boolean) ∈ m_gd := List.mem_filter.mpr ⟨List.mem_of_getElem? (i := 445) (by rfl), by decide +kernel⟩
