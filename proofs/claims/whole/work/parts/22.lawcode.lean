theorem tw_117 : Cond.methodLink RL 13 yX4_addInstrument ∈ gw := gw_tab (i := 117) (by decide +kernel) (by rfl)
theorem tw_118 : Cond.instanceMethod yX4_addInstrument ∈ gw := gw_tab (i := 118) (by decide +kernel) (by rfl)
theorem tw_119 : Cond.selects RX4 yX4_addInstrument yX4_addInstrument ∈ gw := gw_tab (i := 119) (by decide +kernel) (by rfl)
theorem tw_120 : Cond.code yX4_addInstrument cX4_addInstrument 5 (some .int) ∈ gw := gw_tab (i := 120) (by decide +kernel) (by rfl)
theorem tw_170 : Cond.methodLink RL 18 yX4_adjust ∈ gw := gw_tab (i := 170) (by decide +kernel) (by rfl)
theorem tw_171 : Cond.instanceMethod yX4_adjust ∈ gw := gw_tab (i := 171) (by decide +kernel) (by rfl)
theorem tw_172 : Cond.selects RX4 yX4_adjust yX4_adjust ∈ gw := gw_tab (i := 172) (by decide +kernel) (by rfl)
theorem tw_173 : Cond.code yX4_adjust cX4_adjust 7 (some .int) ∈ gw := gw_tab (i := 173) (by decide +kernel) (by rfl)
theorem tw_187 : Cond.methodLink RL 23 yX4_setTrap ∈ gw := gw_tab (i := 187) (by decide +kernel) (by rfl)
theorem tw_188 : Cond.instanceMethod yX4_setTrap ∈ gw := gw_tab (i := 188) (by decide +kernel) (by rfl)
theorem tw_189 : Cond.selects RX4 yX4_setTrap yX4_setTrap ∈ gw := gw_tab (i := 189) (by decide +kernel) (by rfl)
theorem tw_190 : Cond.code yX4_setTrap cX4_setTrap 5 (some .int) ∈ gw := gw_tab (i := 190) (by decide +kernel) (by rfl)
theorem tw_191 : Cond.methodLink RL 28 yX4_announce ∈ gw := gw_tab (i := 191) (by decide +kernel) (by rfl)
theorem tw_192 : Cond.instanceMethod yX4_announce ∈ gw := gw_tab (i := 192) (by decide +kernel) (by rfl)
theorem tw_193 : Cond.selects RX4 yX4_announce yX4_announce ∈ gw := gw_tab (i := 193) (by decide +kernel) (by rfl)
theorem tw_194 : Cond.code yX4_announce cX4_announce 4 (some .int) ∈ gw := gw_tab (i := 194) (by decide +kernel) (by rfl)
theorem tw_210 : Cond.methodLink RL 33 yX4_addPupil ∈ gw := gw_tab (i := 210) (by decide +kernel) (by rfl)
theorem tw_211 : Cond.instanceMethod yX4_addPupil ∈ gw := gw_tab (i := 211) (by decide +kernel) (by rfl)
theorem tw_212 : Cond.selects RX4 yX4_addPupil yX4_addPupil ∈ gw := gw_tab (i := 212) (by decide +kernel) (by rfl)
theorem tw_213 : Cond.code yX4_addPupil cX4_addPupil 4 (some .int) ∈ gw := gw_tab (i := 213) (by decide +kernel) (by rfl)
theorem tw_215 : Cond.methodLink RL 37 yX4_teach ∈ gw := gw_tab (i := 215) (by decide +kernel) (by rfl)
theorem tw_216 : Cond.instanceMethod yX4_teach ∈ gw := gw_tab (i := 216) (by decide +kernel) (by rfl)
theorem tw_217 : Cond.selects RX4 yX4_teach yX4_teach ∈ gw := gw_tab (i := 217) (by decide +kernel) (by rfl)
theorem tw_218 : Cond.code yX4_teach cX4_teach 4 (some .int) ∈ gw := gw_tab (i := 218) (by decide +kernel) (by rfl)
theorem tw_221 : Cond.methodLink RL 41 yX4_train ∈ gw := gw_tab (i := 221) (by decide +kernel) (by rfl)
theorem tw_222 : Cond.instanceMethod yX4_train ∈ gw := gw_tab (i := 222) (by decide +kernel) (by rfl)
theorem tw_223 : Cond.selects RX4 yX4_train yX4_train ∈ gw := gw_tab (i := 223) (by decide +kernel) (by rfl)
theorem tw_224 : Cond.code yX4_train cX4_train 5 (some .int) ∈ gw := gw_tab (i := 224) (by decide +kernel) (by rfl)
theorem tw_231 : Cond.methodLink RL 45 yX4_write ∈ gw := gw_tab (i := 231) (by decide +kernel) (by rfl)
theorem tw_232 : Cond.instanceMethod yX4_write ∈ gw := gw_tab (i := 232) (by decide +kernel) (by rfl)
theorem tw_233 : Cond.selects RX4 yX4_write yX4_write ∈ gw := gw_tab (i := 233) (by decide +kernel) (by rfl)
theorem tw_234 : Cond.code yX4_write cX4_write 4 (some .int) ∈ gw := gw_tab (i := 234) (by decide +kernel) (by rfl)
theorem tw_277 : Cond.methodLink RL 49 yX4_appeal ∈ gw := gw_tab (i := 277) (by decide +kernel) (by rfl)
theorem tw_278 : Cond.instanceMethod yX4_appeal ∈ gw := gw_tab (i := 278) (by decide +kernel) (by rfl)
theorem tw_279 : Cond.selects RX4 yX4_appeal yX4_appeal ∈ gw := gw_tab (i := 279) (by decide +kernel) (by rfl)
theorem tw_280 : Cond.code yX4_appeal cX4_appeal 5 (some .int) ∈ gw := gw_tab (i := 280) (by decide +kernel) (by rfl)
theorem tw_293 : Cond.methodLink RL 53 yX4_decide ∈ gw := gw_tab (i := 293) (by decide +kernel) (by rfl)
theorem tw_294 : Cond.instanceMethod yX4_decide ∈ gw := gw_tab (i := 294) (by decide +kernel) (by rfl)
theorem tw_295 : Cond.selects RX4 yX4_decide yX4_decide ∈ gw := gw_tab (i := 295) (by decide +kernel) (by rfl)
theorem tw_296 : Cond.code yX4_decide cX4_decide 3 (some .int) ∈ gw := gw_tab (i := 296) (by decide +kernel) (by rfl)
theorem tw_321 : Cond.methodLink RL 58 yX4_type ∈ gw := gw_tab (i := 321) (by decide +kernel) (by rfl)
theorem tw_322 : Cond.instanceMethod yX4_type ∈ gw := gw_tab (i := 322) (by decide +kernel) (by rfl)
theorem tw_323 : Cond.selects RX4 yX4_type yX4_type ∈ gw := gw_tab (i := 323) (by decide +kernel) (by rfl)
theorem tw_324 : Cond.code yX4_type cX4_type 2 (some .int) ∈ gw := gw_tab (i := 324) (by decide +kernel) (by rfl)
theorem tw_337 : Cond.methodLink RL 63 yX4_clearText ∈ gw := gw_tab (i := 337) (by decide +kernel) (by rfl)
theorem tw_338 : Cond.instanceMethod yX4_clearText ∈ gw := gw_tab (i := 338) (by decide +kernel) (by rfl)
theorem tw_339 : Cond.selects RX4 yX4_clearText yX4_clearText ∈ gw := gw_tab (i := 339) (by decide +kernel) (by rfl)
theorem tw_340 : Cond.code yX4_clearText cX4_clearText 2 (some .int) ∈ gw := gw_tab (i := 340) (by decide +kernel) (by rfl)
theorem tw_345 : Cond.methodLink RL 67 yX4_readPapers ∈ gw := gw_tab (i := 345) (by decide +kernel) (by rfl)
theorem tw_346 : Cond.instanceMethod yX4_readPapers ∈ gw := gw_tab (i := 346) (by decide +kernel) (by rfl)
theorem tw_347 : Cond.selects RX4 yX4_readPapers yX4_readPapers ∈ gw := gw_tab (i := 347) (by decide +kernel) (by rfl)
theorem tw_348 : Cond.code yX4_readPapers cX4_readPapers 6 (some .int) ∈ gw := gw_tab (i := 348) (by decide +kernel) (by rfl)
theorem tw_397 : Cond.methodLink RL 71 yX4_undo ∈ gw := gw_tab (i := 397) (by decide +kernel) (by rfl)
theorem tw_398 : Cond.instanceMethod yX4_undo ∈ gw := gw_tab (i := 398) (by decide +kernel) (by rfl)
theorem tw_399 : Cond.selects RX4 yX4_undo yX4_undo ∈ gw := gw_tab (i := 399) (by decide +kernel) (by rfl)
theorem tw_400 : Cond.code yX4_undo cX4_undo 1 (some .int) ∈ gw := gw_tab (i := 400) (by decide +kernel) (by rfl)
theorem tw_409 : Cond.methodLink RL 75 yX4_keep ∈ gw := gw_tab (i := 409) (by decide +kernel) (by rfl)
theorem tw_410 : Cond.instanceMethod yX4_keep ∈ gw := gw_tab (i := 410) (by decide +kernel) (by rfl)
theorem tw_411 : Cond.selects RX4 yX4_keep yX4_keep ∈ gw := gw_tab (i := 411) (by decide +kernel) (by rfl)
theorem tw_412 : Cond.code yX4_keep cX4_keep 1 (some .int) ∈ gw := gw_tab (i := 412) (by decide +kernel) (by rfl)
theorem tw_414 : Cond.methodLink RL 79 yX4_restore ∈ gw := gw_tab (i := 414) (by decide +kernel) (by rfl)
theorem tw_415 : Cond.instanceMethod yX4_restore ∈ gw := gw_tab (i := 415) (by decide +kernel) (by rfl)
theorem tw_416 : Cond.selects RX4 yX4_restore yX4_restore ∈ gw := gw_tab (i := 416) (by decide +kernel) (by rfl)
theorem tw_417 : Cond.code yX4_restore cX4_restore 1 (some .int) ∈ gw := gw_tab (i := 417) (by decide +kernel) (by rfl)
theorem tw_418 : Cond.methodLink RL 83 yX4_instrument ∈ gw := gw_tab (i := 418) (by decide +kernel) (by rfl)
theorem tw_419 : Cond.instanceMethod yX4_instrument ∈ gw := gw_tab (i := 419) (by decide +kernel) (by rfl)
theorem tw_420 : Cond.selects RX4 yX4_instrument yX4_instrument ∈ gw := gw_tab (i := 420) (by decide +kernel) (by rfl)
theorem tw_421 : Cond.code yX4_instrument cX4_instrument 3 (some .int) ∈ gw := gw_tab (i := 421) (by decide +kernel) (by rfl)
theorem tw_422 : Cond.methodLink RL 87 yX4_pupil ∈ gw := gw_tab (i := 422) (by decide +kernel) (by rfl)
theorem tw_423 : Cond.instanceMethod yX4_pupil ∈ gw := gw_tab (i := 423) (by decide +kernel) (by rfl)
theorem tw_424 : Cond.selects RX4 yX4_pupil yX4_pupil ∈ gw := gw_tab (i := 424) (by decide +kernel) (by rfl)
theorem tw_425 : Cond.code yX4_pupil cX4_pupil 3 (some .int) ∈ gw := gw_tab (i := 425) (by decide +kernel) (by rfl)
theorem tw_439 : Cond.methodLink RL 91 yX4_paper ∈ gw := gw_tab (i := 439) (by decide +kernel) (by rfl)
theorem tw_440 : Cond.instanceMethod yX4_paper ∈ gw := gw_tab (i := 440) (by decide +kernel) (by rfl)
theorem tw_441 : Cond.selects RX4 yX4_paper yX4_paper ∈ gw := gw_tab (i := 441) (by decide +kernel) (by rfl)
theorem tw_442 : Cond.code yX4_paper cX4_paper 3 (some .int) ∈ gw := gw_tab (i := 442) (by decide +kernel) (by rfl)
theorem tw_443 : Cond.methodLink RL 95 yX4_coincidence ∈ gw := gw_tab (i := 443) (by decide +kernel) (by rfl)
theorem tw_444 : Cond.instanceMethod yX4_coincidence ∈ gw := gw_tab (i := 444) (by decide +kernel) (by rfl)
theorem tw_445 : Cond.selects RX4 yX4_coincidence yX4_coincidence ∈ gw := gw_tab (i := 445) (by decide +kernel) (by rfl)
theorem tw_446 : Cond.code yX4_coincidence cX4_coincidence 10 (some .int) ∈ gw := gw_tab (i := 446) (by decide +kernel) (by rfl)
theorem tw_450 : Cond.methodLink RL 99 yX4_answer ∈ gw := gw_tab (i := 450) (by decide +kernel) (by rfl)
theorem tw_451 : Cond.instanceMethod yX4_answer ∈ gw := gw_tab (i := 451) (by decide +kernel) (by rfl)
theorem tw_452 : Cond.selects RX4 yX4_answer yX4_answer ∈ gw := gw_tab (i := 452) (by decide +kernel) (by rfl)
theorem tw_453 : Cond.code yX4_answer cX4_answer 4 (some .int) ∈ gw := gw_tab (i := 453) (by decide +kernel) (by rfl)
theorem tw_455 : Cond.methodLink RL 103 yX4_would ∈ gw := gw_tab (i := 455) (by decide +kernel) (by rfl)
theorem tw_456 : Cond.instanceMethod yX4_would ∈ gw := gw_tab (i := 456) (by decide +kernel) (by rfl)
theorem tw_457 : Cond.selects RX4 yX4_would yX4_would ∈ gw := gw_tab (i := 457) (by decide +kernel) (by rfl)
theorem tw_458 : Cond.code yX4_would cX4_would 7 (some .int) ∈ gw := gw_tab (i := 458) (by decide +kernel) (by rfl)
theorem tw_463 : Cond.methodLink RL 107 yX4_ranked ∈ gw := gw_tab (i := 463) (by decide +kernel) (by rfl)
theorem tw_464 : Cond.instanceMethod yX4_ranked ∈ gw := gw_tab (i := 464) (by decide +kernel) (by rfl)
theorem tw_465 : Cond.selects RX4 yX4_ranked yX4_ranked ∈ gw := gw_tab (i := 465) (by decide +kernel) (by rfl)
theorem tw_466 : Cond.code yX4_ranked cX4_ranked 3 (some .int) ∈ gw := gw_tab (i := 466) (by decide +kernel) (by rfl)
theorem tw_467 : Cond.methodLink RL 111 yX4_waiting ∈ gw := gw_tab (i := 467) (by decide +kernel) (by rfl)
theorem tw_468 : Cond.instanceMethod yX4_waiting ∈ gw := gw_tab (i := 468) (by decide +kernel) (by rfl)
theorem tw_469 : Cond.selects RX4 yX4_waiting yX4_waiting ∈ gw := gw_tab (i := 469) (by decide +kernel) (by rfl)
theorem tw_470 : Cond.code yX4_waiting cX4_waiting 2 (some .int) ∈ gw := gw_tab (i := 470) (by decide +kernel) (by rfl)
theorem tw_471 : Cond.methodLink RL 115 yX4_count ∈ gw := gw_tab (i := 471) (by decide +kernel) (by rfl)
theorem tw_472 : Cond.instanceMethod yX4_count ∈ gw := gw_tab (i := 472) (by decide +kernel) (by rfl)
theorem tw_473 : Cond.selects RX4 yX4_count yX4_count ∈ gw := gw_tab (i := 473) (by decide +kernel) (by rfl)
theorem tw_474 : Cond.code yX4_count cX4_count 2 (some .int) ∈ gw := gw_tab (i := 474) (by decide +kernel) (by rfl)
theorem tw_534 : Cond.methodLink RL 17 yX5_addInstrument ∈ gw := gw_tab (i := 534) (by decide +kernel) (by rfl)
theorem tw_535 : Cond.instanceMethod yX5_addInstrument ∈ gw := gw_tab (i := 535) (by decide +kernel) (by rfl)
theorem tw_536 : Cond.selects RX5 yX5_addInstrument yX5_addInstrument ∈ gw := gw_tab (i := 536) (by decide +kernel) (by rfl)
theorem tw_537 : Cond.code yX5_addInstrument cX5_addInstrument 6 (some .int) ∈ gw := gw_tab (i := 537) (by decide +kernel) (by rfl)
theorem tw_547 : Cond.methodLink RL 22 yX5_adjust ∈ gw := gw_tab (i := 547) (by decide +kernel) (by rfl)
theorem tw_548 : Cond.instanceMethod yX5_adjust ∈ gw := gw_tab (i := 548) (by decide +kernel) (by rfl)
theorem tw_549 : Cond.selects RX5 yX5_adjust yX5_adjust ∈ gw := gw_tab (i := 549) (by decide +kernel) (by rfl)
theorem tw_550 : Cond.code yX5_adjust cX5_adjust 5 (some .int) ∈ gw := gw_tab (i := 550) (by decide +kernel) (by rfl)
theorem tw_565 : Cond.methodLink RL 27 yX5_setTrap ∈ gw := gw_tab (i := 565) (by decide +kernel) (by rfl)
theorem tw_566 : Cond.instanceMethod yX5_setTrap ∈ gw := gw_tab (i := 566) (by decide +kernel) (by rfl)
theorem tw_567 : Cond.selects RX5 yX5_setTrap yX5_setTrap ∈ gw := gw_tab (i := 567) (by decide +kernel) (by rfl)
theorem tw_568 : Cond.code yX5_setTrap cX5_setTrap 4 (some .int) ∈ gw := gw_tab (i := 568) (by decide +kernel) (by rfl)
theorem tw_569 : Cond.methodLink RL 32 yX5_announce ∈ gw := gw_tab (i := 569) (by decide +kernel) (by rfl)
theorem tw_570 : Cond.instanceMethod yX5_announce ∈ gw := gw_tab (i := 570) (by decide +kernel) (by rfl)
theorem tw_571 : Cond.selects RX5 yX5_announce yX5_announce ∈ gw := gw_tab (i := 571) (by decide +kernel) (by rfl)
theorem tw_572 : Cond.code yX5_announce cX5_announce 5 (some .int) ∈ gw := gw_tab (i := 572) (by decide +kernel) (by rfl)
theorem tw_578 : Cond.methodLink RL 36 yX5_addPupil ∈ gw := gw_tab (i := 578) (by decide +kernel) (by rfl)
theorem tw_579 : Cond.instanceMethod yX5_addPupil ∈ gw := gw_tab (i := 579) (by decide +kernel) (by rfl)
theorem tw_580 : Cond.selects RX5 yX5_addPupil yX5_addPupil ∈ gw := gw_tab (i := 580) (by decide +kernel) (by rfl)
theorem tw_581 : Cond.code yX5_addPupil cX5_addPupil 3 (some .int) ∈ gw := gw_tab (i := 581) (by decide +kernel) (by rfl)
theorem tw_585 : Cond.methodLink RL 40 yX5_teach ∈ gw := gw_tab (i := 585) (by decide +kernel) (by rfl)
theorem tw_586 : Cond.instanceMethod yX5_teach ∈ gw := gw_tab (i := 586) (by decide +kernel) (by rfl)
theorem tw_587 : Cond.selects RX5 yX5_teach yX5_teach ∈ gw := gw_tab (i := 587) (by decide +kernel) (by rfl)
theorem tw_588 : Cond.code yX5_teach cX5_teach 4 (some .int) ∈ gw := gw_tab (i := 588) (by decide +kernel) (by rfl)
theorem tw_593 : Cond.methodLink RL 44 yX5_train ∈ gw := gw_tab (i := 593) (by decide +kernel) (by rfl)
theorem tw_594 : Cond.instanceMethod yX5_train ∈ gw := gw_tab (i := 594) (by decide +kernel) (by rfl)
theorem tw_595 : Cond.selects RX5 yX5_train yX5_train ∈ gw := gw_tab (i := 595) (by decide +kernel) (by rfl)
theorem tw_596 : Cond.code yX5_train cX5_train 7 (some .int) ∈ gw := gw_tab (i := 596) (by decide +kernel) (by rfl)
theorem tw_597 : Cond.methodLink RL 48 yX5_write ∈ gw := gw_tab (i := 597) (by decide +kernel) (by rfl)
theorem tw_598 : Cond.instanceMethod yX5_write ∈ gw := gw_tab (i := 598) (by decide +kernel) (by rfl)
theorem tw_599 : Cond.selects RX5 yX5_write yX5_write ∈ gw := gw_tab (i := 599) (by decide +kernel) (by rfl)
theorem tw_600 : Cond.code yX5_write cX5_write 4 (some .int) ∈ gw := gw_tab (i := 600) (by decide +kernel) (by rfl)
theorem tw_621 : Cond.methodLink RL 52 yX5_appeal ∈ gw := gw_tab (i := 621) (by decide +kernel) (by rfl)
theorem tw_622 : Cond.instanceMethod yX5_appeal ∈ gw := gw_tab (i := 622) (by decide +kernel) (by rfl)
theorem tw_623 : Cond.selects RX5 yX5_appeal yX5_appeal ∈ gw := gw_tab (i := 623) (by decide +kernel) (by rfl)
theorem tw_624 : Cond.code yX5_appeal cX5_appeal 4 (some .int) ∈ gw := gw_tab (i := 624) (by decide +kernel) (by rfl)
theorem tw_641 : Cond.methodLink RL 114 yX5_waiting ∈ gw := gw_tab (i := 641) (by decide +kernel) (by rfl)
theorem tw_649 : Cond.methodLink RL 57 yX5_decide ∈ gw := gw_tab (i := 649) (by decide +kernel) (by rfl)
theorem tw_650 : Cond.instanceMethod yX5_decide ∈ gw := gw_tab (i := 650) (by decide +kernel) (by rfl)
theorem tw_651 : Cond.selects RX5 yX5_decide yX5_decide ∈ gw := gw_tab (i := 651) (by decide +kernel) (by rfl)
theorem tw_652 : Cond.code yX5_decide cX5_decide 4 (some .int) ∈ gw := gw_tab (i := 652) (by decide +kernel) (by rfl)
theorem tw_658 : Cond.methodLink RL 62 yX5_type ∈ gw := gw_tab (i := 658) (by decide +kernel) (by rfl)
theorem tw_659 : Cond.instanceMethod yX5_type ∈ gw := gw_tab (i := 659) (by decide +kernel) (by rfl)
theorem tw_660 : Cond.selects RX5 yX5_type yX5_type ∈ gw := gw_tab (i := 660) (by decide +kernel) (by rfl)
theorem tw_661 : Cond.code yX5_type cX5_type 2 (some .int) ∈ gw := gw_tab (i := 661) (by decide +kernel) (by rfl)
theorem tw_662 : Cond.methodLink RL 66 yX5_clearText ∈ gw := gw_tab (i := 662) (by decide +kernel) (by rfl)
theorem tw_663 : Cond.instanceMethod yX5_clearText ∈ gw := gw_tab (i := 663) (by decide +kernel) (by rfl)
theorem tw_664 : Cond.selects RX5 yX5_clearText yX5_clearText ∈ gw := gw_tab (i := 664) (by decide +kernel) (by rfl)
theorem tw_665 : Cond.code yX5_clearText cX5_clearText 2 (some .int) ∈ gw := gw_tab (i := 665) (by decide +kernel) (by rfl)
theorem tw_666 : Cond.methodLink RL 70 yX5_readPapers ∈ gw := gw_tab (i := 666) (by decide +kernel) (by rfl)
theorem tw_667 : Cond.instanceMethod yX5_readPapers ∈ gw := gw_tab (i := 667) (by decide +kernel) (by rfl)
theorem tw_668 : Cond.selects RX5 yX5_readPapers yX5_readPapers ∈ gw := gw_tab (i := 668) (by decide +kernel) (by rfl)
theorem tw_669 : Cond.code yX5_readPapers cX5_readPapers 4 (some .int) ∈ gw := gw_tab (i := 669) (by decide +kernel) (by rfl)
theorem tw_682 : Cond.methodLink RL 74 yX5_undo ∈ gw := gw_tab (i := 682) (by decide +kernel) (by rfl)
theorem tw_683 : Cond.instanceMethod yX5_undo ∈ gw := gw_tab (i := 683) (by decide +kernel) (by rfl)
theorem tw_684 : Cond.selects RX5 yX5_undo yX5_undo ∈ gw := gw_tab (i := 684) (by decide +kernel) (by rfl)
theorem tw_685 : Cond.code yX5_undo cX5_undo 2 (some .int) ∈ gw := gw_tab (i := 685) (by decide +kernel) (by rfl)
theorem tw_686 : Cond.methodLink RL 78 yX5_keep ∈ gw := gw_tab (i := 686) (by decide +kernel) (by rfl)
theorem tw_687 : Cond.instanceMethod yX5_keep ∈ gw := gw_tab (i := 687) (by decide +kernel) (by rfl)
theorem tw_688 : Cond.selects RX5 yX5_keep yX5_keep ∈ gw := gw_tab (i := 688) (by decide +kernel) (by rfl)
theorem tw_689 : Cond.code yX5_keep cX5_keep 2 (some .int) ∈ gw := gw_tab (i := 689) (by decide +kernel) (by rfl)
theorem tw_690 : Cond.methodLink RL 82 yX5_restore ∈ gw := gw_tab (i := 690) (by decide +kernel) (by rfl)
theorem tw_691 : Cond.instanceMethod yX5_restore ∈ gw := gw_tab (i := 691) (by decide +kernel) (by rfl)
theorem tw_692 : Cond.selects RX5 yX5_restore yX5_restore ∈ gw := gw_tab (i := 692) (by decide +kernel) (by rfl)
theorem tw_693 : Cond.code yX5_restore cX5_restore 2 (some .int) ∈ gw := gw_tab (i := 693) (by decide +kernel) (by rfl)
theorem tw_694 : Cond.methodLink RL 86 yX5_instrument ∈ gw := gw_tab (i := 694) (by decide +kernel) (by rfl)
theorem tw_695 : Cond.instanceMethod yX5_instrument ∈ gw := gw_tab (i := 695) (by decide +kernel) (by rfl)
theorem tw_696 : Cond.selects RX5 yX5_instrument yX5_instrument ∈ gw := gw_tab (i := 696) (by decide +kernel) (by rfl)
theorem tw_697 : Cond.code yX5_instrument cX5_instrument 3 (some .int) ∈ gw := gw_tab (i := 697) (by decide +kernel) (by rfl)
theorem tw_702 : Cond.methodLink RL 90 yX5_pupil ∈ gw := gw_tab (i := 702) (by decide +kernel) (by rfl)
theorem tw_703 : Cond.instanceMethod yX5_pupil ∈ gw := gw_tab (i := 703) (by decide +kernel) (by rfl)
theorem tw_704 : Cond.selects RX5 yX5_pupil yX5_pupil ∈ gw := gw_tab (i := 704) (by decide +kernel) (by rfl)
theorem tw_705 : Cond.code yX5_pupil cX5_pupil 3 (some .int) ∈ gw := gw_tab (i := 705) (by decide +kernel) (by rfl)
theorem tw_722 : Cond.methodLink RL 94 yX5_paper ∈ gw := gw_tab (i := 722) (by decide +kernel) (by rfl)
theorem tw_723 : Cond.instanceMethod yX5_paper ∈ gw := gw_tab (i := 723) (by decide +kernel) (by rfl)
theorem tw_724 : Cond.selects RX5 yX5_paper yX5_paper ∈ gw := gw_tab (i := 724) (by decide +kernel) (by rfl)
theorem tw_725 : Cond.code yX5_paper cX5_paper 3 (some .int) ∈ gw := gw_tab (i := 725) (by decide +kernel) (by rfl)
theorem tw_726 : Cond.methodLink RL 98 yX5_coincidence ∈ gw := gw_tab (i := 726) (by decide +kernel) (by rfl)
theorem tw_727 : Cond.instanceMethod yX5_coincidence ∈ gw := gw_tab (i := 727) (by decide +kernel) (by rfl)
theorem tw_728 : Cond.selects RX5 yX5_coincidence yX5_coincidence ∈ gw := gw_tab (i := 728) (by decide +kernel) (by rfl)
theorem tw_729 : Cond.code yX5_coincidence cX5_coincidence 4 (some .int) ∈ gw := gw_tab (i := 729) (by decide +kernel) (by rfl)
theorem tw_731 : Cond.methodLink RL 102 yX5_answer ∈ gw := gw_tab (i := 731) (by decide +kernel) (by rfl)
theorem tw_732 : Cond.instanceMethod yX5_answer ∈ gw := gw_tab (i := 732) (by decide +kernel) (by rfl)
theorem tw_733 : Cond.selects RX5 yX5_answer yX5_answer ∈ gw := gw_tab (i := 733) (by decide +kernel) (by rfl)
theorem tw_734 : Cond.code yX5_answer cX5_answer 4 (some .int) ∈ gw := gw_tab (i := 734) (by decide +kernel) (by rfl)
theorem tw_735 : Cond.methodLink RL 106 yX5_would ∈ gw := gw_tab (i := 735) (by decide +kernel) (by rfl)
theorem tw_736 : Cond.instanceMethod yX5_would ∈ gw := gw_tab (i := 736) (by decide +kernel) (by rfl)
theorem tw_737 : Cond.selects RX5 yX5_would yX5_would ∈ gw := gw_tab (i := 737) (by decide +kernel) (by rfl)
theorem tw_738 : Cond.code yX5_would cX5_would 9 (some .int) ∈ gw := gw_tab (i := 738) (by decide +kernel) (by rfl)
theorem tw_739 : Cond.methodLink RL 110 yX5_ranked ∈ gw := gw_tab (i := 739) (by decide +kernel) (by rfl)
theorem tw_740 : Cond.instanceMethod yX5_ranked ∈ gw := gw_tab (i := 740) (by decide +kernel) (by rfl)
theorem tw_741 : Cond.selects RX5 yX5_ranked yX5_ranked ∈ gw := gw_tab (i := 741) (by decide +kernel) (by rfl)
theorem tw_742 : Cond.code yX5_ranked cX5_ranked 3 (some .int) ∈ gw := gw_tab (i := 742) (by decide +kernel) (by rfl)
theorem tw_743 : Cond.methodLink RL 118 yX5_count ∈ gw := gw_tab (i := 743) (by decide +kernel) (by rfl)
theorem tw_744 : Cond.instanceMethod yX5_count ∈ gw := gw_tab (i := 744) (by decide +kernel) (by rfl)
theorem tw_745 : Cond.selects RX5 yX5_count yX5_count ∈ gw := gw_tab (i := 745) (by decide +kernel) (by rfl)
theorem tw_746 : Cond.code yX5_count cX5_count 4 (some .int) ∈ gw := gw_tab (i := 746) (by decide +kernel) (by rfl)
theorem dL_law_0 : decode cL_law 0 = .ok (.new 7, 3) := by decide +kernel
theorem dL_law_3 : decode cL_law 3 = .ok (.dup, 1) := by decide +kernel
theorem dL_law_4 : decode cL_law 4 = .ok (.invokespecial 9, 3) := by decide +kernel
theorem dL_law_7 : decode cL_law 7 = .ok (.astore_n 1, 1) := by decide +kernel
theorem dL_law_8 : decode cL_law 8 = .ok (.new 10, 3) := by decide +kernel
theorem dL_law_11 : decode cL_law 11 = .ok (.dup, 1) := by decide +kernel
theorem dL_law_12 : decode cL_law 12 = .ok (.invokespecial 12, 3) := by decide +kernel
theorem dL_law_15 : decode cL_law 15 = .ok (.astore_n 2, 1) := by decide +kernel
theorem dL_law_16 : decode cL_law 16 = .ok (.iconst 0, 1) := by decide +kernel
theorem dL_law_17 : decode cL_law 17 = .ok (.istore_n 3, 1) := by decide +kernel
theorem dL_law_18 : decode cL_law 18 = .ok (.iload_n 3, 1) := by decide +kernel
theorem dL_law_19 : decode cL_law 19 = .ok (.aload_n 0, 1) := by decide +kernel
theorem dL_law_20 : decode cL_law 20 = .ok (.arraylength, 1) := by decide +kernel
theorem dL_law_21 : decode cL_law 21 = .ok (.iconst 5, 1) := by decide +kernel
theorem dL_law_22 : decode cL_law 22 = .ok (.isub, 1) := by decide +kernel
theorem dL_law_23 : decode cL_law 23 = .ok (.if_icmp .gt 874, 3) := by decide +kernel
theorem dL_law_26 : decode cL_law 26 = .ok (.aload_n 0, 1) := by decide +kernel
theorem dL_law_27 : decode cL_law 27 = .ok (.iload_n 3, 1) := by decide +kernel
theorem dL_law_28 : decode cL_law 28 = .ok (.iaload, 1) := by decide +kernel
theorem dL_law_29 : decode cL_law 29 = .ok (.bipush 31, 2) := by decide +kernel
theorem dL_law_31 : decode cL_law 31 = .ok (.iand, 1) := by decide +kernel
theorem dL_law_32 : decode cL_law 32 = .ok (.tableswitch 859 0 24 #[116, 185, 228, 261, 284, 317, 350, 393, 436, 469, 482, 507, 520, 533, 546, 559, 572, 605, 638, 671, 714, 757, 790, 813, 836], 116) := by decide +kernel
theorem dL_law_148 : decode cL_law 148 = .ok (.aload_n 1, 1) := by decide +kernel
theorem dL_law_149 : decode cL_law 149 = .ok (.aload_n 0, 1) := by decide +kernel
theorem dL_law_150 : decode cL_law 150 = .ok (.iload_n 3, 1) := by decide +kernel
theorem dL_law_151 : decode cL_law 151 = .ok (.iconst 1, 1) := by decide +kernel
theorem dL_law_152 : decode cL_law 152 = .ok (.iadd, 1) := by decide +kernel
theorem dL_law_153 : decode cL_law 153 = .ok (.iaload, 1) := by decide +kernel
theorem dL_law_154 : decode cL_law 154 = .ok (.aload_n 0, 1) := by decide +kernel
theorem dL_law_155 : decode cL_law 155 = .ok (.iload_n 3, 1) := by decide +kernel
theorem dL_law_156 : decode cL_law 156 = .ok (.iconst 2, 1) := by decide +kernel
theorem dL_law_157 : decode cL_law 157 = .ok (.iadd, 1) := by decide +kernel
theorem dL_law_158 : decode cL_law 158 = .ok (.iaload, 1) := by decide +kernel
theorem dL_law_159 : decode cL_law 159 = .ok (.aload_n 0, 1) := by decide +kernel
theorem dL_law_160 : decode cL_law 160 = .ok (.iload_n 3, 1) := by decide +kernel
theorem dL_law_161 : decode cL_law 161 = .ok (.iconst 3, 1) := by decide +kernel
theorem dL_law_162 : decode cL_law 162 = .ok (.iadd, 1) := by decide +kernel
theorem dL_law_163 : decode cL_law 163 = .ok (.iaload, 1) := by decide +kernel
theorem dL_law_164 : decode cL_law 164 = .ok (.aload_n 0, 1) := by decide +kernel
theorem dL_law_165 : decode cL_law 165 = .ok (.iload_n 3, 1) := by decide +kernel
theorem dL_law_166 : decode cL_law 166 = .ok (.iconst 4, 1) := by decide +kernel
theorem dL_law_167 : decode cL_law 167 = .ok (.iadd, 1) := by decide +kernel
theorem dL_law_168 : decode cL_law 168 = .ok (.iaload, 1) := by decide +kernel
theorem dL_law_169 : decode cL_law 169 = .ok (.ifCond .eq 7, 3) := by decide +kernel
theorem dL_law_172 : decode cL_law 172 = .ok (.iconst 1, 1) := by decide +kernel
theorem dL_law_173 : decode cL_law 173 = .ok (.goto 4, 3) := by decide +kernel
theorem dL_law_176 : decode cL_law 176 = .ok (.iconst 0, 1) := by decide +kernel
theorem dL_law_177 : decode cL_law 177 = .ok (.invokevirtual 13, 3) := by decide +kernel
theorem dL_law_180 : decode cL_law 180 = .ok (.aload_n 2, 1) := by decide +kernel
theorem dL_law_181 : decode cL_law 181 = .ok (.aload_n 0, 1) := by decide +kernel
theorem dL_law_182 : decode cL_law 182 = .ok (.iload_n 3, 1) := by decide +kernel
theorem dL_law_183 : decode cL_law 183 = .ok (.iconst 1, 1) := by decide +kernel
theorem dL_law_184 : decode cL_law 184 = .ok (.iadd, 1) := by decide +kernel
theorem dL_law_185 : decode cL_law 185 = .ok (.iaload, 1) := by decide +kernel
theorem dL_law_186 : decode cL_law 186 = .ok (.aload_n 0, 1) := by decide +kernel
theorem dL_law_187 : decode cL_law 187 = .ok (.iload_n 3, 1) := by decide +kernel
theorem dL_law_188 : decode cL_law 188 = .ok (.iconst 2, 1) := by decide +kernel
theorem dL_law_189 : decode cL_law 189 = .ok (.iadd, 1) := by decide +kernel
theorem dL_law_190 : decode cL_law 190 = .ok (.iaload, 1) := by decide +kernel
theorem dL_law_191 : decode cL_law 191 = .ok (.aload_n 0, 1) := by decide +kernel
theorem dL_law_192 : decode cL_law 192 = .ok (.iload_n 3, 1) := by decide +kernel
theorem dL_law_193 : decode cL_law 193 = .ok (.iconst 3, 1) := by decide +kernel
theorem dL_law_194 : decode cL_law 194 = .ok (.iadd, 1) := by decide +kernel
theorem dL_law_195 : decode cL_law 195 = .ok (.iaload, 1) := by decide +kernel
theorem dL_law_196 : decode cL_law 196 = .ok (.aload_n 0, 1) := by decide +kernel
theorem dL_law_197 : decode cL_law 197 = .ok (.iload_n 3, 1) := by decide +kernel
theorem dL_law_198 : decode cL_law 198 = .ok (.iconst 4, 1) := by decide +kernel
theorem dL_law_199 : decode cL_law 199 = .ok (.iadd, 1) := by decide +kernel
theorem dL_law_200 : decode cL_law 200 = .ok (.iaload, 1) := by decide +kernel
theorem dL_law_201 : decode cL_law 201 = .ok (.ifCond .eq 7, 3) := by decide +kernel
theorem dL_law_204 : decode cL_law 204 = .ok (.iconst 1, 1) := by decide +kernel
theorem dL_law_205 : decode cL_law 205 = .ok (.goto 4, 3) := by decide +kernel
theorem dL_law_208 : decode cL_law 208 = .ok (.iconst 0, 1) := by decide +kernel
theorem dL_law_209 : decode cL_law 209 = .ok (.invokevirtual 17, 3) := by decide +kernel
theorem dL_law_212 : decode cL_law 212 = .ok (.if_icmp .eq 679, 3) := by decide +kernel
theorem dL_law_215 : decode cL_law 215 = .ok (.iconst 0, 1) := by decide +kernel
theorem dL_law_216 : decode cL_law 216 = .ok (.ireturn, 1) := by decide +kernel
theorem dL_law_217 : decode cL_law 217 = .ok (.aload_n 1, 1) := by decide +kernel
theorem dL_law_218 : decode cL_law 218 = .ok (.aload_n 0, 1) := by decide +kernel
theorem dL_law_219 : decode cL_law 219 = .ok (.iload_n 3, 1) := by decide +kernel
theorem dL_law_220 : decode cL_law 220 = .ok (.iconst 1, 1) := by decide +kernel
theorem dL_law_221 : decode cL_law 221 = .ok (.iadd, 1) := by decide +kernel
theorem dL_law_222 : decode cL_law 222 = .ok (.iaload, 1) := by decide +kernel
theorem dL_law_223 : decode cL_law 223 = .ok (.aload_n 0, 1) := by decide +kernel
theorem dL_law_224 : decode cL_law 224 = .ok (.iload_n 3, 1) := by decide +kernel
theorem dL_law_225 : decode cL_law 225 = .ok (.iconst 2, 1) := by decide +kernel
theorem dL_law_226 : decode cL_law 226 = .ok (.iadd, 1) := by decide +kernel
theorem dL_law_227 : decode cL_law 227 = .ok (.iaload, 1) := by decide +kernel
theorem dL_law_228 : decode cL_law 228 = .ok (.aload_n 0, 1) := by decide +kernel
theorem dL_law_229 : decode cL_law 229 = .ok (.iload_n 3, 1) := by decide +kernel
theorem dL_law_230 : decode cL_law 230 = .ok (.iconst 3, 1) := by decide +kernel
theorem dL_law_231 : decode cL_law 231 = .ok (.iadd, 1) := by decide +kernel
theorem dL_law_232 : decode cL_law 232 = .ok (.iaload, 1) := by decide +kernel
theorem dL_law_233 : decode cL_law 233 = .ok (.invokevirtual 18, 3) := by decide +kernel
theorem dL_law_236 : decode cL_law 236 = .ok (.aload_n 2, 1) := by decide +kernel
theorem dL_law_237 : decode cL_law 237 = .ok (.aload_n 0, 1) := by decide +kernel
theorem dL_law_238 : decode cL_law 238 = .ok (.iload_n 3, 1) := by decide +kernel
theorem dL_law_239 : decode cL_law 239 = .ok (.iconst 1, 1) := by decide +kernel
theorem dL_law_240 : decode cL_law 240 = .ok (.iadd, 1) := by decide +kernel
theorem dL_law_241 : decode cL_law 241 = .ok (.iaload, 1) := by decide +kernel
theorem dL_law_242 : decode cL_law 242 = .ok (.aload_n 0, 1) := by decide +kernel
theorem dL_law_243 : decode cL_law 243 = .ok (.iload_n 3, 1) := by decide +kernel
theorem dL_law_244 : decode cL_law 244 = .ok (.iconst 2, 1) := by decide +kernel
theorem dL_law_245 : decode cL_law 245 = .ok (.iadd, 1) := by decide +kernel
theorem dL_law_246 : decode cL_law 246 = .ok (.iaload, 1) := by decide +kernel
theorem dL_law_247 : decode cL_law 247 = .ok (.aload_n 0, 1) := by decide +kernel
theorem dL_law_248 : decode cL_law 248 = .ok (.iload_n 3, 1) := by decide +kernel
theorem dL_law_249 : decode cL_law 249 = .ok (.iconst 3, 1) := by decide +kernel
theorem dL_law_250 : decode cL_law 250 = .ok (.iadd, 1) := by decide +kernel
theorem dL_law_251 : decode cL_law 251 = .ok (.iaload, 1) := by decide +kernel
theorem dL_law_252 : decode cL_law 252 = .ok (.invokevirtual 22, 3) := by decide +kernel
theorem dL_law_255 : decode cL_law 255 = .ok (.if_icmp .eq 636, 3) := by decide +kernel
theorem dL_law_258 : decode cL_law 258 = .ok (.iconst 0, 1) := by decide +kernel
theorem dL_law_259 : decode cL_law 259 = .ok (.ireturn, 1) := by decide +kernel
theorem dL_law_260 : decode cL_law 260 = .ok (.aload_n 1, 1) := by decide +kernel
theorem dL_law_261 : decode cL_law 261 = .ok (.aload_n 0, 1) := by decide +kernel
theorem dL_law_262 : decode cL_law 262 = .ok (.iload_n 3, 1) := by decide +kernel
theorem dL_law_263 : decode cL_law 263 = .ok (.iconst 1, 1) := by decide +kernel
theorem dL_law_264 : decode cL_law 264 = .ok (.iadd, 1) := by decide +kernel
theorem dL_law_265 : decode cL_law 265 = .ok (.iaload, 1) := by decide +kernel
theorem dL_law_266 : decode cL_law 266 = .ok (.aload_n 0, 1) := by decide +kernel
theorem dL_law_267 : decode cL_law 267 = .ok (.iload_n 3, 1) := by decide +kernel
theorem dL_law_268 : decode cL_law 268 = .ok (.iconst 2, 1) := by decide +kernel
theorem dL_law_269 : decode cL_law 269 = .ok (.iadd, 1) := by decide +kernel
theorem dL_law_270 : decode cL_law 270 = .ok (.iaload, 1) := by decide +kernel
theorem dL_law_271 : decode cL_law 271 = .ok (.invokevirtual 23, 3) := by decide +kernel
theorem dL_law_274 : decode cL_law 274 = .ok (.aload_n 2, 1) := by decide +kernel
theorem dL_law_275 : decode cL_law 275 = .ok (.aload_n 0, 1) := by decide +kernel
theorem dL_law_276 : decode cL_law 276 = .ok (.iload_n 3, 1) := by decide +kernel
theorem dL_law_277 : decode cL_law 277 = .ok (.iconst 1, 1) := by decide +kernel
theorem dL_law_278 : decode cL_law 278 = .ok (.iadd, 1) := by decide +kernel
theorem dL_law_279 : decode cL_law 279 = .ok (.iaload, 1) := by decide +kernel
theorem dL_law_280 : decode cL_law 280 = .ok (.aload_n 0, 1) := by decide +kernel
theorem dL_law_281 : decode cL_law 281 = .ok (.iload_n 3, 1) := by decide +kernel
theorem dL_law_282 : decode cL_law 282 = .ok (.iconst 2, 1) := by decide +kernel
theorem dL_law_283 : decode cL_law 283 = .ok (.iadd, 1) := by decide +kernel
theorem dL_law_284 : decode cL_law 284 = .ok (.iaload, 1) := by decide +kernel
theorem dL_law_285 : decode cL_law 285 = .ok (.invokevirtual 27, 3) := by decide +kernel
theorem dL_law_288 : decode cL_law 288 = .ok (.if_icmp .eq 603, 3) := by decide +kernel
theorem dL_law_291 : decode cL_law 291 = .ok (.iconst 0, 1) := by decide +kernel
theorem dL_law_292 : decode cL_law 292 = .ok (.ireturn, 1) := by decide +kernel
theorem dL_law_293 : decode cL_law 293 = .ok (.aload_n 1, 1) := by decide +kernel
theorem dL_law_294 : decode cL_law 294 = .ok (.aload_n 0, 1) := by decide +kernel
theorem dL_law_295 : decode cL_law 295 = .ok (.iload_n 3, 1) := by decide +kernel
theorem dL_law_296 : decode cL_law 296 = .ok (.iconst 1, 1) := by decide +kernel
theorem dL_law_297 : decode cL_law 297 = .ok (.iadd, 1) := by decide +kernel
theorem dL_law_298 : decode cL_law 298 = .ok (.iaload, 1) := by decide +kernel
theorem dL_law_299 : decode cL_law 299 = .ok (.invokevirtual 28, 3) := by decide +kernel
theorem dL_law_302 : decode cL_law 302 = .ok (.aload_n 2, 1) := by decide +kernel
theorem dL_law_303 : decode cL_law 303 = .ok (.aload_n 0, 1) := by decide +kernel
theorem dL_law_304 : decode cL_law 304 = .ok (.iload_n 3, 1) := by decide +kernel
theorem dL_law_305 : decode cL_law 305 = .ok (.iconst 1, 1) := by decide +kernel
theorem dL_law_306 : decode cL_law 306 = .ok (.iadd, 1) := by decide +kernel
theorem dL_law_307 : decode cL_law 307 = .ok (.iaload, 1) := by decide +kernel
theorem dL_law_308 : decode cL_law 308 = .ok (.invokevirtual 32, 3) := by decide +kernel
theorem dL_law_311 : decode cL_law 311 = .ok (.if_icmp .eq 580, 3) := by decide +kernel
theorem dL_law_314 : decode cL_law 314 = .ok (.iconst 0, 1) := by decide +kernel
theorem dL_law_315 : decode cL_law 315 = .ok (.ireturn, 1) := by decide +kernel
theorem dL_law_316 : decode cL_law 316 = .ok (.aload_n 1, 1) := by decide +kernel
theorem dL_law_317 : decode cL_law 317 = .ok (.aload_n 0, 1) := by decide +kernel
theorem dL_law_318 : decode cL_law 318 = .ok (.iload_n 3, 1) := by decide +kernel
theorem dL_law_319 : decode cL_law 319 = .ok (.iconst 1, 1) := by decide +kernel
theorem dL_law_320 : decode cL_law 320 = .ok (.iadd, 1) := by decide +kernel
theorem dL_law_321 : decode cL_law 321 = .ok (.iaload, 1) := by decide +kernel
theorem dL_law_322 : decode cL_law 322 = .ok (.aload_n 0, 1) := by decide +kernel
theorem dL_law_323 : decode cL_law 323 = .ok (.iload_n 3, 1) := by decide +kernel
theorem dL_law_324 : decode cL_law 324 = .ok (.iconst 2, 1) := by decide +kernel
theorem dL_law_325 : decode cL_law 325 = .ok (.iadd, 1) := by decide +kernel
theorem dL_law_326 : decode cL_law 326 = .ok (.iaload, 1) := by decide +kernel
theorem dL_law_327 : decode cL_law 327 = .ok (.invokevirtual 33, 3) := by decide +kernel
theorem dL_law_330 : decode cL_law 330 = .ok (.aload_n 2, 1) := by decide +kernel
theorem dL_law_331 : decode cL_law 331 = .ok (.aload_n 0, 1) := by decide +kernel
theorem dL_law_332 : decode cL_law 332 = .ok (.iload_n 3, 1) := by decide +kernel
theorem dL_law_333 : decode cL_law 333 = .ok (.iconst 1, 1) := by decide +kernel
theorem dL_law_334 : decode cL_law 334 = .ok (.iadd, 1) := by decide +kernel
theorem dL_law_335 : decode cL_law 335 = .ok (.iaload, 1) := by decide +kernel
theorem dL_law_336 : decode cL_law 336 = .ok (.aload_n 0, 1) := by decide +kernel
theorem dL_law_337 : decode cL_law 337 = .ok (.iload_n 3, 1) := by decide +kernel
theorem dL_law_338 : decode cL_law 338 = .ok (.iconst 2, 1) := by decide +kernel
theorem dL_law_339 : decode cL_law 339 = .ok (.iadd, 1) := by decide +kernel
theorem dL_law_340 : decode cL_law 340 = .ok (.iaload, 1) := by decide +kernel
theorem dL_law_341 : decode cL_law 341 = .ok (.invokevirtual 36, 3) := by decide +kernel
theorem dL_law_344 : decode cL_law 344 = .ok (.if_icmp .eq 547, 3) := by decide +kernel
theorem dL_law_347 : decode cL_law 347 = .ok (.iconst 0, 1) := by decide +kernel
theorem dL_law_348 : decode cL_law 348 = .ok (.ireturn, 1) := by decide +kernel
theorem dL_law_349 : decode cL_law 349 = .ok (.aload_n 1, 1) := by decide +kernel
theorem dL_law_350 : decode cL_law 350 = .ok (.aload_n 0, 1) := by decide +kernel
theorem dL_law_351 : decode cL_law 351 = .ok (.iload_n 3, 1) := by decide +kernel
theorem dL_law_352 : decode cL_law 352 = .ok (.iconst 1, 1) := by decide +kernel
theorem dL_law_353 : decode cL_law 353 = .ok (.iadd, 1) := by decide +kernel
theorem dL_law_354 : decode cL_law 354 = .ok (.iaload, 1) := by decide +kernel
theorem dL_law_355 : decode cL_law 355 = .ok (.aload_n 0, 1) := by decide +kernel
theorem dL_law_356 : decode cL_law 356 = .ok (.iload_n 3, 1) := by decide +kernel
theorem dL_law_357 : decode cL_law 357 = .ok (.iconst 2, 1) := by decide +kernel
theorem dL_law_358 : decode cL_law 358 = .ok (.iadd, 1) := by decide +kernel
theorem dL_law_359 : decode cL_law 359 = .ok (.iaload, 1) := by decide +kernel
theorem dL_law_360 : decode cL_law 360 = .ok (.invokevirtual 37, 3) := by decide +kernel
theorem dL_law_363 : decode cL_law 363 = .ok (.aload_n 2, 1) := by decide +kernel
theorem dL_law_364 : decode cL_law 364 = .ok (.aload_n 0, 1) := by decide +kernel
theorem dL_law_365 : decode cL_law 365 = .ok (.iload_n 3, 1) := by decide +kernel
theorem dL_law_366 : decode cL_law 366 = .ok (.iconst 1, 1) := by decide +kernel
theorem dL_law_367 : decode cL_law 367 = .ok (.iadd, 1) := by decide +kernel
theorem dL_law_368 : decode cL_law 368 = .ok (.iaload, 1) := by decide +kernel
theorem dL_law_369 : decode cL_law 369 = .ok (.aload_n 0, 1) := by decide +kernel
theorem dL_law_370 : decode cL_law 370 = .ok (.iload_n 3, 1) := by decide +kernel
theorem dL_law_371 : decode cL_law 371 = .ok (.iconst 2, 1) := by decide +kernel
theorem dL_law_372 : decode cL_law 372 = .ok (.iadd, 1) := by decide +kernel
theorem dL_law_373 : decode cL_law 373 = .ok (.iaload, 1) := by decide +kernel
theorem dL_law_374 : decode cL_law 374 = .ok (.invokevirtual 40, 3) := by decide +kernel
theorem dL_law_377 : decode cL_law 377 = .ok (.if_icmp .eq 514, 3) := by decide +kernel
theorem dL_law_380 : decode cL_law 380 = .ok (.iconst 0, 1) := by decide +kernel
theorem dL_law_381 : decode cL_law 381 = .ok (.ireturn, 1) := by decide +kernel
theorem dL_law_382 : decode cL_law 382 = .ok (.aload_n 1, 1) := by decide +kernel
theorem dL_law_383 : decode cL_law 383 = .ok (.aload_n 0, 1) := by decide +kernel
theorem dL_law_384 : decode cL_law 384 = .ok (.iload_n 3, 1) := by decide +kernel
theorem dL_law_385 : decode cL_law 385 = .ok (.iconst 1, 1) := by decide +kernel
theorem dL_law_386 : decode cL_law 386 = .ok (.iadd, 1) := by decide +kernel
theorem dL_law_387 : decode cL_law 387 = .ok (.iaload, 1) := by decide +kernel
theorem dL_law_388 : decode cL_law 388 = .ok (.aload_n 0, 1) := by decide +kernel
theorem dL_law_389 : decode cL_law 389 = .ok (.iload_n 3, 1) := by decide +kernel
theorem dL_law_390 : decode cL_law 390 = .ok (.iconst 2, 1) := by decide +kernel
theorem dL_law_391 : decode cL_law 391 = .ok (.iadd, 1) := by decide +kernel
theorem dL_law_392 : decode cL_law 392 = .ok (.iaload, 1) := by decide +kernel
theorem dL_law_393 : decode cL_law 393 = .ok (.aload_n 0, 1) := by decide +kernel
theorem dL_law_394 : decode cL_law 394 = .ok (.iload_n 3, 1) := by decide +kernel
theorem dL_law_395 : decode cL_law 395 = .ok (.iconst 3, 1) := by decide +kernel
theorem dL_law_396 : decode cL_law 396 = .ok (.iadd, 1) := by decide +kernel
theorem dL_law_397 : decode cL_law 397 = .ok (.iaload, 1) := by decide +kernel
theorem dL_law_398 : decode cL_law 398 = .ok (.invokevirtual 41, 3) := by decide +kernel
theorem dL_law_401 : decode cL_law 401 = .ok (.aload_n 2, 1) := by decide +kernel
theorem dL_law_402 : decode cL_law 402 = .ok (.aload_n 0, 1) := by decide +kernel
theorem dL_law_403 : decode cL_law 403 = .ok (.iload_n 3, 1) := by decide +kernel
theorem dL_law_404 : decode cL_law 404 = .ok (.iconst 1, 1) := by decide +kernel
theorem dL_law_405 : decode cL_law 405 = .ok (.iadd, 1) := by decide +kernel
theorem dL_law_406 : decode cL_law 406 = .ok (.iaload, 1) := by decide +kernel
theorem dL_law_407 : decode cL_law 407 = .ok (.aload_n 0, 1) := by decide +kernel
theorem dL_law_408 : decode cL_law 408 = .ok (.iload_n 3, 1) := by decide +kernel
theorem dL_law_409 : decode cL_law 409 = .ok (.iconst 2, 1) := by decide +kernel
theorem dL_law_410 : decode cL_law 410 = .ok (.iadd, 1) := by decide +kernel
theorem dL_law_411 : decode cL_law 411 = .ok (.iaload, 1) := by decide +kernel
theorem dL_law_412 : decode cL_law 412 = .ok (.aload_n 0, 1) := by decide +kernel
theorem dL_law_413 : decode cL_law 413 = .ok (.iload_n 3, 1) := by decide +kernel
theorem dL_law_414 : decode cL_law 414 = .ok (.iconst 3, 1) := by decide +kernel
theorem dL_law_415 : decode cL_law 415 = .ok (.iadd, 1) := by decide +kernel
theorem dL_law_416 : decode cL_law 416 = .ok (.iaload, 1) := by decide +kernel
theorem dL_law_417 : decode cL_law 417 = .ok (.invokevirtual 44, 3) := by decide +kernel
theorem dL_law_420 : decode cL_law 420 = .ok (.if_icmp .eq 471, 3) := by decide +kernel
theorem dL_law_423 : decode cL_law 423 = .ok (.iconst 0, 1) := by decide +kernel
theorem dL_law_424 : decode cL_law 424 = .ok (.ireturn, 1) := by decide +kernel
theorem dL_law_425 : decode cL_law 425 = .ok (.aload_n 1, 1) := by decide +kernel
theorem dL_law_426 : decode cL_law 426 = .ok (.aload_n 0, 1) := by decide +kernel
theorem dL_law_427 : decode cL_law 427 = .ok (.iload_n 3, 1) := by decide +kernel
theorem dL_law_428 : decode cL_law 428 = .ok (.iconst 1, 1) := by decide +kernel
theorem dL_law_429 : decode cL_law 429 = .ok (.iadd, 1) := by decide +kernel
theorem dL_law_430 : decode cL_law 430 = .ok (.iaload, 1) := by decide +kernel
theorem dL_law_431 : decode cL_law 431 = .ok (.aload_n 0, 1) := by decide +kernel
theorem dL_law_432 : decode cL_law 432 = .ok (.iload_n 3, 1) := by decide +kernel
theorem dL_law_433 : decode cL_law 433 = .ok (.iconst 2, 1) := by decide +kernel
theorem dL_law_434 : decode cL_law 434 = .ok (.iadd, 1) := by decide +kernel
theorem dL_law_435 : decode cL_law 435 = .ok (.iaload, 1) := by decide +kernel
theorem dL_law_436 : decode cL_law 436 = .ok (.aload_n 0, 1) := by decide +kernel
theorem dL_law_437 : decode cL_law 437 = .ok (.iload_n 3, 1) := by decide +kernel
theorem dL_law_438 : decode cL_law 438 = .ok (.iconst 3, 1) := by decide +kernel
theorem dL_law_439 : decode cL_law 439 = .ok (.iadd, 1) := by decide +kernel
theorem dL_law_440 : decode cL_law 440 = .ok (.iaload, 1) := by decide +kernel
theorem dL_law_441 : decode cL_law 441 = .ok (.invokevirtual 45, 3) := by decide +kernel
theorem dL_law_444 : decode cL_law 444 = .ok (.aload_n 2, 1) := by decide +kernel
theorem dL_law_445 : decode cL_law 445 = .ok (.aload_n 0, 1) := by decide +kernel
theorem dL_law_446 : decode cL_law 446 = .ok (.iload_n 3, 1) := by decide +kernel
theorem dL_law_447 : decode cL_law 447 = .ok (.iconst 1, 1) := by decide +kernel
theorem dL_law_448 : decode cL_law 448 = .ok (.iadd, 1) := by decide +kernel
theorem dL_law_449 : decode cL_law 449 = .ok (.iaload, 1) := by decide +kernel
theorem dL_law_450 : decode cL_law 450 = .ok (.aload_n 0, 1) := by decide +kernel
theorem dL_law_451 : decode cL_law 451 = .ok (.iload_n 3, 1) := by decide +kernel
theorem dL_law_452 : decode cL_law 452 = .ok (.iconst 2, 1) := by decide +kernel
theorem dL_law_453 : decode cL_law 453 = .ok (.iadd, 1) := by decide +kernel
theorem dL_law_454 : decode cL_law 454 = .ok (.iaload, 1) := by decide +kernel
theorem dL_law_455 : decode cL_law 455 = .ok (.aload_n 0, 1) := by decide +kernel
theorem dL_law_456 : decode cL_law 456 = .ok (.iload_n 3, 1) := by decide +kernel
theorem dL_law_457 : decode cL_law 457 = .ok (.iconst 3, 1) := by decide +kernel
theorem dL_law_458 : decode cL_law 458 = .ok (.iadd, 1) := by decide +kernel
theorem dL_law_459 : decode cL_law 459 = .ok (.iaload, 1) := by decide +kernel
theorem dL_law_460 : decode cL_law 460 = .ok (.invokevirtual 48, 3) := by decide +kernel
theorem dL_law_463 : decode cL_law 463 = .ok (.if_icmp .eq 428, 3) := by decide +kernel
theorem dL_law_466 : decode cL_law 466 = .ok (.iconst 0, 1) := by decide +kernel
theorem dL_law_467 : decode cL_law 467 = .ok (.ireturn, 1) := by decide +kernel
theorem dL_law_468 : decode cL_law 468 = .ok (.aload_n 1, 1) := by decide +kernel
theorem dL_law_469 : decode cL_law 469 = .ok (.aload_n 0, 1) := by decide +kernel
theorem dL_law_470 : decode cL_law 470 = .ok (.iload_n 3, 1) := by decide +kernel
theorem dL_law_471 : decode cL_law 471 = .ok (.iconst 1, 1) := by decide +kernel
theorem dL_law_472 : decode cL_law 472 = .ok (.iadd, 1) := by decide +kernel
theorem dL_law_473 : decode cL_law 473 = .ok (.iaload, 1) := by decide +kernel
theorem dL_law_474 : decode cL_law 474 = .ok (.aload_n 0, 1) := by decide +kernel
theorem dL_law_475 : decode cL_law 475 = .ok (.iload_n 3, 1) := by decide +kernel
theorem dL_law_476 : decode cL_law 476 = .ok (.iconst 2, 1) := by decide +kernel
theorem dL_law_477 : decode cL_law 477 = .ok (.iadd, 1) := by decide +kernel
theorem dL_law_478 : decode cL_law 478 = .ok (.iaload, 1) := by decide +kernel
theorem dL_law_479 : decode cL_law 479 = .ok (.invokevirtual 49, 3) := by decide +kernel
theorem dL_law_482 : decode cL_law 482 = .ok (.aload_n 2, 1) := by decide +kernel
theorem dL_law_483 : decode cL_law 483 = .ok (.aload_n 0, 1) := by decide +kernel
theorem dL_law_484 : decode cL_law 484 = .ok (.iload_n 3, 1) := by decide +kernel
theorem dL_law_485 : decode cL_law 485 = .ok (.iconst 1, 1) := by decide +kernel
theorem dL_law_486 : decode cL_law 486 = .ok (.iadd, 1) := by decide +kernel
theorem dL_law_487 : decode cL_law 487 = .ok (.iaload, 1) := by decide +kernel
theorem dL_law_488 : decode cL_law 488 = .ok (.aload_n 0, 1) := by decide +kernel
theorem dL_law_489 : decode cL_law 489 = .ok (.iload_n 3, 1) := by decide +kernel
theorem dL_law_490 : decode cL_law 490 = .ok (.iconst 2, 1) := by decide +kernel
theorem dL_law_491 : decode cL_law 491 = .ok (.iadd, 1) := by decide +kernel
theorem dL_law_492 : decode cL_law 492 = .ok (.iaload, 1) := by decide +kernel
theorem dL_law_493 : decode cL_law 493 = .ok (.invokevirtual 52, 3) := by decide +kernel
theorem dL_law_496 : decode cL_law 496 = .ok (.if_icmp .eq 395, 3) := by decide +kernel
theorem dL_law_499 : decode cL_law 499 = .ok (.iconst 0, 1) := by decide +kernel
theorem dL_law_500 : decode cL_law 500 = .ok (.ireturn, 1) := by decide +kernel
theorem dL_law_501 : decode cL_law 501 = .ok (.aload_n 1, 1) := by decide +kernel
theorem dL_law_502 : decode cL_law 502 = .ok (.invokevirtual 53, 3) := by decide +kernel
theorem dL_law_505 : decode cL_law 505 = .ok (.aload_n 2, 1) := by decide +kernel
theorem dL_law_506 : decode cL_law 506 = .ok (.invokevirtual 57, 3) := by decide +kernel
theorem dL_law_509 : decode cL_law 509 = .ok (.if_icmp .eq 382, 3) := by decide +kernel
theorem dL_law_512 : decode cL_law 512 = .ok (.iconst 0, 1) := by decide +kernel
theorem dL_law_513 : decode cL_law 513 = .ok (.ireturn, 1) := by decide +kernel
