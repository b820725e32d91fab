theorem tw_0 : Cond.initialized RL ∈ gw := gw_tab (i := 0) (by decide +kernel) (by rfl)
theorem tw_116 : Cond.methodLink RL 90 yX4_decide ∈ gw := gw_tab (i := 116) (by decide +kernel) (by rfl)
theorem tw_117 : Cond.instanceMethod yX4_decide ∈ gw := gw_tab (i := 117) (by decide +kernel) (by rfl)
theorem tw_118 : Cond.selects RX4 yX4_decide yX4_decide ∈ gw := gw_tab (i := 118) (by decide +kernel) (by rfl)
theorem tw_119 : Cond.code yX4_decide cX4_decide 3 (some .int) ∈ gw := gw_tab (i := 119) (by decide +kernel) (by rfl)
theorem tw_314 : Cond.methodLink RL 47 yX4_coincidence ∈ gw := gw_tab (i := 314) (by decide +kernel) (by rfl)
theorem tw_315 : Cond.instanceMethod yX4_coincidence ∈ gw := gw_tab (i := 315) (by decide +kernel) (by rfl)
theorem tw_316 : Cond.selects RX4 yX4_coincidence yX4_coincidence ∈ gw := gw_tab (i := 316) (by decide +kernel) (by rfl)
theorem tw_317 : Cond.code yX4_coincidence cX4_coincidence 10 (some .int) ∈ gw := gw_tab (i := 317) (by decide +kernel) (by rfl)
theorem tw_326 : Cond.methodLink RL 34 yX4_ranked ∈ gw := gw_tab (i := 326) (by decide +kernel) (by rfl)
theorem tw_327 : Cond.instanceMethod yX4_ranked ∈ gw := gw_tab (i := 327) (by decide +kernel) (by rfl)
theorem tw_328 : Cond.selects RX4 yX4_ranked yX4_ranked ∈ gw := gw_tab (i := 328) (by decide +kernel) (by rfl)
theorem tw_329 : Cond.code yX4_ranked cX4_ranked 3 (some .int) ∈ gw := gw_tab (i := 329) (by decide +kernel) (by rfl)
theorem tw_338 : Cond.methodLink RL 13 yX4_count ∈ gw := gw_tab (i := 338) (by decide +kernel) (by rfl)
theorem tw_339 : Cond.instanceMethod yX4_count ∈ gw := gw_tab (i := 339) (by decide +kernel) (by rfl)
theorem tw_340 : Cond.selects RX4 yX4_count yX4_count ∈ gw := gw_tab (i := 340) (by decide +kernel) (by rfl)
theorem tw_341 : Cond.code yX4_count cX4_count 2 (some .int) ∈ gw := gw_tab (i := 341) (by decide +kernel) (by rfl)
theorem tw_358 : Cond.methodLink RL 57 yL_low ∈ gw := gw_tab (i := 358) (by decide +kernel) (by rfl)
theorem tw_359 : Cond.static yL_low ∈ gw := gw_tab (i := 359) (by decide +kernel) (by rfl)
theorem tw_360 : Cond.code yL_low cL_low 2 (some .int) ∈ gw := gw_tab (i := 360) (by decide +kernel) (by rfl)
theorem tw_361 : Cond.constant RL 8 (2147483647 : Int32) ∈ gw := gw_tab (i := 361) (by decide +kernel) (by rfl)
theorem tw_365 : Cond.constantLong RL 9 (67 : Int64) ∈ gw := gw_tab (i := 365) (by decide +kernel) (by rfl)
theorem tw_366 : Cond.constantLong RL 11 (31 : Int64) ∈ gw := gw_tab (i := 366) (by decide +kernel) (by rfl)
theorem tw_367 : Cond.methodLink RL 19 yX4_instrument ∈ gw := gw_tab (i := 367) (by decide +kernel) (by rfl)
theorem tw_368 : Cond.instanceMethod yX4_instrument ∈ gw := gw_tab (i := 368) (by decide +kernel) (by rfl)
theorem tw_369 : Cond.selects RX4 yX4_instrument yX4_instrument ∈ gw := gw_tab (i := 369) (by decide +kernel) (by rfl)
theorem tw_370 : Cond.code yX4_instrument cX4_instrument 3 (some .int) ∈ gw := gw_tab (i := 370) (by decide +kernel) (by rfl)
theorem tw_371 : Cond.methodLink RL 23 yX4_pupil ∈ gw := gw_tab (i := 371) (by decide +kernel) (by rfl)
theorem tw_372 : Cond.instanceMethod yX4_pupil ∈ gw := gw_tab (i := 372) (by decide +kernel) (by rfl)
theorem tw_373 : Cond.selects RX4 yX4_pupil yX4_pupil ∈ gw := gw_tab (i := 373) (by decide +kernel) (by rfl)
theorem tw_374 : Cond.code yX4_pupil cX4_pupil 3 (some .int) ∈ gw := gw_tab (i := 374) (by decide +kernel) (by rfl)
theorem tw_380 : Cond.methodLink RL 26 yX4_paper ∈ gw := gw_tab (i := 380) (by decide +kernel) (by rfl)
theorem tw_381 : Cond.instanceMethod yX4_paper ∈ gw := gw_tab (i := 381) (by decide +kernel) (by rfl)
theorem tw_382 : Cond.selects RX4 yX4_paper yX4_paper ∈ gw := gw_tab (i := 382) (by decide +kernel) (by rfl)
theorem tw_383 : Cond.code yX4_paper cX4_paper 3 (some .int) ∈ gw := gw_tab (i := 383) (by decide +kernel) (by rfl)
theorem tw_387 : Cond.constant RL 37 (-10000005 : Int32) ∈ gw := gw_tab (i := 387) (by decide +kernel) (by rfl)
theorem tw_388 : Cond.constant RL 38 (-10000002 : Int32) ∈ gw := gw_tab (i := 388) (by decide +kernel) (by rfl)
theorem tw_392 : Cond.methodLink RL 39 yX4_waiting ∈ gw := gw_tab (i := 392) (by decide +kernel) (by rfl)
theorem tw_393 : Cond.instanceMethod yX4_waiting ∈ gw := gw_tab (i := 393) (by decide +kernel) (by rfl)
theorem tw_394 : Cond.selects RX4 yX4_waiting yX4_waiting ∈ gw := gw_tab (i := 394) (by decide +kernel) (by rfl)
theorem tw_395 : Cond.code yX4_waiting cX4_waiting 2 (some .int) ∈ gw := gw_tab (i := 395) (by decide +kernel) (by rfl)
theorem tw_399 : Cond.methodLink RL 42 yL_mark ∈ gw := gw_tab (i := 399) (by decide +kernel) (by rfl)
theorem tw_400 : Cond.static yL_mark ∈ gw := gw_tab (i := 400) (by decide +kernel) (by rfl)
theorem tw_401 : Cond.code yL_mark cL_mark 5 (some .int) ∈ gw := gw_tab (i := 401) (by decide +kernel) (by rfl)
theorem tw_402 : Cond.methodLink RL 29 yL_size ∈ gw := gw_tab (i := 402) (by decide +kernel) (by rfl)
theorem tw_403 : Cond.static yL_size ∈ gw := gw_tab (i := 403) (by decide +kernel) (by rfl)
theorem tw_404 : Cond.code yL_size cL_size 1 (some .int) ∈ gw := gw_tab (i := 404) (by decide +kernel) (by rfl)
theorem tw_405 : Cond.constant RL 46 (-10000001 : Int32) ∈ gw := gw_tab (i := 405) (by decide +kernel) (by rfl)
theorem tw_412 : Cond.methodLink RL 51 yX4_answer ∈ gw := gw_tab (i := 412) (by decide +kernel) (by rfl)
theorem tw_413 : Cond.instanceMethod yX4_answer ∈ gw := gw_tab (i := 413) (by decide +kernel) (by rfl)
theorem tw_414 : Cond.selects RX4 yX4_answer yX4_answer ∈ gw := gw_tab (i := 414) (by decide +kernel) (by rfl)
theorem tw_415 : Cond.code yX4_answer cX4_answer 4 (some .int) ∈ gw := gw_tab (i := 415) (by decide +kernel) (by rfl)
theorem tw_418 : Cond.methodLink RL 54 yX4_would ∈ gw := gw_tab (i := 418) (by decide +kernel) (by rfl)
theorem tw_419 : Cond.instanceMethod yX4_would ∈ gw := gw_tab (i := 419) (by decide +kernel) (by rfl)
theorem tw_420 : Cond.selects RX4 yX4_would yX4_would ∈ gw := gw_tab (i := 420) (by decide +kernel) (by rfl)
theorem tw_421 : Cond.code yX4_would cX4_would 7 (some .int) ∈ gw := gw_tab (i := 421) (by decide +kernel) (by rfl)
theorem tw_433 : Cond.methodLink RL 60 yX4_addInstrument ∈ gw := gw_tab (i := 433) (by decide +kernel) (by rfl)
theorem tw_434 : Cond.instanceMethod yX4_addInstrument ∈ gw := gw_tab (i := 434) (by decide +kernel) (by rfl)
theorem tw_435 : Cond.selects RX4 yX4_addInstrument yX4_addInstrument ∈ gw := gw_tab (i := 435) (by decide +kernel) (by rfl)
theorem tw_436 : Cond.code yX4_addInstrument cX4_addInstrument 5 (some .int) ∈ gw := gw_tab (i := 436) (by decide +kernel) (by rfl)
theorem tw_443 : Cond.constant RL 64 (-10000003 : Int32) ∈ gw := gw_tab (i := 443) (by decide +kernel) (by rfl)
theorem tw_444 : Cond.methodLink RL 65 yX4_adjust ∈ gw := gw_tab (i := 444) (by decide +kernel) (by rfl)
theorem tw_445 : Cond.instanceMethod yX4_adjust ∈ gw := gw_tab (i := 445) (by decide +kernel) (by rfl)
theorem tw_446 : Cond.selects RX4 yX4_adjust yX4_adjust ∈ gw := gw_tab (i := 446) (by decide +kernel) (by rfl)
theorem tw_447 : Cond.code yX4_adjust cX4_adjust 7 (some .int) ∈ gw := gw_tab (i := 447) (by decide +kernel) (by rfl)
theorem tw_449 : Cond.methodLink RL 68 yX4_setTrap ∈ gw := gw_tab (i := 449) (by decide +kernel) (by rfl)
theorem tw_450 : Cond.instanceMethod yX4_setTrap ∈ gw := gw_tab (i := 450) (by decide +kernel) (by rfl)
theorem tw_451 : Cond.selects RX4 yX4_setTrap yX4_setTrap ∈ gw := gw_tab (i := 451) (by decide +kernel) (by rfl)
theorem tw_452 : Cond.code yX4_setTrap cX4_setTrap 5 (some .int) ∈ gw := gw_tab (i := 452) (by decide +kernel) (by rfl)
theorem tw_453 : Cond.methodLink RL 71 yX4_announce ∈ gw := gw_tab (i := 453) (by decide +kernel) (by rfl)
theorem tw_454 : Cond.instanceMethod yX4_announce ∈ gw := gw_tab (i := 454) (by decide +kernel) (by rfl)
theorem tw_455 : Cond.selects RX4 yX4_announce yX4_announce ∈ gw := gw_tab (i := 455) (by decide +kernel) (by rfl)
theorem tw_456 : Cond.code yX4_announce cX4_announce 4 (some .int) ∈ gw := gw_tab (i := 456) (by decide +kernel) (by rfl)
theorem tw_462 : Cond.constant RL 74 (-10000004 : Int32) ∈ gw := gw_tab (i := 462) (by decide +kernel) (by rfl)
theorem tw_466 : Cond.methodLink RL 75 yX4_addPupil ∈ gw := gw_tab (i := 466) (by decide +kernel) (by rfl)
theorem tw_467 : Cond.instanceMethod yX4_addPupil ∈ gw := gw_tab (i := 467) (by decide +kernel) (by rfl)
theorem tw_468 : Cond.selects RX4 yX4_addPupil yX4_addPupil ∈ gw := gw_tab (i := 468) (by decide +kernel) (by rfl)
theorem tw_469 : Cond.code yX4_addPupil cX4_addPupil 4 (some .int) ∈ gw := gw_tab (i := 469) (by decide +kernel) (by rfl)
theorem tw_471 : Cond.methodLink RL 78 yX4_teach ∈ gw := gw_tab (i := 471) (by decide +kernel) (by rfl)
theorem tw_472 : Cond.instanceMethod yX4_teach ∈ gw := gw_tab (i := 472) (by decide +kernel) (by rfl)
theorem tw_473 : Cond.selects RX4 yX4_teach yX4_teach ∈ gw := gw_tab (i := 473) (by decide +kernel) (by rfl)
theorem tw_474 : Cond.code yX4_teach cX4_teach 4 (some .int) ∈ gw := gw_tab (i := 474) (by decide +kernel) (by rfl)
theorem tw_477 : Cond.methodLink RL 81 yX4_train ∈ gw := gw_tab (i := 477) (by decide +kernel) (by rfl)
theorem tw_478 : Cond.instanceMethod yX4_train ∈ gw := gw_tab (i := 478) (by decide +kernel) (by rfl)
theorem tw_479 : Cond.selects RX4 yX4_train yX4_train ∈ gw := gw_tab (i := 479) (by decide +kernel) (by rfl)
theorem tw_480 : Cond.code yX4_train cX4_train 5 (some .int) ∈ gw := gw_tab (i := 480) (by decide +kernel) (by rfl)
theorem tw_490 : Cond.methodLink RL 84 yX4_write ∈ gw := gw_tab (i := 490) (by decide +kernel) (by rfl)
theorem tw_491 : Cond.instanceMethod yX4_write ∈ gw := gw_tab (i := 491) (by decide +kernel) (by rfl)
theorem tw_492 : Cond.selects RX4 yX4_write yX4_write ∈ gw := gw_tab (i := 492) (by decide +kernel) (by rfl)
theorem tw_493 : Cond.code yX4_write cX4_write 4 (some .int) ∈ gw := gw_tab (i := 493) (by decide +kernel) (by rfl)
theorem tw_497 : Cond.methodLink RL 87 yX4_appeal ∈ gw := gw_tab (i := 497) (by decide +kernel) (by rfl)
theorem tw_498 : Cond.instanceMethod yX4_appeal ∈ gw := gw_tab (i := 498) (by decide +kernel) (by rfl)
theorem tw_499 : Cond.selects RX4 yX4_appeal yX4_appeal ∈ gw := gw_tab (i := 499) (by decide +kernel) (by rfl)
theorem tw_500 : Cond.code yX4_appeal cX4_appeal 5 (some .int) ∈ gw := gw_tab (i := 500) (by decide +kernel) (by rfl)
theorem dL_low_0 : decode cL_low 0 = .ok (.iload_n 0, 1) := by decide +kernel
theorem dL_low_1 : decode cL_low 1 = .ok (.ldc 8, 2) := by decide +kernel
theorem dL_low_3 : decode cL_low 3 = .ok (.iand, 1) := by decide +kernel
theorem dL_low_4 : decode cL_low 4 = .ok (.iload_n 1, 1) := by decide +kernel
theorem dL_low_5 : decode cL_low 5 = .ok (.irem, 1) := by decide +kernel
theorem dL_low_6 : decode cL_low 6 = .ok (.ireturn, 1) := by decide +kernel
def f_L_low (σ : Sg)  (p0 p1 : Int32) : Option (Int32) := gd (p1 != 0) (some ((p0 &&& (2147483647 : Int32)) - (p0 &&& (2147483647 : Int32)) / p1 * p1))
theorem okm_L_low : okm yL_low 2 = true := by decide +kernel
set_option maxHeartbeats 4000000 in
set_option maxRecDepth 100000 in
theorem c_L_low (l : Launch) (G : va_G) (cls : Cls) (ad : Nat → Nat) (hi : inj 49 ad) (σ : Sg)   (p0 p1 : Int32) : MT l (YX G cls ad) yL_low (.code yL_low cL_low 2 (some .int) :: gw) 0 0 [.int p0, .int p1] (fiP σ) σ (f_L_low σ  p0 p1) := by
  refine MT.of (own := RL) (by decide) (YX_D hi) rfl (Nat.le_of_ble_eq_true rfl) fun Γ _ hz0 hz1 hC => ?_
  show WX Γ (YX G cls ad) (qf Γ (YX G cls ad) (fiP σ)) 2 0 [(0, .int p0), (1, .int p1)] [] σ (f_L_low σ  p0 p1)
  unfold f_L_low
  refine X_iload_n hC 0 rfl dL_low_0 ?_
  refine X_ldc (v := 2147483647) hC tw_361 dL_low_1 ?_
  refine X_iand hC dL_low_3 ?_
  refine X_iload_n hC 1 rfl dL_low_4 ?_
  refine X_irem hC dL_low_5 ?_
  exact X_iret hC hz0 hz1 dL_low_6 rfl
theorem dL_size_0 : decode cL_size 0 = .ok (.iload_n 0, 1) := by decide +kernel
theorem dL_size_1 : decode cL_size 1 = .ok (.ifCond .ge 8, 3) := by decide +kernel
theorem dL_size_4 : decode cL_size 4 = .ok (.iload_n 0, 1) := by decide +kernel
theorem dL_size_5 : decode cL_size 5 = .ok (.ineg, 1) := by decide +kernel
theorem dL_size_6 : decode cL_size 6 = .ok (.goto 4, 3) := by decide +kernel
theorem dL_size_9 : decode cL_size 9 = .ok (.iload_n 0, 1) := by decide +kernel
theorem dL_size_10 : decode cL_size 10 = .ok (.ireturn, 1) := by decide +kernel
def f_L_size (σ : Sg)  (p0 : Int32) : Option (Int32) := if 0 ≤ p0 then (some p0) else (some (-p0))
theorem okm_L_size : okm yL_size 1 = true := by decide +kernel
set_option maxHeartbeats 4000000 in
set_option maxRecDepth 100000 in
theorem c_L_size (l : Launch) (G : va_G) (cls : Cls) (ad : Nat → Nat) (hi : inj 49 ad) (σ : Sg)   (p0 : Int32) : MT l (YX G cls ad) yL_size (.code yL_size cL_size 1 (some .int) :: gw) 0 0 [.int p0] (fiP σ) σ (f_L_size σ  p0) := by
  refine MT.of (own := RL) (by decide) (YX_D hi) rfl (Nat.le_of_ble_eq_true rfl) fun Γ _ hz0 hz1 hC => ?_
  show WX Γ (YX G cls ad) (qf Γ (YX G cls ad) (fiP σ)) 1 0 [(0, .int p0)] [] σ (f_L_size σ  p0)
  unfold f_L_size
  refine X_iload_n hC 0 rfl dL_size_0 ?_
  refine X_if_ge hC 9 dL_size_1 (by decide) (fun h1 => ?_) (fun h1 => ?_)
  · refine X_iload_n hC 0 rfl dL_size_9 ?_
    exact X_iret hC hz0 hz1 dL_size_10 rfl
  · refine X_iload_n hC 0 rfl dL_size_4 ?_
    refine X_ineg hC dL_size_5 ?_
    refine X_goto hC 10 dL_size_6 (by decide) ?_
    exact X_iret hC hz0 hz1 dL_size_10 rfl
theorem dL_digest_0 : decode cL_digest 0 = .ok (.ldc2_w 9, 3) := by decide +kernel
theorem dL_digest_3 : decode cL_digest 3 = .ok (.lstore_n 1, 1) := by decide +kernel
theorem dL_digest_4 : decode cL_digest 4 = .ok (.iconst 0, 1) := by decide +kernel
theorem dL_digest_5 : decode cL_digest 5 = .ok (.istore_n 3, 1) := by decide +kernel
theorem dL_digest_6 : decode cL_digest 6 = .ok (.iload_n 3, 1) := by decide +kernel
theorem dL_digest_7 : decode cL_digest 7 = .ok (.bipush 7, 2) := by decide +kernel
theorem dL_digest_9 : decode cL_digest 9 = .ok (.if_icmp .ge 22, 3) := by decide +kernel
theorem dL_digest_12 : decode cL_digest 12 = .ok (.ldc2_w 11, 3) := by decide +kernel
theorem dL_digest_15 : decode cL_digest 15 = .ok (.lload_n 1, 1) := by decide +kernel
theorem dL_digest_16 : decode cL_digest 16 = .ok (.lmul, 1) := by decide +kernel
theorem dL_digest_17 : decode cL_digest 17 = .ok (.aload_n 0, 1) := by decide +kernel
theorem dL_digest_18 : decode cL_digest 18 = .ok (.iload_n 3, 1) := by decide +kernel
theorem dL_digest_19 : decode cL_digest 19 = .ok (.invokevirtual 13, 3) := by decide +kernel
theorem dL_digest_22 : decode cL_digest 22 = .ok (.i2l, 1) := by decide +kernel
theorem dL_digest_23 : decode cL_digest 23 = .ok (.ladd, 1) := by decide +kernel
theorem dL_digest_24 : decode cL_digest 24 = .ok (.lstore_n 1, 1) := by decide +kernel
theorem dL_digest_25 : decode cL_digest 25 = .ok (.iinc 3 1, 3) := by decide +kernel
theorem dL_digest_28 : decode cL_digest 28 = .ok (.goto (-22), 3) := by decide +kernel
theorem dL_digest_31 : decode cL_digest 31 = .ok (.iconst 0, 1) := by decide +kernel
theorem dL_digest_32 : decode cL_digest 32 = .ok (.istore_n 3, 1) := by decide +kernel
theorem dL_digest_33 : decode cL_digest 33 = .ok (.iload_n 3, 1) := by decide +kernel
theorem dL_digest_34 : decode cL_digest 34 = .ok (.aload_n 0, 1) := by decide +kernel
theorem dL_digest_35 : decode cL_digest 35 = .ok (.iconst 0, 1) := by decide +kernel
theorem dL_digest_36 : decode cL_digest 36 = .ok (.invokevirtual 13, 3) := by decide +kernel
theorem dL_digest_39 : decode cL_digest 39 = .ok (.if_icmp .ge 40, 3) := by decide +kernel
theorem dL_digest_42 : decode cL_digest 42 = .ok (.iconst 0, 1) := by decide +kernel
theorem dL_digest_43 : decode cL_digest 43 = .ok (.istore 4, 2) := by decide +kernel
theorem dL_digest_45 : decode cL_digest 45 = .ok (.iload 4, 2) := by decide +kernel
theorem dL_digest_47 : decode cL_digest 47 = .ok (.bipush 11, 2) := by decide +kernel
theorem dL_digest_49 : decode cL_digest 49 = .ok (.if_icmp .ge 24, 3) := by decide +kernel
theorem dL_digest_52 : decode cL_digest 52 = .ok (.ldc2_w 11, 3) := by decide +kernel
theorem dL_digest_55 : decode cL_digest 55 = .ok (.lload_n 1, 1) := by decide +kernel
theorem dL_digest_56 : decode cL_digest 56 = .ok (.lmul, 1) := by decide +kernel
theorem dL_digest_57 : decode cL_digest 57 = .ok (.aload_n 0, 1) := by decide +kernel
theorem dL_digest_58 : decode cL_digest 58 = .ok (.iload_n 3, 1) := by decide +kernel
theorem dL_digest_59 : decode cL_digest 59 = .ok (.iload 4, 2) := by decide +kernel
theorem dL_digest_61 : decode cL_digest 61 = .ok (.invokevirtual 19, 3) := by decide +kernel
theorem dL_digest_64 : decode cL_digest 64 = .ok (.i2l, 1) := by decide +kernel
theorem dL_digest_65 : decode cL_digest 65 = .ok (.ladd, 1) := by decide +kernel
theorem dL_digest_66 : decode cL_digest 66 = .ok (.lstore_n 1, 1) := by decide +kernel
theorem dL_digest_67 : decode cL_digest 67 = .ok (.iinc 4 1, 3) := by decide +kernel
theorem dL_digest_70 : decode cL_digest 70 = .ok (.goto (-25), 3) := by decide +kernel
theorem dL_digest_73 : decode cL_digest 73 = .ok (.iinc 3 1, 3) := by decide +kernel
theorem dL_digest_76 : decode cL_digest 76 = .ok (.goto (-43), 3) := by decide +kernel
theorem dL_digest_79 : decode cL_digest 79 = .ok (.iconst 0, 1) := by decide +kernel
theorem dL_digest_80 : decode cL_digest 80 = .ok (.istore_n 3, 1) := by decide +kernel
theorem dL_digest_81 : decode cL_digest 81 = .ok (.iload_n 3, 1) := by decide +kernel
theorem dL_digest_82 : decode cL_digest 82 = .ok (.aload_n 0, 1) := by decide +kernel
theorem dL_digest_83 : decode cL_digest 83 = .ok (.iconst 1, 1) := by decide +kernel
theorem dL_digest_84 : decode cL_digest 84 = .ok (.invokevirtual 13, 3) := by decide +kernel
theorem dL_digest_87 : decode cL_digest 87 = .ok (.if_icmp .ge 40, 3) := by decide +kernel
theorem dL_digest_90 : decode cL_digest 90 = .ok (.iconst 0, 1) := by decide +kernel
theorem dL_digest_91 : decode cL_digest 91 = .ok (.istore 4, 2) := by decide +kernel
theorem dL_digest_93 : decode cL_digest 93 = .ok (.iload 4, 2) := by decide +kernel
theorem dL_digest_95 : decode cL_digest 95 = .ok (.bipush 9, 2) := by decide +kernel
theorem dL_digest_97 : decode cL_digest 97 = .ok (.if_icmp .ge 24, 3) := by decide +kernel
theorem dL_digest_100 : decode cL_digest 100 = .ok (.ldc2_w 11, 3) := by decide +kernel
theorem dL_digest_103 : decode cL_digest 103 = .ok (.lload_n 1, 1) := by decide +kernel
theorem dL_digest_104 : decode cL_digest 104 = .ok (.lmul, 1) := by decide +kernel
theorem dL_digest_105 : decode cL_digest 105 = .ok (.aload_n 0, 1) := by decide +kernel
theorem dL_digest_106 : decode cL_digest 106 = .ok (.iload_n 3, 1) := by decide +kernel
theorem dL_digest_107 : decode cL_digest 107 = .ok (.iload 4, 2) := by decide +kernel
theorem dL_digest_109 : decode cL_digest 109 = .ok (.invokevirtual 23, 3) := by decide +kernel
theorem dL_digest_112 : decode cL_digest 112 = .ok (.i2l, 1) := by decide +kernel
theorem dL_digest_113 : decode cL_digest 113 = .ok (.ladd, 1) := by decide +kernel
theorem dL_digest_114 : decode cL_digest 114 = .ok (.lstore_n 1, 1) := by decide +kernel
theorem dL_digest_115 : decode cL_digest 115 = .ok (.iinc 4 1, 3) := by decide +kernel
theorem dL_digest_118 : decode cL_digest 118 = .ok (.goto (-25), 3) := by decide +kernel
theorem dL_digest_121 : decode cL_digest 121 = .ok (.iinc 3 1, 3) := by decide +kernel
theorem dL_digest_124 : decode cL_digest 124 = .ok (.goto (-43), 3) := by decide +kernel
theorem dL_digest_127 : decode cL_digest 127 = .ok (.iconst 0, 1) := by decide +kernel
theorem dL_digest_128 : decode cL_digest 128 = .ok (.istore_n 3, 1) := by decide +kernel
theorem dL_digest_129 : decode cL_digest 129 = .ok (.iload_n 3, 1) := by decide +kernel
theorem dL_digest_130 : decode cL_digest 130 = .ok (.aload_n 0, 1) := by decide +kernel
theorem dL_digest_131 : decode cL_digest 131 = .ok (.iconst 2, 1) := by decide +kernel
theorem dL_digest_132 : decode cL_digest 132 = .ok (.invokevirtual 13, 3) := by decide +kernel
theorem dL_digest_135 : decode cL_digest 135 = .ok (.if_icmp .ge 40, 3) := by decide +kernel
theorem dL_digest_138 : decode cL_digest 138 = .ok (.iconst 0, 1) := by decide +kernel
theorem dL_digest_139 : decode cL_digest 139 = .ok (.istore 4, 2) := by decide +kernel
theorem dL_digest_141 : decode cL_digest 141 = .ok (.iload 4, 2) := by decide +kernel
theorem dL_digest_143 : decode cL_digest 143 = .ok (.bipush 8, 2) := by decide +kernel
theorem dL_digest_145 : decode cL_digest 145 = .ok (.if_icmp .ge 24, 3) := by decide +kernel
theorem dL_digest_148 : decode cL_digest 148 = .ok (.ldc2_w 11, 3) := by decide +kernel
theorem dL_digest_151 : decode cL_digest 151 = .ok (.lload_n 1, 1) := by decide +kernel
theorem dL_digest_152 : decode cL_digest 152 = .ok (.lmul, 1) := by decide +kernel
theorem dL_digest_153 : decode cL_digest 153 = .ok (.aload_n 0, 1) := by decide +kernel
theorem dL_digest_154 : decode cL_digest 154 = .ok (.iload_n 3, 1) := by decide +kernel
theorem dL_digest_155 : decode cL_digest 155 = .ok (.iload 4, 2) := by decide +kernel
theorem dL_digest_157 : decode cL_digest 157 = .ok (.invokevirtual 26, 3) := by decide +kernel
theorem dL_digest_160 : decode cL_digest 160 = .ok (.i2l, 1) := by decide +kernel
theorem dL_digest_161 : decode cL_digest 161 = .ok (.ladd, 1) := by decide +kernel
theorem dL_digest_162 : decode cL_digest 162 = .ok (.lstore_n 1, 1) := by decide +kernel
theorem dL_digest_163 : decode cL_digest 163 = .ok (.iinc 4 1, 3) := by decide +kernel
theorem dL_digest_166 : decode cL_digest 166 = .ok (.goto (-25), 3) := by decide +kernel
theorem dL_digest_169 : decode cL_digest 169 = .ok (.iinc 3 1, 3) := by decide +kernel
theorem dL_digest_172 : decode cL_digest 172 = .ok (.goto (-43), 3) := by decide +kernel
theorem dL_digest_175 : decode cL_digest 175 = .ok (.lload_n 1, 1) := by decide +kernel
theorem dL_digest_176 : decode cL_digest 176 = .ok (.lreturn, 1) := by decide +kernel
def f_L_digest_b141 (σ : Sg)  (K129 : Int64 → Int32 → Option (Int64)) : Nat → Int64 → Int32 → Int32 → Option (Int64)
  | 0, _, _, _ => none
  | n + 1, l1, v3, v4 => if (8 : Int32) ≤ v4 then (lt (v3 + (1 : Int32)) fun x9 => K129 l1 x9) else ((f_X4_paper σ v3 v4).bind fun r10 => ltl (((31 : Int64) * l1) + (Int32.toInt64 r10)) fun l11 => lt (v4 + (1 : Int32)) fun x12 => (f_L_digest_b141 σ  K129 n) l11 v3 x12)
def f_L_digest_b129 (σ : Sg)   : Nat → Int64 → Int32 → Option (Int64)
  | 0, _, _ => none
  | n + 1, l1, v3 => (f_X4_count σ (2 : Int32)).bind fun r6 => if r6 ≤ v3 then (some l1) else (f_L_digest_b141 σ (f_L_digest_b129 σ   n) fuel l1 v3 (0 : Int32))
def f_L_digest_b93 (σ : Sg)  (K81 : Int64 → Int32 → Option (Int64)) : Nat → Int64 → Int32 → Int32 → Option (Int64)
  | 0, _, _, _ => none
  | n + 1, l1, v3, v4 => if (9 : Int32) ≤ v4 then (lt (v3 + (1 : Int32)) fun x14 => K81 l1 x14) else ((f_X4_pupil σ v3 v4).bind fun r15 => ltl (((31 : Int64) * l1) + (Int32.toInt64 r15)) fun l16 => lt (v4 + (1 : Int32)) fun x17 => (f_L_digest_b93 σ  K81 n) l16 v3 x17)
def f_L_digest_b81 (σ : Sg)   : Nat → Int64 → Int32 → Option (Int64)
  | 0, _, _ => none
  | n + 1, l1, v3 => (f_X4_count σ (1 : Int32)).bind fun r4 => if r4 ≤ v3 then (f_L_digest_b129 σ fuel l1 (0 : Int32)) else (f_L_digest_b93 σ (f_L_digest_b81 σ   n) fuel l1 v3 (0 : Int32))
def f_L_digest_b45 (σ : Sg)  (K33 : Int64 → Int32 → Option (Int64)) : Nat → Int64 → Int32 → Int32 → Option (Int64)
  | 0, _, _, _ => none
  | n + 1, l1, v3, v4 => if (11 : Int32) ≤ v4 then (lt (v3 + (1 : Int32)) fun x19 => K33 l1 x19) else ((f_X4_instrument σ v3 v4).bind fun r20 => ltl (((31 : Int64) * l1) + (Int32.toInt64 r20)) fun l21 => lt (v4 + (1 : Int32)) fun x22 => (f_L_digest_b45 σ  K33 n) l21 v3 x22)
def f_L_digest_b33 (σ : Sg)   : Nat → Int64 → Int32 → Option (Int64)
  | 0, _, _ => none
  | n + 1, l1, v3 => (f_X4_count σ (0 : Int32)).bind fun r2 => if r2 ≤ v3 then (f_L_digest_b81 σ fuel l1 (0 : Int32)) else (f_L_digest_b45 σ (f_L_digest_b33 σ   n) fuel l1 v3 (0 : Int32))
def f_L_digest_b6 (σ : Sg)   : Nat → Int64 → Int32 → Option (Int64)
  | 0, _, _ => none
  | n + 1, l1, v3 => if (7 : Int32) ≤ v3 then (f_L_digest_b33 σ fuel l1 (0 : Int32)) else ((f_X4_count σ v3).bind fun r23 => ltl (((31 : Int64) * l1) + (Int32.toInt64 r23)) fun l24 => lt (v3 + (1 : Int32)) fun x25 => (f_L_digest_b6 σ   n) l24 x25)
def f_L_digest (σ : Sg)   : Option (Int64) := f_L_digest_b6 σ fuel (67 : Int64) (0 : Int32)
set_option maxHeartbeats 4000000 in
set_option maxRecDepth 100000 in
theorem L_L_digest_b141 {Γ : Cx} (G : va_G) (cls : Cls) (ad : Nat → Nat) (hi : inj 49 ad) (hC : CX Γ (YX G cls ad) cL_digest RL 5 (some .long) 5 115) (hz0 : Γ.2.2.2.2.2.1 = 0) (hz1 : Γ.2.2.2.2.2.2 = 0) (σ : Sg)   (K129 : Int64 → Int32 → Option (Int64)) (hK129 : ∀ (l1 : Int64) (v3 : Int32), WX Γ (YX G cls ad) (qf Γ (YX G cls ad) (fiL σ)) 5 129 [(0, .ref (ad 25)), (1, .long l1), (3, .int v3)] [] σ (K129 l1 v3)) : ∀ (n : Nat) (l1 : Int64) (v3 : Int32) (v4 : Int32), WX Γ (YX G cls ad) (qf Γ (YX G cls ad) (fiL σ)) 5 141 [(0, .ref (ad 25)), (1, .long l1), (3, .int v3), (4, .int v4)] [] σ (f_L_digest_b141 σ  K129 n l1 v3 v4) := by
  intro n
  induction n with
  | zero => intro l1 v3 v4; exact X_none
  | succ n ih =>
    intro l1 v3 v4
    rw [f_L_digest_b141.eq_2]
    refine X_iload hC 3 rfl dL_digest_141 ?_
    refine X_bipush (v := 8) hC (by decide) dL_digest_143 ?_
    refine X_icmp_ge hC 169 dL_digest_145 (by decide) (fun h8 => ?_) (fun h8 => ?_)
    · refine X_iinc (ls' := fun x9 => [(3, .int x9), (0, .ref (ad 25)), (1, .long l1), (4, .int v4)]) hC 2 dL_digest_169 rfl (by decide) (by decide) (fun _ => rfl) (fun x9 => ?_)
      refine X_goto hC 129 dL_digest_172 (by decide) ?_
      exact X_sub [1, 2, 0] rfl (hK129 l1 x9)
    · refine X_ldc2 (v := 31) hC tw_366 dL_digest_148 ?_
      refine X_lload_n hC 1 rfl dL_digest_151 ?_
      refine X_lmul hC dL_digest_152 ?_
      refine X_aload_n hC 0 rfl dL_digest_153 ?_
      refine X_iload_n hC 2 rfl dL_digest_154 ?_
      refine X_iload hC 3 rfl dL_digest_155 ?_
      refine X_callP (C := RX4) (T := TX4) (N := 5) (ci := 4) (rest := [.long ((31 : Int64) * l1)]) hC (c_X4_paper _ G cls ad hi σ v3 v4) (gV tw_380 tw_381 tw_382 tw_1 tw_383) rfl (wX (k := 25) (by omega) cX_vs) rfl rfl okm_X4_paper (by decide) dL_digest_157 rfl (Nat.le_of_ble_eq_true rfl) (fun r10 => ?_)
      refine X_i2l hC dL_digest_160 ?_
      refine X_ladd hC dL_digest_161 ?_
      refine X_ltl (fun l11 => ?_)
      refine X_lstore_n (ls' := [(1, .long l11), (0, .ref (ad 25)), (3, .int v3), (4, .int v4)]) hC dL_digest_162 (by decide) rfl ?_
      refine X_iinc (ls' := fun x12 => [(4, .int x12), (1, .long l11), (0, .ref (ad 25)), (3, .int v3)]) hC 3 dL_digest_163 rfl (by decide) (by decide) (fun _ => rfl) (fun x12 => ?_)
      refine X_goto hC 141 dL_digest_166 (by decide) ?_
      exact X_sub [2, 1, 3, 0] rfl (ih l11 v3 x12)
set_option maxHeartbeats 4000000 in
set_option maxRecDepth 100000 in
theorem L_L_digest_b129 {Γ : Cx} (G : va_G) (cls : Cls) (ad : Nat → Nat) (hi : inj 49 ad) (hC : CX Γ (YX G cls ad) cL_digest RL 5 (some .long) 5 115) (hz0 : Γ.2.2.2.2.2.1 = 0) (hz1 : Γ.2.2.2.2.2.2 = 0) (σ : Sg)    : ∀ (n : Nat) (l1 : Int64) (v3 : Int32), WX Γ (YX G cls ad) (qf Γ (YX G cls ad) (fiL σ)) 5 129 [(0, .ref (ad 25)), (1, .long l1), (3, .int v3)] [] σ (f_L_digest_b129 σ   n l1 v3) := by
  intro n
  induction n with
  | zero => intro l1 v3; exact X_none
  | succ n ih =>
    intro l1 v3
    rw [f_L_digest_b129.eq_2]
    refine X_iload_n hC 2 rfl dL_digest_129 ?_
    refine X_aload_n hC 0 rfl dL_digest_130 ?_
    refine X_iconst (v := 2) hC (by decide) dL_digest_131 ?_
    refine X_callP (C := RX4) (T := TX4) (N := 5) (ci := 4) (rest := [.int v3]) hC (c_X4_count _ G cls ad hi σ (2 : Int32)) (gV tw_338 tw_339 tw_340 tw_1 tw_341) rfl (wX (k := 25) (by omega) cX_vs) rfl rfl okm_X4_count (by decide) dL_digest_132 rfl (Nat.le_of_ble_eq_true rfl) (fun r6 => ?_)
    refine X_icmp_ge hC 175 dL_digest_135 (by decide) (fun h7 => ?_) (fun h7 => ?_)
    · refine X_lload_n hC 1 rfl dL_digest_175 ?_
      exact X_lret hC hz0 hz1 dL_digest_176 rfl
    · refine X_iconst (v := 0) hC (by decide) dL_digest_138 ?_
      refine X_istore (ls' := [(4, .int (0 : Int32)), (0, .ref (ad 25)), (1, .long l1), (3, .int v3)]) hC dL_digest_139 (by decide) rfl ?_
      exact X_sub [1, 2, 3, 0] rfl (L_L_digest_b141 G cls ad hi hC hz0 hz1 σ (f_L_digest_b129 σ   n) ih fuel l1 v3 (0 : Int32))
set_option maxHeartbeats 4000000 in
set_option maxRecDepth 100000 in
theorem L_L_digest_b93 {Γ : Cx} (G : va_G) (cls : Cls) (ad : Nat → Nat) (hi : inj 49 ad) (hC : CX Γ (YX G cls ad) cL_digest RL 5 (some .long) 5 115) (hz0 : Γ.2.2.2.2.2.1 = 0) (hz1 : Γ.2.2.2.2.2.2 = 0) (σ : Sg)   (K81 : Int64 → Int32 → Option (Int64)) (hK81 : ∀ (l1 : Int64) (v3 : Int32), WX Γ (YX G cls ad) (qf Γ (YX G cls ad) (fiL σ)) 5 81 [(0, .ref (ad 25)), (1, .long l1), (3, .int v3)] [] σ (K81 l1 v3)) : ∀ (n : Nat) (l1 : Int64) (v3 : Int32) (v4 : Int32), WX Γ (YX G cls ad) (qf Γ (YX G cls ad) (fiL σ)) 5 93 [(0, .ref (ad 25)), (1, .long l1), (3, .int v3), (4, .int v4)] [] σ (f_L_digest_b93 σ  K81 n l1 v3 v4) := by
  intro n
  induction n with
  | zero => intro l1 v3 v4; exact X_none
  | succ n ih =>
    intro l1 v3 v4
    rw [f_L_digest_b93.eq_2]
    refine X_iload hC 3 rfl dL_digest_93 ?_
    refine X_bipush (v := 9) hC (by decide) dL_digest_95 ?_
    refine X_icmp_ge hC 121 dL_digest_97 (by decide) (fun h13 => ?_) (fun h13 => ?_)
    · refine X_iinc (ls' := fun x14 => [(3, .int x14), (0, .ref (ad 25)), (1, .long l1), (4, .int v4)]) hC 2 dL_digest_121 rfl (by decide) (by decide) (fun _ => rfl) (fun x14 => ?_)
      refine X_goto hC 81 dL_digest_124 (by decide) ?_
      exact X_sub [1, 2, 0] rfl (hK81 l1 x14)
    · refine X_ldc2 (v := 31) hC tw_366 dL_digest_100 ?_
      refine X_lload_n hC 1 rfl dL_digest_103 ?_
      refine X_lmul hC dL_digest_104 ?_
      refine X_aload_n hC 0 rfl dL_digest_105 ?_
      refine X_iload_n hC 2 rfl dL_digest_106 ?_
      refine X_iload hC 3 rfl dL_digest_107 ?_
      refine X_callP (C := RX4) (T := TX4) (N := 5) (ci := 4) (rest := [.long ((31 : Int64) * l1)]) hC (c_X4_pupil _ G cls ad hi σ v3 v4) (gV tw_371 tw_372 tw_373 tw_1 tw_374) rfl (wX (k := 25) (by omega) cX_vs) rfl rfl okm_X4_pupil (by decide) dL_digest_109 rfl (Nat.le_of_ble_eq_true rfl) (fun r15 => ?_)
      refine X_i2l hC dL_digest_112 ?_
      refine X_ladd hC dL_digest_113 ?_
      refine X_ltl (fun l16 => ?_)
      refine X_lstore_n (ls' := [(1, .long l16), (0, .ref (ad 25)), (3, .int v3), (4, .int v4)]) hC dL_digest_114 (by decide) rfl ?_
      refine X_iinc (ls' := fun x17 => [(4, .int x17), (1, .long l16), (0, .ref (ad 25)), (3, .int v3)]) hC 3 dL_digest_115 rfl (by decide) (by decide) (fun _ => rfl) (fun x17 => ?_)
      refine X_goto hC 93 dL_digest_118 (by decide) ?_
      exact X_sub [2, 1, 3, 0] rfl (ih l16 v3 x17)
set_option maxHeartbeats 4000000 in
set_option maxRecDepth 100000 in
theorem L_L_digest_b81 {Γ : Cx} (G : va_G) (cls : Cls) (ad : Nat → Nat) (hi : inj 49 ad) (hC : CX Γ (YX G cls ad) cL_digest RL 5 (some .long) 5 115) (hz0 : Γ.2.2.2.2.2.1 = 0) (hz1 : Γ.2.2.2.2.2.2 = 0) (σ : Sg)    : ∀ (n : Nat) (l1 : Int64) (v3 : Int32), WX Γ (YX G cls ad) (qf Γ (YX G cls ad) (fiL σ)) 5 81 [(0, .ref (ad 25)), (1, .long l1), (3, .int v3)] [] σ (f_L_digest_b81 σ   n l1 v3) := by
  intro n
  induction n with
  | zero => intro l1 v3; exact X_none
  | succ n ih =>
    intro l1 v3
    rw [f_L_digest_b81.eq_2]
    refine X_iload_n hC 2 rfl dL_digest_81 ?_
    refine X_aload_n hC 0 rfl dL_digest_82 ?_
    refine X_iconst (v := 1) hC (by decide) dL_digest_83 ?_
    refine X_callP (C := RX4) (T := TX4) (N := 5) (ci := 4) (rest := [.int v3]) hC (c_X4_count _ G cls ad hi σ (1 : Int32)) (gV tw_338 tw_339 tw_340 tw_1 tw_341) rfl (wX (k := 25) (by omega) cX_vs) rfl rfl okm_X4_count (by decide) dL_digest_84 rfl (Nat.le_of_ble_eq_true rfl) (fun r4 => ?_)
    refine X_icmp_ge hC 127 dL_digest_87 (by decide) (fun h5 => ?_) (fun h5 => ?_)
    · refine X_iconst (v := 0) hC (by decide) dL_digest_127 ?_
      refine X_istore_n (ls' := [(3, .int (0 : Int32)), (0, .ref (ad 25)), (1, .long l1)]) hC dL_digest_128 (by decide) rfl ?_
      exact X_sub [1, 2, 0] rfl (L_L_digest_b129 G cls ad hi hC hz0 hz1 σ fuel l1 (0 : Int32))
    · refine X_iconst (v := 0) hC (by decide) dL_digest_90 ?_
      refine X_istore (ls' := [(4, .int (0 : Int32)), (0, .ref (ad 25)), (1, .long l1), (3, .int v3)]) hC dL_digest_91 (by decide) rfl ?_
      exact X_sub [1, 2, 3, 0] rfl (L_L_digest_b93 G cls ad hi hC hz0 hz1 σ (f_L_digest_b81 σ   n) ih fuel l1 v3 (0 : Int32))
set_option maxHeartbeats 4000000 in
set_option maxRecDepth 100000 in
theorem L_L_digest_b45 {Γ : Cx} (G : va_G) (cls : Cls) (ad : Nat → Nat) (hi : inj 49 ad) (hC : CX Γ (YX G cls ad) cL_digest RL 5 (some .long) 5 115) (hz0 : Γ.2.2.2.2.2.1 = 0) (hz1 : Γ.2.2.2.2.2.2 = 0) (σ : Sg)   (K33 : Int64 → Int32 → Option (Int64)) (hK33 : ∀ (l1 : Int64) (v3 : Int32), WX Γ (YX G cls ad) (qf Γ (YX G cls ad) (fiL σ)) 5 33 [(0, .ref (ad 25)), (1, .long l1), (3, .int v3)] [] σ (K33 l1 v3)) : ∀ (n : Nat) (l1 : Int64) (v3 : Int32) (v4 : Int32), WX Γ (YX G cls ad) (qf Γ (YX G cls ad) (fiL σ)) 5 45 [(0, .ref (ad 25)), (1, .long l1), (3, .int v3), (4, .int v4)] [] σ (f_L_digest_b45 σ  K33 n l1 v3 v4) := by
  intro n
  induction n with
  | zero => intro l1 v3 v4; exact X_none
  | succ n ih =>
    intro l1 v3 v4
    rw [f_L_digest_b45.eq_2]
    refine X_iload hC 3 rfl dL_digest_45 ?_
    refine X_bipush (v := 11) hC (by decide) dL_digest_47 ?_
    refine X_icmp_ge hC 73 dL_digest_49 (by decide) (fun h18 => ?_) (fun h18 => ?_)
    · refine X_iinc (ls' := fun x19 => [(3, .int x19), (0, .ref (ad 25)), (1, .long l1), (4, .int v4)]) hC 2 dL_digest_73 rfl (by decide) (by decide) (fun _ => rfl) (fun x19 => ?_)
      refine X_goto hC 33 dL_digest_76 (by decide) ?_
      exact X_sub [1, 2, 0] rfl (hK33 l1 x19)
    · refine X_ldc2 (v := 31) hC tw_366 dL_digest_52 ?_
      refine X_lload_n hC 1 rfl dL_digest_55 ?_
      refine X_lmul hC dL_digest_56 ?_
      refine X_aload_n hC 0 rfl dL_digest_57 ?_
      refine X_iload_n hC 2 rfl dL_digest_58 ?_
      refine X_iload hC 3 rfl dL_digest_59 ?_
      refine X_callP (C := RX4) (T := TX4) (N := 5) (ci := 4) (rest := [.long ((31 : Int64) * l1)]) hC (c_X4_instrument _ G cls ad hi σ v3 v4) (gV tw_367 tw_368 tw_369 tw_1 tw_370) rfl (wX (k := 25) (by omega) cX_vs) rfl rfl okm_X4_instrument (by decide) dL_digest_61 rfl (Nat.le_of_ble_eq_true rfl) (fun r20 => ?_)
      refine X_i2l hC dL_digest_64 ?_
      refine X_ladd hC dL_digest_65 ?_
      refine X_ltl (fun l21 => ?_)
      refine X_lstore_n (ls' := [(1, .long l21), (0, .ref (ad 25)), (3, .int v3), (4, .int v4)]) hC dL_digest_66 (by decide) rfl ?_
      refine X_iinc (ls' := fun x22 => [(4, .int x22), (1, .long l21), (0, .ref (ad 25)), (3, .int v3)]) hC 3 dL_digest_67 rfl (by decide) (by decide) (fun _ => rfl) (fun x22 => ?_)
      refine X_goto hC 45 dL_digest_70 (by decide) ?_
      exact X_sub [2, 1, 3, 0] rfl (ih l21 v3 x22)
set_option maxHeartbeats 4000000 in
set_option maxRecDepth 100000 in
theorem L_L_digest_b33 {Γ : Cx} (G : va_G) (cls : Cls) (ad : Nat → Nat) (hi : inj 49 ad) (hC : CX Γ (YX G cls ad) cL_digest RL 5 (some .long) 5 115) (hz0 : Γ.2.2.2.2.2.1 = 0) (hz1 : Γ.2.2.2.2.2.2 = 0) (σ : Sg)    : ∀ (n : Nat) (l1 : Int64) (v3 : Int32), WX Γ (YX G cls ad) (qf Γ (YX G cls ad) (fiL σ)) 5 33 [(0, .ref (ad 25)), (1, .long l1), (3, .int v3)] [] σ (f_L_digest_b33 σ   n l1 v3) := by
  intro n
  induction n with
  | zero => intro l1 v3; exact X_none
  | succ n ih =>
    intro l1 v3
    rw [f_L_digest_b33.eq_2]
    refine X_iload_n hC 2 rfl dL_digest_33 ?_
    refine X_aload_n hC 0 rfl dL_digest_34 ?_
    refine X_iconst (v := 0) hC (by decide) dL_digest_35 ?_
    refine X_callP (C := RX4) (T := TX4) (N := 5) (ci := 4) (rest := [.int v3]) hC (c_X4_count _ G cls ad hi σ (0 : Int32)) (gV tw_338 tw_339 tw_340 tw_1 tw_341) rfl (wX (k := 25) (by omega) cX_vs) rfl rfl okm_X4_count (by decide) dL_digest_36 rfl (Nat.le_of_ble_eq_true rfl) (fun r2 => ?_)
    refine X_icmp_ge hC 79 dL_digest_39 (by decide) (fun h3 => ?_) (fun h3 => ?_)
    · refine X_iconst (v := 0) hC (by decide) dL_digest_79 ?_
      refine X_istore_n (ls' := [(3, .int (0 : Int32)), (0, .ref (ad 25)), (1, .long l1)]) hC dL_digest_80 (by decide) rfl ?_
      exact X_sub [1, 2, 0] rfl (L_L_digest_b81 G cls ad hi hC hz0 hz1 σ fuel l1 (0 : Int32))
    · refine X_iconst (v := 0) hC (by decide) dL_digest_42 ?_
      refine X_istore (ls' := [(4, .int (0 : Int32)), (0, .ref (ad 25)), (1, .long l1), (3, .int v3)]) hC dL_digest_43 (by decide) rfl ?_
      exact X_sub [1, 2, 3, 0] rfl (L_L_digest_b45 G cls ad hi hC hz0 hz1 σ (f_L_digest_b33 σ   n) ih fuel l1 v3 (0 : Int32))
set_option maxHeartbeats 4000000 in
set_option maxRecDepth 100000 in
theorem L_L_digest_b6 {Γ : Cx} (G : va_G) (cls : Cls) (ad : Nat → Nat) (hi : inj 49 ad) (hC : CX Γ (YX G cls ad) cL_digest RL 5 (some .long) 5 115) (hz0 : Γ.2.2.2.2.2.1 = 0) (hz1 : Γ.2.2.2.2.2.2 = 0) (σ : Sg)    : ∀ (n : Nat) (l1 : Int64) (v3 : Int32), WX Γ (YX G cls ad) (qf Γ (YX G cls ad) (fiL σ)) 5 6 [(0, .ref (ad 25)), (1, .long l1), (3, .int v3)] [] σ (f_L_digest_b6 σ   n l1 v3) := by
  intro n
  induction n with
  | zero => intro l1 v3; exact X_none
  | succ n ih =>
    intro l1 v3
    rw [f_L_digest_b6.eq_2]
    refine X_iload_n hC 2 rfl dL_digest_6 ?_
    refine X_bipush (v := 7) hC (by decide) dL_digest_7 ?_
    refine X_icmp_ge hC 31 dL_digest_9 (by decide) (fun h1 => ?_) (fun h1 => ?_)
    · refine X_iconst (v := 0) hC (by decide) dL_digest_31 ?_
      refine X_istore_n (ls' := [(3, .int (0 : Int32)), (0, .ref (ad 25)), (1, .long l1)]) hC dL_digest_32 (by decide) rfl ?_
      exact X_sub [1, 2, 0] rfl (L_L_digest_b33 G cls ad hi hC hz0 hz1 σ fuel l1 (0 : Int32))
    · refine X_ldc2 (v := 31) hC tw_366 dL_digest_12 ?_
      refine X_lload_n hC 1 rfl dL_digest_15 ?_
      refine X_lmul hC dL_digest_16 ?_
      refine X_aload_n hC 0 rfl dL_digest_17 ?_
      refine X_iload_n hC 2 rfl dL_digest_18 ?_
      refine X_callP (C := RX4) (T := TX4) (N := 5) (ci := 4) (rest := [.long ((31 : Int64) * l1)]) hC (c_X4_count _ G cls ad hi σ v3) (gV tw_338 tw_339 tw_340 tw_1 tw_341) rfl (wX (k := 25) (by omega) cX_vs) rfl rfl okm_X4_count (by decide) dL_digest_19 rfl (Nat.le_of_ble_eq_true rfl) (fun r23 => ?_)
      refine X_i2l hC dL_digest_22 ?_
      refine X_ladd hC dL_digest_23 ?_
      refine X_ltl (fun l24 => ?_)
      refine X_lstore_n (ls' := [(1, .long l24), (0, .ref (ad 25)), (3, .int v3)]) hC dL_digest_24 (by decide) rfl ?_
      refine X_iinc (ls' := fun x25 => [(3, .int x25), (1, .long l24), (0, .ref (ad 25))]) hC 2 dL_digest_25 rfl (by decide) (by decide) (fun _ => rfl) (fun x25 => ?_)
      refine X_goto hC 6 dL_digest_28 (by decide) ?_
      exact X_sub [2, 1, 0] rfl (ih l24 x25)
theorem okm_L_digest : okm yL_digest 1 = true := by decide +kernel
set_option maxHeartbeats 4000000 in
set_option maxRecDepth 100000 in
theorem c_L_digest (l : Launch) (G : va_G) (cls : Cls) (ad : Nat → Nat) (hi : inj 49 ad) (σ : Sg)    : MT l (YX G cls ad) yL_digest (.code yL_digest cL_digest 5 (some .long) :: gw) 5 115 [.ref (ad 25)] (fiL σ) σ (f_L_digest σ  ) := by
  refine MT.of (own := RL) (by decide) (YX_D hi) rfl (Nat.le_of_ble_eq_true rfl) fun Γ _ hz0 hz1 hC => ?_
  show WX Γ (YX G cls ad) (qf Γ (YX G cls ad) (fiL σ)) 5 0 [(0, .ref (ad 25))] [] σ (f_L_digest σ  )
  unfold f_L_digest
  refine X_ldc2 (v := 67) hC tw_365 dL_digest_0 ?_
  refine X_lstore_n (ls' := [(1, .long (67 : Int64)), (0, .ref (ad 25))]) hC dL_digest_3 (by decide) rfl ?_
  refine X_iconst (v := 0) hC (by decide) dL_digest_4 ?_
  refine X_istore_n (ls' := [(3, .int (0 : Int32)), (1, .long (67 : Int64)), (0, .ref (ad 25))]) hC dL_digest_5 (by decide) rfl ?_
  exact X_sub [2, 1, 0] rfl (L_L_digest_b6 G cls ad hi hC hz0 hz1 σ fuel (67 : Int64) (0 : Int32))
theorem dL_mark_0 : decode cL_mark 0 = .ok (.bipush 10, 2) := by decide +kernel
theorem dL_mark_2 : decode cL_mark 2 = .ok (.iload_n 3, 1) := by decide +kernel
theorem dL_mark_3 : decode cL_mark 3 = .ok (.iload_n 2, 1) := by decide +kernel
theorem dL_mark_4 : decode cL_mark 4 = .ok (.isub, 1) := by decide +kernel
theorem dL_mark_5 : decode cL_mark 5 = .ok (.invokestatic 29, 3) := by decide +kernel
theorem dL_mark_8 : decode cL_mark 8 = .ok (.aload_n 0, 1) := by decide +kernel
theorem dL_mark_9 : decode cL_mark 9 = .ok (.iload_n 1, 1) := by decide +kernel
theorem dL_mark_10 : decode cL_mark 10 = .ok (.iconst 1, 1) := by decide +kernel
theorem dL_mark_11 : decode cL_mark 11 = .ok (.invokevirtual 19, 3) := by decide +kernel
theorem dL_mark_14 : decode cL_mark 14 = .ok (.idiv, 1) := by decide +kernel
theorem dL_mark_15 : decode cL_mark 15 = .ok (.isub, 1) := by decide +kernel
theorem dL_mark_16 : decode cL_mark 16 = .ok (.istore 4, 2) := by decide +kernel
theorem dL_mark_18 : decode cL_mark 18 = .ok (.iload 4, 2) := by decide +kernel
theorem dL_mark_20 : decode cL_mark 20 = .ok (.ifCond .ge 7, 3) := by decide +kernel
theorem dL_mark_23 : decode cL_mark 23 = .ok (.iconst 0, 1) := by decide +kernel
theorem dL_mark_24 : decode cL_mark 24 = .ok (.goto 5, 3) := by decide +kernel
theorem dL_mark_27 : decode cL_mark 27 = .ok (.iload 4, 2) := by decide +kernel
theorem dL_mark_29 : decode cL_mark 29 = .ok (.ireturn, 1) := by decide +kernel
def f_L_mark (σ : Sg)  (p1 p2 p3 : Int32) : Option (Int32) := (f_L_size σ (p3 - p2)).bind fun r1 => (f_X4_instrument σ p1 (1 : Int32)).bind fun r2 => gd (r2 != 0) (lt ((10 : Int32) - (r1 / r2)) fun x3 => if 0 ≤ x3 then (some x3) else (some (0 : Int32)))
theorem okm_L_mark : okm yL_mark 4 = true := by decide +kernel
set_option maxHeartbeats 4000000 in
set_option maxRecDepth 100000 in
theorem c_L_mark (l : Launch) (G : va_G) (cls : Cls) (ad : Nat → Nat) (hi : inj 49 ad) (σ : Sg)   (p1 p2 p3 : Int32) : MT l (YX G cls ad) yL_mark (.code yL_mark cL_mark 5 (some .int) :: gw) 3 66 [.ref (ad 25), .int p1, .int p2, .int p3] (fiP σ) σ (f_L_mark σ  p1 p2 p3) := by
  refine MT.of (own := RL) (by decide) (YX_D hi) rfl (Nat.le_of_ble_eq_true rfl) fun Γ _ hz0 hz1 hC => ?_
  show WX Γ (YX G cls ad) (qf Γ (YX G cls ad) (fiP σ)) 5 0 [(0, .ref (ad 25)), (1, .int p1), (2, .int p2), (3, .int p3)] [] σ (f_L_mark σ  p1 p2 p3)
  unfold f_L_mark
  refine X_bipush (v := 10) hC (by decide) dL_mark_0 ?_
  refine X_iload_n hC 3 rfl dL_mark_2 ?_
  refine X_iload_n hC 2 rfl dL_mark_3 ?_
  refine X_isub hC dL_mark_4 ?_
  refine X_statP (rest := [.int (10 : Int32)]) hC (c_L_size _ G cls ad hi σ (p3 - p2)) (gSt tw_402 tw_403 tw_0 tw_404) rfl okm_L_size (by decide) dL_mark_5 rfl (Nat.le_of_ble_eq_true rfl) (fun r1 => ?_)
  refine X_aload_n hC 0 rfl dL_mark_8 ?_
  refine X_iload_n hC 1 rfl dL_mark_9 ?_
  refine X_iconst (v := 1) hC (by decide) dL_mark_10 ?_
  refine X_callP (C := RX4) (T := TX4) (N := 5) (ci := 4) (rest := [.int r1, .int (10 : Int32)]) hC (c_X4_instrument _ G cls ad hi σ p1 (1 : Int32)) (gV tw_367 tw_368 tw_369 tw_1 tw_370) rfl (wX (k := 25) (by omega) cX_vs) rfl rfl okm_X4_instrument (by decide) dL_mark_11 rfl (Nat.le_of_ble_eq_true rfl) (fun r2 => ?_)
  refine X_idiv hC dL_mark_14 ?_
  refine X_isub hC dL_mark_15 ?_
  refine X_lt (fun x3 => ?_)
  refine X_istore (ls' := [(4, .int x3), (0, .ref (ad 25)), (1, .int p1), (2, .int p2), (3, .int p3)]) hC dL_mark_16 (by decide) rfl ?_
  refine X_iload hC 0 rfl dL_mark_18 ?_
  refine X_if_ge hC 27 dL_mark_20 (by decide) (fun h4 => ?_) (fun h4 => ?_)
  · refine X_iload hC 0 rfl dL_mark_27 ?_
    exact X_iret hC hz0 hz1 dL_mark_29 rfl
  · refine X_iconst (v := 0) hC (by decide) dL_mark_23 ?_
    refine X_goto hC 29 dL_mark_24 (by decide) ?_
    exact X_iret hC hz0 hz1 dL_mark_29 rfl
theorem dL_ranks_0 : decode cL_ranks 0 = .ok (.aload_n 0, 1) := by decide +kernel
theorem dL_ranks_1 : decode cL_ranks 1 = .ok (.iconst 1, 1) := by decide +kernel
theorem dL_ranks_2 : decode cL_ranks 2 = .ok (.invokevirtual 13, 3) := by decide +kernel
theorem dL_ranks_5 : decode cL_ranks 5 = .ok (.istore_n 1, 1) := by decide +kernel
theorem dL_ranks_6 : decode cL_ranks 6 = .ok (.iconst 0, 1) := by decide +kernel
theorem dL_ranks_7 : decode cL_ranks 7 = .ok (.istore_n 2, 1) := by decide +kernel
theorem dL_ranks_8 : decode cL_ranks 8 = .ok (.iconst 0, 1) := by decide +kernel
theorem dL_ranks_9 : decode cL_ranks 9 = .ok (.istore_n 3, 1) := by decide +kernel
theorem dL_ranks_10 : decode cL_ranks 10 = .ok (.iload_n 3, 1) := by decide +kernel
theorem dL_ranks_11 : decode cL_ranks 11 = .ok (.iload_n 1, 1) := by decide +kernel
theorem dL_ranks_12 : decode cL_ranks 12 = .ok (.if_icmp .ge 178, 3) := by decide +kernel
theorem dL_ranks_15 : decode cL_ranks 15 = .ok (.aload_n 0, 1) := by decide +kernel
theorem dL_ranks_16 : decode cL_ranks 16 = .ok (.iload_n 3, 1) := by decide +kernel
theorem dL_ranks_17 : decode cL_ranks 17 = .ok (.invokevirtual 34, 3) := by decide +kernel
theorem dL_ranks_20 : decode cL_ranks 20 = .ok (.istore 4, 2) := by decide +kernel
theorem dL_ranks_22 : decode cL_ranks 22 = .ok (.iload_n 3, 1) := by decide +kernel
theorem dL_ranks_23 : decode cL_ranks 23 = .ok (.ifCond .le 13, 3) := by decide +kernel
theorem dL_ranks_26 : decode cL_ranks 26 = .ok (.aload_n 0, 1) := by decide +kernel
theorem dL_ranks_27 : decode cL_ranks 27 = .ok (.iload_n 3, 1) := by decide +kernel
theorem dL_ranks_28 : decode cL_ranks 28 = .ok (.iconst 1, 1) := by decide +kernel
theorem dL_ranks_29 : decode cL_ranks 29 = .ok (.isub, 1) := by decide +kernel
theorem dL_ranks_30 : decode cL_ranks 30 = .ok (.invokevirtual 34, 3) := by decide +kernel
theorem dL_ranks_33 : decode cL_ranks 33 = .ok (.goto 5, 3) := by decide +kernel
theorem dL_ranks_36 : decode cL_ranks 36 = .ok (.iload 4, 2) := by decide +kernel
theorem dL_ranks_38 : decode cL_ranks 38 = .ok (.istore 5, 2) := by decide +kernel
theorem dL_ranks_40 : decode cL_ranks 40 = .ok (.iload 4, 2) := by decide +kernel
theorem dL_ranks_42 : decode cL_ranks 42 = .ok (.ifCond .lt 30, 3) := by decide +kernel
theorem dL_ranks_45 : decode cL_ranks 45 = .ok (.iload 4, 2) := by decide +kernel
theorem dL_ranks_47 : decode cL_ranks 47 = .ok (.iload_n 1, 1) := by decide +kernel
theorem dL_ranks_48 : decode cL_ranks 48 = .ok (.if_icmp .ge 24, 3) := by decide +kernel
theorem dL_ranks_51 : decode cL_ranks 51 = .ok (.iload_n 2, 1) := by decide +kernel
theorem dL_ranks_52 : decode cL_ranks 52 = .ok (.iload 4, 2) := by decide +kernel
theorem dL_ranks_54 : decode cL_ranks 54 = .ok (.ishr, 1) := by decide +kernel
theorem dL_ranks_55 : decode cL_ranks 55 = .ok (.iconst 1, 1) := by decide +kernel
theorem dL_ranks_56 : decode cL_ranks 56 = .ok (.iand, 1) := by decide +kernel
theorem dL_ranks_57 : decode cL_ranks 57 = .ok (.iconst 1, 1) := by decide +kernel
theorem dL_ranks_58 : decode cL_ranks 58 = .ok (.if_icmp .eq 14, 3) := by decide +kernel
theorem dL_ranks_61 : decode cL_ranks 61 = .ok (.aload_n 0, 1) := by decide +kernel
theorem dL_ranks_62 : decode cL_ranks 62 = .ok (.iload 4, 2) := by decide +kernel
theorem dL_ranks_64 : decode cL_ranks 64 = .ok (.iconst 5, 1) := by decide +kernel
theorem dL_ranks_65 : decode cL_ranks 65 = .ok (.invokevirtual 23, 3) := by decide +kernel
theorem dL_ranks_68 : decode cL_ranks 68 = .ok (.iload_n 3, 1) := by decide +kernel
theorem dL_ranks_69 : decode cL_ranks 69 = .ok (.if_icmp .eq 5, 3) := by decide +kernel
theorem dL_ranks_72 : decode cL_ranks 72 = .ok (.iconst 0, 1) := by decide +kernel
theorem dL_ranks_73 : decode cL_ranks 73 = .ok (.ireturn, 1) := by decide +kernel
theorem dL_ranks_74 : decode cL_ranks 74 = .ok (.iload_n 2, 1) := by decide +kernel
theorem dL_ranks_75 : decode cL_ranks 75 = .ok (.iconst 1, 1) := by decide +kernel
theorem dL_ranks_76 : decode cL_ranks 76 = .ok (.iload 4, 2) := by decide +kernel
theorem dL_ranks_78 : decode cL_ranks 78 = .ok (.ishl, 1) := by decide +kernel
theorem dL_ranks_79 : decode cL_ranks 79 = .ok (.ior, 1) := by decide +kernel
theorem dL_ranks_80 : decode cL_ranks 80 = .ok (.istore_n 2, 1) := by decide +kernel
theorem dL_ranks_81 : decode cL_ranks 81 = .ok (.aload_n 0, 1) := by decide +kernel
theorem dL_ranks_82 : decode cL_ranks 82 = .ok (.iload 5, 2) := by decide +kernel
theorem dL_ranks_84 : decode cL_ranks 84 = .ok (.iconst 3, 1) := by decide +kernel
theorem dL_ranks_85 : decode cL_ranks 85 = .ok (.invokevirtual 23, 3) := by decide +kernel
theorem dL_ranks_88 : decode cL_ranks 88 = .ok (.istore 6, 2) := by decide +kernel
theorem dL_ranks_90 : decode cL_ranks 90 = .ok (.aload_n 0, 1) := by decide +kernel
theorem dL_ranks_91 : decode cL_ranks 91 = .ok (.iload 4, 2) := by decide +kernel
theorem dL_ranks_93 : decode cL_ranks 93 = .ok (.iconst 3, 1) := by decide +kernel
theorem dL_ranks_94 : decode cL_ranks 94 = .ok (.invokevirtual 23, 3) := by decide +kernel
theorem dL_ranks_97 : decode cL_ranks 97 = .ok (.istore 7, 2) := by decide +kernel
theorem dL_ranks_99 : decode cL_ranks 99 = .ok (.aload_n 0, 1) := by decide +kernel
theorem dL_ranks_100 : decode cL_ranks 100 = .ok (.iload 5, 2) := by decide +kernel
theorem dL_ranks_102 : decode cL_ranks 102 = .ok (.iconst 4, 1) := by decide +kernel
theorem dL_ranks_103 : decode cL_ranks 103 = .ok (.invokevirtual 23, 3) := by decide +kernel
theorem dL_ranks_106 : decode cL_ranks 106 = .ok (.iload 7, 2) := by decide +kernel
theorem dL_ranks_108 : decode cL_ranks 108 = .ok (.imul, 1) := by decide +kernel
theorem dL_ranks_109 : decode cL_ranks 109 = .ok (.aload_n 0, 1) := by decide +kernel
theorem dL_ranks_110 : decode cL_ranks 110 = .ok (.iload 4, 2) := by decide +kernel
theorem dL_ranks_112 : decode cL_ranks 112 = .ok (.iconst 4, 1) := by decide +kernel
theorem dL_ranks_113 : decode cL_ranks 113 = .ok (.invokevirtual 23, 3) := by decide +kernel
theorem dL_ranks_116 : decode cL_ranks 116 = .ok (.iload 6, 2) := by decide +kernel
theorem dL_ranks_118 : decode cL_ranks 118 = .ok (.imul, 1) := by decide +kernel
theorem dL_ranks_119 : decode cL_ranks 119 = .ok (.isub, 1) := by decide +kernel
theorem dL_ranks_120 : decode cL_ranks 120 = .ok (.istore 8, 2) := by decide +kernel
theorem dL_ranks_122 : decode cL_ranks 122 = .ok (.iload_n 3, 1) := by decide +kernel
theorem dL_ranks_123 : decode cL_ranks 123 = .ok (.ifCond .le 61, 3) := by decide +kernel
theorem dL_ranks_126 : decode cL_ranks 126 = .ok (.iload 7, 2) := by decide +kernel
theorem dL_ranks_128 : decode cL_ranks 128 = .ok (.ifCond .le 42, 3) := by decide +kernel
theorem dL_ranks_131 : decode cL_ranks 131 = .ok (.iload 6, 2) := by decide +kernel
theorem dL_ranks_133 : decode cL_ranks 133 = .ok (.ifCond .eq 49, 3) := by decide +kernel
theorem dL_ranks_136 : decode cL_ranks 136 = .ok (.iload 8, 2) := by decide +kernel
theorem dL_ranks_138 : decode cL_ranks 138 = .ok (.ifCond .lt 44, 3) := by decide +kernel
theorem dL_ranks_141 : decode cL_ranks 141 = .ok (.iload 8, 2) := by decide +kernel
theorem dL_ranks_143 : decode cL_ranks 143 = .ok (.ifCond .ne 41, 3) := by decide +kernel
theorem dL_ranks_146 : decode cL_ranks 146 = .ok (.iload 6, 2) := by decide +kernel
theorem dL_ranks_148 : decode cL_ranks 148 = .ok (.iload 7, 2) := by decide +kernel
theorem dL_ranks_150 : decode cL_ranks 150 = .ok (.if_icmp .lt 32, 3) := by decide +kernel
theorem dL_ranks_153 : decode cL_ranks 153 = .ok (.iload 6, 2) := by decide +kernel
theorem dL_ranks_155 : decode cL_ranks 155 = .ok (.iload 7, 2) := by decide +kernel
theorem dL_ranks_157 : decode cL_ranks 157 = .ok (.if_icmp .ne 27, 3) := by decide +kernel
theorem dL_ranks_160 : decode cL_ranks 160 = .ok (.iload 5, 2) := by decide +kernel
theorem dL_ranks_162 : decode cL_ranks 162 = .ok (.iload 4, 2) := by decide +kernel
theorem dL_ranks_164 : decode cL_ranks 164 = .ok (.if_icmp .le 20, 3) := by decide +kernel
theorem dL_ranks_167 : decode cL_ranks 167 = .ok (.goto 15, 3) := by decide +kernel
theorem dL_ranks_170 : decode cL_ranks 170 = .ok (.iload 6, 2) := by decide +kernel
theorem dL_ranks_172 : decode cL_ranks 172 = .ok (.ifCond .ne 12, 3) := by decide +kernel
theorem dL_ranks_175 : decode cL_ranks 175 = .ok (.iload 5, 2) := by decide +kernel
theorem dL_ranks_177 : decode cL_ranks 177 = .ok (.iload 4, 2) := by decide +kernel
theorem dL_ranks_179 : decode cL_ranks 179 = .ok (.if_icmp .le 5, 3) := by decide +kernel
theorem dL_ranks_182 : decode cL_ranks 182 = .ok (.iconst 0, 1) := by decide +kernel
theorem dL_ranks_183 : decode cL_ranks 183 = .ok (.ireturn, 1) := by decide +kernel
theorem dL_ranks_184 : decode cL_ranks 184 = .ok (.iinc 3 1, 3) := by decide +kernel
theorem dL_ranks_187 : decode cL_ranks 187 = .ok (.goto (-177), 3) := by decide +kernel
theorem dL_ranks_190 : decode cL_ranks 190 = .ok (.aload_n 0, 1) := by decide +kernel
theorem dL_ranks_191 : decode cL_ranks 191 = .ok (.iload_n 1, 1) := by decide +kernel
theorem dL_ranks_192 : decode cL_ranks 192 = .ok (.invokevirtual 34, 3) := by decide +kernel
theorem dL_ranks_195 : decode cL_ranks 195 = .ok (.ldc 37, 2) := by decide +kernel
theorem dL_ranks_197 : decode cL_ranks 197 = .ok (.if_icmp .ne 17, 3) := by decide +kernel
theorem dL_ranks_200 : decode cL_ranks 200 = .ok (.aload_n 0, 1) := by decide +kernel
theorem dL_ranks_201 : decode cL_ranks 201 = .ok (.iconst (-1), 1) := by decide +kernel
theorem dL_ranks_202 : decode cL_ranks 202 = .ok (.invokevirtual 34, 3) := by decide +kernel
theorem dL_ranks_205 : decode cL_ranks 205 = .ok (.ldc 38, 2) := by decide +kernel
theorem dL_ranks_207 : decode cL_ranks 207 = .ok (.if_icmp .ne 7, 3) := by decide +kernel
theorem dL_ranks_210 : decode cL_ranks 210 = .ok (.iconst 1, 1) := by decide +kernel
theorem dL_ranks_211 : decode cL_ranks 211 = .ok (.goto 4, 3) := by decide +kernel
theorem dL_ranks_214 : decode cL_ranks 214 = .ok (.iconst 0, 1) := by decide +kernel
theorem dL_ranks_215 : decode cL_ranks 215 = .ok (.ireturn, 1) := by decide +kernel
def f_L_ranks_b184 (σ : Sg)  (K10 : Int32 → Int32 → Int32 → Option (Int32))  (v1 : Int32) (v2 : Int32) (v3 : Int32) : Option (Int32) := lt (v3 + (1 : Int32)) fun x21 => K10 v1 v2 x21
def f_L_ranks_b38 (σ : Sg)  (K10 : Int32 → Int32 → Int32 → Option (Int32))  (v1 : Int32) (v2 : Int32) (v3 : Int32) (v4 : Int32) (w0 : Int32) : Option (Int32) := if v4 < 0 then none else (if v1 ≤ v4 then none else (if ((v2 >>> (v4 &&& 31)) &&& (1 : Int32)) = (1 : Int32) then none else ((f_X4_pupil σ v4 (5 : Int32)).bind fun r12 => if r12 = v3 then (lt (v2 ||| ((1 : Int32) <<< (v4 &&& 31))) fun x14 => (f_X4_pupil σ w0 (3 : Int32)).bind fun r15 => (f_X4_pupil σ v4 (3 : Int32)).bind fun r16 => (f_X4_pupil σ w0 (4 : Int32)).bind fun r17 => (f_X4_pupil σ v4 (4 : Int32)).bind fun r18 => lt ((r17 * r16) - (r18 * r15)) fun x19 => if v3 ≤ 0 then (f_L_ranks_b184 σ K10 v1 x14 v3) else (if r16 ≤ 0 then (if r15 = 0 then (if w0 ≤ v4 then (f_L_ranks_b184 σ K10 v1 x14 v3) else none) else (f_L_ranks_b184 σ K10 v1 x14 v3)) else (if r15 = 0 then none else (if x19 < 0 then none else (if x19 = 0 then (if r15 < r16 then none else (if r15 = r16 then (if w0 ≤ v4 then (f_L_ranks_b184 σ K10 v1 x14 v3) else none) else (f_L_ranks_b184 σ K10 v1 x14 v3))) else (f_L_ranks_b184 σ K10 v1 x14 v3)))))) else none)))
def f_L_ranks_b10 (σ : Sg)   : Nat → Int32 → Int32 → Int32 → Option (Int32)
  | 0, _, _, _ => none
  | n + 1, v1, v2, v3 => if v1 ≤ v3 then ((f_X4_ranked σ v1).bind fun r3 => if r3 = (-10000005 : Int32) then ((f_X4_ranked σ (-1 : Int32)).bind fun r5 => if r5 = (-10000002 : Int32) then (some (1 : Int32)) else none) else none) else ((f_X4_ranked σ v3).bind fun r7 => if v3 ≤ 0 then (f_L_ranks_b38 σ (f_L_ranks_b10 σ   n) v1 v2 v3 r7 r7) else ((f_X4_ranked σ (v3 - (1 : Int32))).bind fun r31 => f_L_ranks_b38 σ (f_L_ranks_b10 σ   n) v1 v2 v3 r7 r31))
def f_L_ranks (σ : Sg)   : Option (Int32) := (f_X4_count σ (1 : Int32)).bind fun r1 => f_L_ranks_b10 σ fuel r1 (0 : Int32) (0 : Int32)
set_option maxHeartbeats 4000000 in
set_option maxRecDepth 100000 in
theorem L_L_ranks_b184 {Γ : Cx} (G : va_G) (cls : Cls) (ad : Nat → Nat) (hi : inj 49 ad) (hC : CX Γ (YX G cls ad) cL_ranks RL 9 (some .boolean) 5 115) (hz0 : Γ.2.2.2.2.2.1 = 0) (hz1 : Γ.2.2.2.2.2.2 = 0) (σ : Sg)   (K10 : Int32 → Int32 → Int32 → Option (Int32)) (hK10 : ∀ (v1 : Int32) (v2 : Int32) (v3 : Int32), WX Γ (YX G cls ad) (qf Γ (YX G cls ad) (fiP σ)) 9 10 [(0, .ref (ad 25)), (1, .int v1), (2, .int v2), (3, .int v3)] [] σ (K10 v1 v2 v3))  (v1 : Int32) (v2 : Int32) (v3 : Int32) : WX Γ (YX G cls ad) (qf Γ (YX G cls ad) (fiP σ)) 9 184 [(0, .ref (ad 25)), (1, .int v1), (2, .int v2), (3, .int v3)] [] σ (f_L_ranks_b184 σ  K10 v1 v2 v3) := by
  unfold f_L_ranks_b184
  refine X_iinc (ls' := fun x21 => [(3, .int x21), (0, .ref (ad 25)), (1, .int v1), (2, .int v2)]) hC 3 dL_ranks_184 rfl (by decide) (by decide) (fun _ => rfl) (fun x21 => ?_)
  refine X_goto hC 10 dL_ranks_187 (by decide) ?_
  exact X_sub [1, 2, 3, 0] rfl (hK10 v1 v2 x21)
set_option maxHeartbeats 4000000 in
set_option maxRecDepth 100000 in
theorem L_L_ranks_b38 {Γ : Cx} (G : va_G) (cls : Cls) (ad : Nat → Nat) (hi : inj 49 ad) (hC : CX Γ (YX G cls ad) cL_ranks RL 9 (some .boolean) 5 115) (hz0 : Γ.2.2.2.2.2.1 = 0) (hz1 : Γ.2.2.2.2.2.2 = 0) (σ : Sg)   (K10 : Int32 → Int32 → Int32 → Option (Int32)) (hK10 : ∀ (v1 : Int32) (v2 : Int32) (v3 : Int32), WX Γ (YX G cls ad) (qf Γ (YX G cls ad) (fiP σ)) 9 10 [(0, .ref (ad 25)), (1, .int v1), (2, .int v2), (3, .int v3)] [] σ (K10 v1 v2 v3))  (v1 : Int32) (v2 : Int32) (v3 : Int32) (v4 : Int32) (w0 : Int32) : WX Γ (YX G cls ad) (qf Γ (YX G cls ad) (fiP σ)) 9 38 [(0, .ref (ad 25)), (1, .int v1), (2, .int v2), (3, .int v3), (4, .int v4)] [.int w0] σ (f_L_ranks_b38 σ  K10 v1 v2 v3 v4 w0) := by
  unfold f_L_ranks_b38
  refine X_istore (ls' := [(5, .int w0), (0, .ref (ad 25)), (1, .int v1), (2, .int v2), (3, .int v3), (4, .int v4)]) hC dL_ranks_38 (by decide) rfl ?_
  refine X_iload hC 5 rfl dL_ranks_40 ?_
  refine X_if_lt hC 72 dL_ranks_42 (by decide) (fun h9 => ?_) (fun h9 => ?_)
  · refine X_iconst (v := 0) hC (by decide) dL_ranks_72 ?_
    exact X_none
  · refine X_iload hC 5 rfl dL_ranks_45 ?_
    refine X_iload_n hC 2 rfl dL_ranks_47 ?_
    refine X_icmp_ge hC 72 dL_ranks_48 (by decide) (fun h10 => ?_) (fun h10 => ?_)
    · refine X_iconst (v := 0) hC (by decide) dL_ranks_72 ?_
      exact X_none
    · refine X_iload_n hC 3 rfl dL_ranks_51 ?_
      refine X_iload hC 5 rfl dL_ranks_52 ?_
      refine X_ishr hC dL_ranks_54 ?_
      refine X_iconst (v := 1) hC (by decide) dL_ranks_55 ?_
      refine X_iand hC dL_ranks_56 ?_
      refine X_iconst (v := 1) hC (by decide) dL_ranks_57 ?_
      refine X_icmp_eq hC 72 dL_ranks_58 (by decide) (fun h11 => ?_) (fun h11 => ?_)
      · refine X_iconst (v := 0) hC (by decide) dL_ranks_72 ?_
        exact X_none
      · refine X_aload_n hC 1 rfl dL_ranks_61 ?_
        refine X_iload hC 5 rfl dL_ranks_62 ?_
        refine X_iconst (v := 5) hC (by decide) dL_ranks_64 ?_
        refine X_callP (C := RX4) (T := TX4) (N := 5) (ci := 4) (rest := []) hC (c_X4_pupil _ G cls ad hi σ v4 (5 : Int32)) (gV tw_371 tw_372 tw_373 tw_1 tw_374) rfl (wX (k := 25) (by omega) cX_vs) rfl rfl okm_X4_pupil (by decide) dL_ranks_65 rfl (Nat.le_of_ble_eq_true rfl) (fun r12 => ?_)
        refine X_iload_n hC 4 rfl dL_ranks_68 ?_
        refine X_icmp_eq hC 74 dL_ranks_69 (by decide) (fun h13 => ?_) (fun h13 => ?_)
        · refine X_iload_n hC 3 rfl dL_ranks_74 ?_
          refine X_iconst (v := 1) hC (by decide) dL_ranks_75 ?_
          refine X_iload hC 5 rfl dL_ranks_76 ?_
          refine X_ishl hC dL_ranks_78 ?_
          refine X_ior hC dL_ranks_79 ?_
          refine X_lt (fun x14 => ?_)
          refine X_istore_n (ls' := [(2, .int x14), (5, .int w0), (0, .ref (ad 25)), (1, .int v1), (3, .int v3), (4, .int v4)]) hC dL_ranks_80 (by decide) rfl ?_
          refine X_aload_n hC 2 rfl dL_ranks_81 ?_
          refine X_iload hC 1 rfl dL_ranks_82 ?_
          refine X_iconst (v := 3) hC (by decide) dL_ranks_84 ?_
          refine X_callP (C := RX4) (T := TX4) (N := 5) (ci := 4) (rest := []) hC (c_X4_pupil _ G cls ad hi σ w0 (3 : Int32)) (gV tw_371 tw_372 tw_373 tw_1 tw_374) rfl (wX (k := 25) (by omega) cX_vs) rfl rfl okm_X4_pupil (by decide) dL_ranks_85 rfl (Nat.le_of_ble_eq_true rfl) (fun r15 => ?_)
          refine X_istore (ls' := [(6, .int r15), (2, .int x14), (5, .int w0), (0, .ref (ad 25)), (1, .int v1), (3, .int v3), (4, .int v4)]) hC dL_ranks_88 (by decide) rfl ?_
          refine X_aload_n hC 3 rfl dL_ranks_90 ?_
          refine X_iload hC 6 rfl dL_ranks_91 ?_
          refine X_iconst (v := 3) hC (by decide) dL_ranks_93 ?_
          refine X_callP (C := RX4) (T := TX4) (N := 5) (ci := 4) (rest := []) hC (c_X4_pupil _ G cls ad hi σ v4 (3 : Int32)) (gV tw_371 tw_372 tw_373 tw_1 tw_374) rfl (wX (k := 25) (by omega) cX_vs) rfl rfl okm_X4_pupil (by decide) dL_ranks_94 rfl (Nat.le_of_ble_eq_true rfl) (fun r16 => ?_)
          refine X_istore (ls' := [(7, .int r16), (6, .int r15), (2, .int x14), (5, .int w0), (0, .ref (ad 25)), (1, .int v1), (3, .int v3), (4, .int v4)]) hC dL_ranks_97 (by decide) rfl ?_
          refine X_aload_n hC 4 rfl dL_ranks_99 ?_
          refine X_iload hC 3 rfl dL_ranks_100 ?_
          refine X_iconst (v := 4) hC (by decide) dL_ranks_102 ?_
          refine X_callP (C := RX4) (T := TX4) (N := 5) (ci := 4) (rest := []) hC (c_X4_pupil _ G cls ad hi σ w0 (4 : Int32)) (gV tw_371 tw_372 tw_373 tw_1 tw_374) rfl (wX (k := 25) (by omega) cX_vs) rfl rfl okm_X4_pupil (by decide) dL_ranks_103 rfl (Nat.le_of_ble_eq_true rfl) (fun r17 => ?_)
          refine X_iload hC 0 rfl dL_ranks_106 ?_
          refine X_imul hC dL_ranks_108 ?_
          refine X_aload_n hC 4 rfl dL_ranks_109 ?_
          refine X_iload hC 7 rfl dL_ranks_110 ?_
          refine X_iconst (v := 4) hC (by decide) dL_ranks_112 ?_
          refine X_callP (C := RX4) (T := TX4) (N := 5) (ci := 4) (rest := [.int (r17 * r16)]) hC (c_X4_pupil _ G cls ad hi σ v4 (4 : Int32)) (gV tw_371 tw_372 tw_373 tw_1 tw_374) rfl (wX (k := 25) (by omega) cX_vs) rfl rfl okm_X4_pupil (by decide) dL_ranks_113 rfl (Nat.le_of_ble_eq_true rfl) (fun r18 => ?_)
          refine X_iload hC 1 rfl dL_ranks_116 ?_
          refine X_imul hC dL_ranks_118 ?_
          refine X_isub hC dL_ranks_119 ?_
          refine X_lt (fun x19 => ?_)
          refine X_istore (ls' := [(8, .int x19), (7, .int r16), (6, .int r15), (2, .int x14), (5, .int w0), (0, .ref (ad 25)), (1, .int v1), (3, .int v3), (4, .int v4)]) hC dL_ranks_120 (by decide) rfl ?_
          refine X_iload_n hC 7 rfl dL_ranks_122 ?_
          refine X_if_le hC 184 dL_ranks_123 (by decide) (fun h20 => ?_) (fun h20 => ?_)
          · exact X_sub [5, 6, 3, 7] rfl (L_L_ranks_b184 G cls ad hi hC hz0 hz1 σ K10 hK10 v1 x14 v3)
          · refine X_iload hC 1 rfl dL_ranks_126 ?_
            refine X_if_le hC 170 dL_ranks_128 (by decide) (fun h22 => ?_) (fun h22 => ?_)
            · refine X_iload hC 2 rfl dL_ranks_170 ?_
              refine X_if_ne hC 184 dL_ranks_172 (by decide) (fun h23 => ?_) (fun h23 => ?_)
              · exact X_sub [5, 6, 3, 7] rfl (L_L_ranks_b184 G cls ad hi hC hz0 hz1 σ K10 hK10 v1 x14 v3)
              · refine X_iload hC 4 rfl dL_ranks_175 ?_
                refine X_iload hC 8 rfl dL_ranks_177 ?_
                refine X_icmp_le hC 184 dL_ranks_179 (by decide) (fun h24 => ?_) (fun h24 => ?_)
                · exact X_sub [5, 6, 3, 7] rfl (L_L_ranks_b184 G cls ad hi hC hz0 hz1 σ K10 hK10 v1 x14 v3)
                · refine X_iconst (v := 0) hC (by decide) dL_ranks_182 ?_
                  exact X_none
            · refine X_iload hC 2 rfl dL_ranks_131 ?_
              refine X_if_eq hC 182 dL_ranks_133 (by decide) (fun h25 => ?_) (fun h25 => ?_)
              · refine X_iconst (v := 0) hC (by decide) dL_ranks_182 ?_
                exact X_none
              · refine X_iload hC 0 rfl dL_ranks_136 ?_
                refine X_if_lt hC 182 dL_ranks_138 (by decide) (fun h26 => ?_) (fun h26 => ?_)
                · refine X_iconst (v := 0) hC (by decide) dL_ranks_182 ?_
                  exact X_none
                · refine X_iload hC 0 rfl dL_ranks_141 ?_
                  refine X_if_ne hC 184 dL_ranks_143 (by decide) (fun h27 => ?_) (fun h27 => ?_)
                  · exact X_sub [5, 6, 3, 7] rfl (L_L_ranks_b184 G cls ad hi hC hz0 hz1 σ K10 hK10 v1 x14 v3)
                  · refine X_iload hC 2 rfl dL_ranks_146 ?_
                    refine X_iload hC 1 rfl dL_ranks_148 ?_
                    refine X_icmp_lt hC 182 dL_ranks_150 (by decide) (fun h28 => ?_) (fun h28 => ?_)
                    · refine X_iconst (v := 0) hC (by decide) dL_ranks_182 ?_
                      exact X_none
                    · refine X_iload hC 2 rfl dL_ranks_153 ?_
                      refine X_iload hC 1 rfl dL_ranks_155 ?_
                      refine X_icmp_ne hC 184 dL_ranks_157 (by decide) (fun h29 => ?_) (fun h29 => ?_)
                      · exact X_sub [5, 6, 3, 7] rfl (L_L_ranks_b184 G cls ad hi hC hz0 hz1 σ K10 hK10 v1 x14 v3)
                      · refine X_iload hC 4 rfl dL_ranks_160 ?_
                        refine X_iload hC 8 rfl dL_ranks_162 ?_
                        refine X_icmp_le hC 184 dL_ranks_164 (by decide) (fun h30 => ?_) (fun h30 => ?_)
                        · exact X_sub [5, 6, 3, 7] rfl (L_L_ranks_b184 G cls ad hi hC hz0 hz1 σ K10 hK10 v1 x14 v3)
                        · refine X_goto hC 182 dL_ranks_167 (by decide) ?_
                          refine X_iconst (v := 0) hC (by decide) dL_ranks_182 ?_
                          exact X_none
        · refine X_iconst (v := 0) hC (by decide) dL_ranks_72 ?_
          exact X_none
set_option maxHeartbeats 4000000 in
set_option maxRecDepth 100000 in
theorem L_L_ranks_b10 {Γ : Cx} (G : va_G) (cls : Cls) (ad : Nat → Nat) (hi : inj 49 ad) (hC : CX Γ (YX G cls ad) cL_ranks RL 9 (some .boolean) 5 115) (hz0 : Γ.2.2.2.2.2.1 = 0) (hz1 : Γ.2.2.2.2.2.2 = 0) (σ : Sg)    : ∀ (n : Nat) (v1 : Int32) (v2 : Int32) (v3 : Int32), WX Γ (YX G cls ad) (qf Γ (YX G cls ad) (fiP σ)) 9 10 [(0, .ref (ad 25)), (1, .int v1), (2, .int v2), (3, .int v3)] [] σ (f_L_ranks_b10 σ   n v1 v2 v3) := by
  intro n
  induction n with
  | zero => intro v1 v2 v3; exact X_none
  | succ n ih =>
    intro v1 v2 v3
    rw [f_L_ranks_b10.eq_2]
    refine X_iload_n hC 3 rfl dL_ranks_10 ?_
    refine X_iload_n hC 1 rfl dL_ranks_11 ?_
    refine X_icmp_ge hC 190 dL_ranks_12 (by decide) (fun h2 => ?_) (fun h2 => ?_)
    · refine X_aload_n hC 0 rfl dL_ranks_190 ?_
      refine X_iload_n hC 1 rfl dL_ranks_191 ?_
      refine X_callP (C := RX4) (T := TX4) (N := 5) (ci := 4) (rest := []) hC (c_X4_ranked _ G cls ad hi σ v1) (gV tw_326 tw_327 tw_328 tw_1 tw_329) rfl (wX (k := 25) (by omega) cX_vs) rfl rfl okm_X4_ranked (by decide) dL_ranks_192 rfl (Nat.le_of_ble_eq_true rfl) (fun r3 => ?_)
      refine X_ldc (v := -10000005) hC tw_387 dL_ranks_195 ?_
      refine X_icmp_ne hC 214 dL_ranks_197 (by decide) (fun h4 => ?_) (fun h4 => ?_)
      · refine X_iconst (v := 0) hC (by decide) dL_ranks_214 ?_
        exact X_none
      · refine X_aload_n hC 0 rfl dL_ranks_200 ?_
        refine X_iconst (v := -1) hC (by decide) dL_ranks_201 ?_
        refine X_callP (C := RX4) (T := TX4) (N := 5) (ci := 4) (rest := []) hC (c_X4_ranked _ G cls ad hi σ (-1 : Int32)) (gV tw_326 tw_327 tw_328 tw_1 tw_329) rfl (wX (k := 25) (by omega) cX_vs) rfl rfl okm_X4_ranked (by decide) dL_ranks_202 rfl (Nat.le_of_ble_eq_true rfl) (fun r5 => ?_)
        refine X_ldc (v := -10000002) hC tw_388 dL_ranks_205 ?_
        refine X_icmp_ne hC 214 dL_ranks_207 (by decide) (fun h6 => ?_) (fun h6 => ?_)
        · refine X_iconst (v := 0) hC (by decide) dL_ranks_214 ?_
          exact X_none
        · refine X_iconst (v := 1) hC (by decide) dL_ranks_210 ?_
          refine X_goto hC 215 dL_ranks_211 (by decide) ?_
          exact X_zret hC hz0 hz1 rfl dL_ranks_215 rfl
    · refine X_aload_n hC 0 rfl dL_ranks_15 ?_
      refine X_iload_n hC 3 rfl dL_ranks_16 ?_
      refine X_callP (C := RX4) (T := TX4) (N := 5) (ci := 4) (rest := []) hC (c_X4_ranked _ G cls ad hi σ v3) (gV tw_326 tw_327 tw_328 tw_1 tw_329) rfl (wX (k := 25) (by omega) cX_vs) rfl rfl okm_X4_ranked (by decide) dL_ranks_17 rfl (Nat.le_of_ble_eq_true rfl) (fun r7 => ?_)
      refine X_istore (ls' := [(4, .int r7), (0, .ref (ad 25)), (1, .int v1), (2, .int v2), (3, .int v3)]) hC dL_ranks_20 (by decide) rfl ?_
      refine X_iload_n hC 4 rfl dL_ranks_22 ?_
      refine X_if_le hC 36 dL_ranks_23 (by decide) (fun h8 => ?_) (fun h8 => ?_)
      · refine X_iload hC 0 rfl dL_ranks_36 ?_
        exact X_sub [1, 2, 3, 4, 0] rfl (L_L_ranks_b38 G cls ad hi hC hz0 hz1 σ (f_L_ranks_b10 σ   n) ih v1 v2 v3 r7 r7)
      · refine X_aload_n hC 1 rfl dL_ranks_26 ?_
        refine X_iload_n hC 4 rfl dL_ranks_27 ?_
        refine X_iconst (v := 1) hC (by decide) dL_ranks_28 ?_
        refine X_isub hC dL_ranks_29 ?_
        refine X_callP (C := RX4) (T := TX4) (N := 5) (ci := 4) (rest := []) hC (c_X4_ranked _ G cls ad hi σ (v3 - (1 : Int32))) (gV tw_326 tw_327 tw_328 tw_1 tw_329) rfl (wX (k := 25) (by omega) cX_vs) rfl rfl okm_X4_ranked (by decide) dL_ranks_30 rfl (Nat.le_of_ble_eq_true rfl) (fun r31 => ?_)
        refine X_goto hC 38 dL_ranks_33 (by decide) ?_
        exact X_sub [1, 2, 3, 4, 0] rfl (L_L_ranks_b38 G cls ad hi hC hz0 hz1 σ (f_L_ranks_b10 σ   n) ih v1 v2 v3 r7 r31)
theorem okm_L_ranks : okm yL_ranks 1 = true := by decide +kernel
set_option maxHeartbeats 4000000 in
set_option maxRecDepth 100000 in
theorem c_L_ranks (l : Launch) (G : va_G) (cls : Cls) (ad : Nat → Nat) (hi : inj 49 ad) (σ : Sg)    : MT l (YX G cls ad) yL_ranks (.code yL_ranks cL_ranks 9 (some .boolean) :: gw) 5 115 [.ref (ad 25)] (fiP σ) σ (f_L_ranks σ  ) := by
  refine MT.of (own := RL) (by decide) (YX_D hi) rfl (Nat.le_of_ble_eq_true rfl) fun Γ _ hz0 hz1 hC => ?_
  show WX Γ (YX G cls ad) (qf Γ (YX G cls ad) (fiP σ)) 9 0 [(0, .ref (ad 25))] [] σ (f_L_ranks σ  )
  unfold f_L_ranks
  refine X_aload_n hC 0 rfl dL_ranks_0 ?_
  refine X_iconst (v := 1) hC (by decide) dL_ranks_1 ?_
  refine X_callP (C := RX4) (T := TX4) (N := 5) (ci := 4) (rest := []) hC (c_X4_count _ G cls ad hi σ (1 : Int32)) (gV tw_338 tw_339 tw_340 tw_1 tw_341) rfl (wX (k := 25) (by omega) cX_vs) rfl rfl okm_X4_count (by decide) dL_ranks_2 rfl (Nat.le_of_ble_eq_true rfl) (fun r1 => ?_)
  refine X_istore_n (ls' := [(1, .int r1), (0, .ref (ad 25))]) hC dL_ranks_5 (by decide) rfl ?_
  refine X_iconst (v := 0) hC (by decide) dL_ranks_6 ?_
  refine X_istore_n (ls' := [(2, .int (0 : Int32)), (1, .int r1), (0, .ref (ad 25))]) hC dL_ranks_7 (by decide) rfl ?_
  refine X_iconst (v := 0) hC (by decide) dL_ranks_8 ?_
  refine X_istore_n (ls' := [(3, .int (0 : Int32)), (2, .int (0 : Int32)), (1, .int r1), (0, .ref (ad 25))]) hC dL_ranks_9 (by decide) rfl ?_
  exact X_sub [3, 2, 1, 0] rfl (L_L_ranks_b10 G cls ad hi hC hz0 hz1 σ fuel r1 (0 : Int32) (0 : Int32))
theorem dL_waits_0 : decode cL_waits 0 = .ok (.aload_n 0, 1) := by decide +kernel
theorem dL_waits_1 : decode cL_waits 1 = .ok (.iconst 3, 1) := by decide +kernel
theorem dL_waits_2 : decode cL_waits 2 = .ok (.invokevirtual 13, 3) := by decide +kernel
theorem dL_waits_5 : decode cL_waits 5 = .ok (.istore_n 1, 1) := by decide +kernel
theorem dL_waits_6 : decode cL_waits 6 = .ok (.iconst 0, 1) := by decide +kernel
theorem dL_waits_7 : decode cL_waits 7 = .ok (.istore_n 2, 1) := by decide +kernel
theorem dL_waits_8 : decode cL_waits 8 = .ok (.iload_n 2, 1) := by decide +kernel
theorem dL_waits_9 : decode cL_waits 9 = .ok (.iload_n 1, 1) := by decide +kernel
theorem dL_waits_10 : decode cL_waits 10 = .ok (.if_icmp .ge 114, 3) := by decide +kernel
theorem dL_waits_13 : decode cL_waits 13 = .ok (.aload_n 0, 1) := by decide +kernel
theorem dL_waits_14 : decode cL_waits 14 = .ok (.iload_n 2, 1) := by decide +kernel
theorem dL_waits_15 : decode cL_waits 15 = .ok (.invokevirtual 39, 3) := by decide +kernel
theorem dL_waits_18 : decode cL_waits 18 = .ok (.istore_n 3, 1) := by decide +kernel
theorem dL_waits_19 : decode cL_waits 19 = .ok (.iload_n 2, 1) := by decide +kernel
theorem dL_waits_20 : decode cL_waits 20 = .ok (.ifCond .le 13, 3) := by decide +kernel
theorem dL_waits_23 : decode cL_waits 23 = .ok (.aload_n 0, 1) := by decide +kernel
theorem dL_waits_24 : decode cL_waits 24 = .ok (.iload_n 2, 1) := by decide +kernel
theorem dL_waits_25 : decode cL_waits 25 = .ok (.iconst 1, 1) := by decide +kernel
theorem dL_waits_26 : decode cL_waits 26 = .ok (.isub, 1) := by decide +kernel
theorem dL_waits_27 : decode cL_waits 27 = .ok (.invokevirtual 39, 3) := by decide +kernel
theorem dL_waits_30 : decode cL_waits 30 = .ok (.goto 4, 3) := by decide +kernel
theorem dL_waits_33 : decode cL_waits 33 = .ok (.iload_n 3, 1) := by decide +kernel
theorem dL_waits_34 : decode cL_waits 34 = .ok (.istore 4, 2) := by decide +kernel
theorem dL_waits_36 : decode cL_waits 36 = .ok (.iload_n 3, 1) := by decide +kernel
theorem dL_waits_37 : decode cL_waits 37 = .ok (.ifCond .lt 13, 3) := by decide +kernel
theorem dL_waits_40 : decode cL_waits 40 = .ok (.aload_n 0, 1) := by decide +kernel
theorem dL_waits_41 : decode cL_waits 41 = .ok (.iload_n 3, 1) := by decide +kernel
theorem dL_waits_42 : decode cL_waits 42 = .ok (.iconst 5, 1) := by decide +kernel
theorem dL_waits_43 : decode cL_waits 43 = .ok (.invokevirtual 26, 3) := by decide +kernel
theorem dL_waits_46 : decode cL_waits 46 = .ok (.iconst 1, 1) := by decide +kernel
theorem dL_waits_47 : decode cL_waits 47 = .ok (.if_icmp .eq 5, 3) := by decide +kernel
theorem dL_waits_50 : decode cL_waits 50 = .ok (.iconst 0, 1) := by decide +kernel
theorem dL_waits_51 : decode cL_waits 51 = .ok (.ireturn, 1) := by decide +kernel
theorem dL_waits_52 : decode cL_waits 52 = .ok (.aload_n 0, 1) := by decide +kernel
theorem dL_waits_53 : decode cL_waits 53 = .ok (.iload 4, 2) := by decide +kernel
theorem dL_waits_55 : decode cL_waits 55 = .ok (.bipush 7, 2) := by decide +kernel
theorem dL_waits_57 : decode cL_waits 57 = .ok (.invokevirtual 26, 3) := by decide +kernel
theorem dL_waits_60 : decode cL_waits 60 = .ok (.aload_n 0, 1) := by decide +kernel
theorem dL_waits_61 : decode cL_waits 61 = .ok (.iload_n 3, 1) := by decide +kernel
theorem dL_waits_62 : decode cL_waits 62 = .ok (.bipush 7, 2) := by decide +kernel
theorem dL_waits_64 : decode cL_waits 64 = .ok (.invokevirtual 26, 3) := by decide +kernel
theorem dL_waits_67 : decode cL_waits 67 = .ok (.isub, 1) := by decide +kernel
theorem dL_waits_68 : decode cL_waits 68 = .ok (.istore 5, 2) := by decide +kernel
theorem dL_waits_70 : decode cL_waits 70 = .ok (.aload_n 0, 1) := by decide +kernel
theorem dL_waits_71 : decode cL_waits 71 = .ok (.iload 4, 2) := by decide +kernel
theorem dL_waits_73 : decode cL_waits 73 = .ok (.iconst 4, 1) := by decide +kernel
theorem dL_waits_74 : decode cL_waits 74 = .ok (.invokevirtual 26, 3) := by decide +kernel
theorem dL_waits_77 : decode cL_waits 77 = .ok (.aload_n 0, 1) := by decide +kernel
theorem dL_waits_78 : decode cL_waits 78 = .ok (.iload_n 3, 1) := by decide +kernel
theorem dL_waits_79 : decode cL_waits 79 = .ok (.iconst 4, 1) := by decide +kernel
theorem dL_waits_80 : decode cL_waits 80 = .ok (.invokevirtual 26, 3) := by decide +kernel
theorem dL_waits_83 : decode cL_waits 83 = .ok (.isub, 1) := by decide +kernel
theorem dL_waits_84 : decode cL_waits 84 = .ok (.istore 6, 2) := by decide +kernel
theorem dL_waits_86 : decode cL_waits 86 = .ok (.iload_n 2, 1) := by decide +kernel
theorem dL_waits_87 : decode cL_waits 87 = .ok (.ifCond .le 31, 3) := by decide +kernel
theorem dL_waits_90 : decode cL_waits 90 = .ok (.iload 5, 2) := by decide +kernel
theorem dL_waits_92 : decode cL_waits 92 = .ok (.ifCond .lt 24, 3) := by decide +kernel
theorem dL_waits_95 : decode cL_waits 95 = .ok (.iload 5, 2) := by decide +kernel
theorem dL_waits_97 : decode cL_waits 97 = .ok (.ifCond .ne 21, 3) := by decide +kernel
theorem dL_waits_100 : decode cL_waits 100 = .ok (.iload 6, 2) := by decide +kernel
theorem dL_waits_102 : decode cL_waits 102 = .ok (.ifCond .gt 14, 3) := by decide +kernel
theorem dL_waits_105 : decode cL_waits 105 = .ok (.iload 6, 2) := by decide +kernel
theorem dL_waits_107 : decode cL_waits 107 = .ok (.ifCond .ne 11, 3) := by decide +kernel
theorem dL_waits_110 : decode cL_waits 110 = .ok (.iload 4, 2) := by decide +kernel
theorem dL_waits_112 : decode cL_waits 112 = .ok (.iload_n 3, 1) := by decide +kernel
theorem dL_waits_113 : decode cL_waits 113 = .ok (.if_icmp .lt 5, 3) := by decide +kernel
theorem dL_waits_116 : decode cL_waits 116 = .ok (.iconst 0, 1) := by decide +kernel
theorem dL_waits_117 : decode cL_waits 117 = .ok (.ireturn, 1) := by decide +kernel
theorem dL_waits_118 : decode cL_waits 118 = .ok (.iinc 2 1, 3) := by decide +kernel
theorem dL_waits_121 : decode cL_waits 121 = .ok (.goto (-113), 3) := by decide +kernel
theorem dL_waits_124 : decode cL_waits 124 = .ok (.iload_n 1, 1) := by decide +kernel
theorem dL_waits_125 : decode cL_waits 125 = .ok (.bipush 20, 2) := by decide +kernel
theorem dL_waits_127 : decode cL_waits 127 = .ok (.if_icmp .gt 27, 3) := by decide +kernel
theorem dL_waits_130 : decode cL_waits 130 = .ok (.aload_n 0, 1) := by decide +kernel
theorem dL_waits_131 : decode cL_waits 131 = .ok (.iload_n 1, 1) := by decide +kernel
theorem dL_waits_132 : decode cL_waits 132 = .ok (.invokevirtual 39, 3) := by decide +kernel
theorem dL_waits_135 : decode cL_waits 135 = .ok (.ldc 37, 2) := by decide +kernel
theorem dL_waits_137 : decode cL_waits 137 = .ok (.if_icmp .ne 17, 3) := by decide +kernel
theorem dL_waits_140 : decode cL_waits 140 = .ok (.aload_n 0, 1) := by decide +kernel
theorem dL_waits_141 : decode cL_waits 141 = .ok (.iconst (-1), 1) := by decide +kernel
theorem dL_waits_142 : decode cL_waits 142 = .ok (.invokevirtual 39, 3) := by decide +kernel
theorem dL_waits_145 : decode cL_waits 145 = .ok (.ldc 38, 2) := by decide +kernel
theorem dL_waits_147 : decode cL_waits 147 = .ok (.if_icmp .ne 7, 3) := by decide +kernel
theorem dL_waits_150 : decode cL_waits 150 = .ok (.iconst 1, 1) := by decide +kernel
theorem dL_waits_151 : decode cL_waits 151 = .ok (.goto 4, 3) := by decide +kernel
theorem dL_waits_154 : decode cL_waits 154 = .ok (.iconst 0, 1) := by decide +kernel
theorem dL_waits_155 : decode cL_waits 155 = .ok (.ireturn, 1) := by decide +kernel
def f_L_waits_b118 (σ : Sg)  (K8 : Int32 → Int32 → Option (Int32))  (v1 : Int32) (v2 : Int32) : Option (Int32) := lt (v2 + (1 : Int32)) fun x20 => K8 v1 x20
def f_L_waits_b34 (σ : Sg)  (K8 : Int32 → Int32 → Option (Int32))  (v1 : Int32) (v2 : Int32) (v3 : Int32) (w0 : Int32) : Option (Int32) := if v3 < 0 then none else ((f_X4_paper σ v3 (5 : Int32)).bind fun r11 => if r11 = (1 : Int32) then ((f_X4_paper σ w0 (7 : Int32)).bind fun r13 => (f_X4_paper σ v3 (7 : Int32)).bind fun r14 => lt (r13 - r14) fun x15 => (f_X4_paper σ w0 (4 : Int32)).bind fun r16 => (f_X4_paper σ v3 (4 : Int32)).bind fun r17 => lt (r16 - r17) fun x18 => if v2 ≤ 0 then (f_L_waits_b118 σ K8 v1 v2) else (if x15 < 0 then none else (if x15 = 0 then (if 0 < x18 then none else (if x18 = 0 then (if w0 < v3 then (f_L_waits_b118 σ K8 v1 v2) else none) else (f_L_waits_b118 σ K8 v1 v2))) else (f_L_waits_b118 σ K8 v1 v2)))) else none)
def f_L_waits_b8 (σ : Sg)   : Nat → Int32 → Int32 → Option (Int32)
  | 0, _, _ => none
  | n + 1, v1, v2 => if v1 ≤ v2 then (if (20 : Int32) < v1 then none else ((f_X4_waiting σ v1).bind fun r4 => if r4 = (-10000005 : Int32) then ((f_X4_waiting σ (-1 : Int32)).bind fun r6 => if r6 = (-10000002 : Int32) then (some (1 : Int32)) else none) else none)) else ((f_X4_waiting σ v2).bind fun r8 => if v2 ≤ 0 then (f_L_waits_b34 σ (f_L_waits_b8 σ   n) v1 v2 r8 r8) else ((f_X4_waiting σ (v2 - (1 : Int32))).bind fun r26 => f_L_waits_b34 σ (f_L_waits_b8 σ   n) v1 v2 r8 r26))
def f_L_waits (σ : Sg)   : Option (Int32) := (f_X4_count σ (3 : Int32)).bind fun r1 => f_L_waits_b8 σ fuel r1 (0 : Int32)
set_option maxHeartbeats 4000000 in
set_option maxRecDepth 100000 in
theorem L_L_waits_b118 {Γ : Cx} (G : va_G) (cls : Cls) (ad : Nat → Nat) (hi : inj 49 ad) (hC : CX Γ (YX G cls ad) cL_waits RL 7 (some .boolean) 6 136) (hz0 : Γ.2.2.2.2.2.1 = 0) (hz1 : Γ.2.2.2.2.2.2 = 0) (σ : Sg)   (K8 : Int32 → Int32 → Option (Int32)) (hK8 : ∀ (v1 : Int32) (v2 : Int32), WX Γ (YX G cls ad) (qf Γ (YX G cls ad) (fiP σ)) 7 8 [(0, .ref (ad 25)), (1, .int v1), (2, .int v2)] [] σ (K8 v1 v2))  (v1 : Int32) (v2 : Int32) : WX Γ (YX G cls ad) (qf Γ (YX G cls ad) (fiP σ)) 7 118 [(0, .ref (ad 25)), (1, .int v1), (2, .int v2)] [] σ (f_L_waits_b118 σ  K8 v1 v2) := by
  unfold f_L_waits_b118
  refine X_iinc (ls' := fun x20 => [(2, .int x20), (0, .ref (ad 25)), (1, .int v1)]) hC 2 dL_waits_118 rfl (by decide) (by decide) (fun _ => rfl) (fun x20 => ?_)
  refine X_goto hC 8 dL_waits_121 (by decide) ?_
  exact X_sub [1, 2, 0] rfl (hK8 v1 x20)
set_option maxHeartbeats 4000000 in
set_option maxRecDepth 100000 in
theorem L_L_waits_b34 {Γ : Cx} (G : va_G) (cls : Cls) (ad : Nat → Nat) (hi : inj 49 ad) (hC : CX Γ (YX G cls ad) cL_waits RL 7 (some .boolean) 6 136) (hz0 : Γ.2.2.2.2.2.1 = 0) (hz1 : Γ.2.2.2.2.2.2 = 0) (σ : Sg)   (K8 : Int32 → Int32 → Option (Int32)) (hK8 : ∀ (v1 : Int32) (v2 : Int32), WX Γ (YX G cls ad) (qf Γ (YX G cls ad) (fiP σ)) 7 8 [(0, .ref (ad 25)), (1, .int v1), (2, .int v2)] [] σ (K8 v1 v2))  (v1 : Int32) (v2 : Int32) (v3 : Int32) (w0 : Int32) : WX Γ (YX G cls ad) (qf Γ (YX G cls ad) (fiP σ)) 7 34 [(0, .ref (ad 25)), (1, .int v1), (2, .int v2), (3, .int v3)] [.int w0] σ (f_L_waits_b34 σ  K8 v1 v2 v3 w0) := by
  unfold f_L_waits_b34
  refine X_istore (ls' := [(4, .int w0), (0, .ref (ad 25)), (1, .int v1), (2, .int v2), (3, .int v3)]) hC dL_waits_34 (by decide) rfl ?_
  refine X_iload_n hC 4 rfl dL_waits_36 ?_
  refine X_if_lt hC 50 dL_waits_37 (by decide) (fun h10 => ?_) (fun h10 => ?_)
  · refine X_iconst (v := 0) hC (by decide) dL_waits_50 ?_
    exact X_none
  · refine X_aload_n hC 1 rfl dL_waits_40 ?_
    refine X_iload_n hC 4 rfl dL_waits_41 ?_
    refine X_iconst (v := 5) hC (by decide) dL_waits_42 ?_
    refine X_callP (C := RX4) (T := TX4) (N := 5) (ci := 4) (rest := []) hC (c_X4_paper _ G cls ad hi σ v3 (5 : Int32)) (gV tw_380 tw_381 tw_382 tw_1 tw_383) rfl (wX (k := 25) (by omega) cX_vs) rfl rfl okm_X4_paper (by decide) dL_waits_43 rfl (Nat.le_of_ble_eq_true rfl) (fun r11 => ?_)
    refine X_iconst (v := 1) hC (by decide) dL_waits_46 ?_
    refine X_icmp_eq hC 52 dL_waits_47 (by decide) (fun h12 => ?_) (fun h12 => ?_)
    · refine X_aload_n hC 1 rfl dL_waits_52 ?_
      refine X_iload hC 0 rfl dL_waits_53 ?_
      refine X_bipush (v := 7) hC (by decide) dL_waits_55 ?_
      refine X_callP (C := RX4) (T := TX4) (N := 5) (ci := 4) (rest := []) hC (c_X4_paper _ G cls ad hi σ w0 (7 : Int32)) (gV tw_380 tw_381 tw_382 tw_1 tw_383) rfl (wX (k := 25) (by omega) cX_vs) rfl rfl okm_X4_paper (by decide) dL_waits_57 rfl (Nat.le_of_ble_eq_true rfl) (fun r13 => ?_)
      refine X_aload_n hC 1 rfl dL_waits_60 ?_
      refine X_iload_n hC 4 rfl dL_waits_61 ?_
      refine X_bipush (v := 7) hC (by decide) dL_waits_62 ?_
      refine X_callP (C := RX4) (T := TX4) (N := 5) (ci := 4) (rest := [.int r13]) hC (c_X4_paper _ G cls ad hi σ v3 (7 : Int32)) (gV tw_380 tw_381 tw_382 tw_1 tw_383) rfl (wX (k := 25) (by omega) cX_vs) rfl rfl okm_X4_paper (by decide) dL_waits_64 rfl (Nat.le_of_ble_eq_true rfl) (fun r14 => ?_)
      refine X_isub hC dL_waits_67 ?_
      refine X_lt (fun x15 => ?_)
      refine X_istore (ls' := [(5, .int x15), (4, .int w0), (0, .ref (ad 25)), (1, .int v1), (2, .int v2), (3, .int v3)]) hC dL_waits_68 (by decide) rfl ?_
      refine X_aload_n hC 2 rfl dL_waits_70 ?_
      refine X_iload hC 1 rfl dL_waits_71 ?_
      refine X_iconst (v := 4) hC (by decide) dL_waits_73 ?_
      refine X_callP (C := RX4) (T := TX4) (N := 5) (ci := 4) (rest := []) hC (c_X4_paper _ G cls ad hi σ w0 (4 : Int32)) (gV tw_380 tw_381 tw_382 tw_1 tw_383) rfl (wX (k := 25) (by omega) cX_vs) rfl rfl okm_X4_paper (by decide) dL_waits_74 rfl (Nat.le_of_ble_eq_true rfl) (fun r16 => ?_)
      refine X_aload_n hC 2 rfl dL_waits_77 ?_
      refine X_iload_n hC 5 rfl dL_waits_78 ?_
      refine X_iconst (v := 4) hC (by decide) dL_waits_79 ?_
      refine X_callP (C := RX4) (T := TX4) (N := 5) (ci := 4) (rest := [.int r16]) hC (c_X4_paper _ G cls ad hi σ v3 (4 : Int32)) (gV tw_380 tw_381 tw_382 tw_1 tw_383) rfl (wX (k := 25) (by omega) cX_vs) rfl rfl okm_X4_paper (by decide) dL_waits_80 rfl (Nat.le_of_ble_eq_true rfl) (fun r17 => ?_)
      refine X_isub hC dL_waits_83 ?_
      refine X_lt (fun x18 => ?_)
      refine X_istore (ls' := [(6, .int x18), (5, .int x15), (4, .int w0), (0, .ref (ad 25)), (1, .int v1), (2, .int v2), (3, .int v3)]) hC dL_waits_84 (by decide) rfl ?_
      refine X_iload_n hC 5 rfl dL_waits_86 ?_
      refine X_if_le hC 118 dL_waits_87 (by decide) (fun h19 => ?_) (fun h19 => ?_)
      · exact X_sub [3, 4, 5] rfl (L_L_waits_b118 G cls ad hi hC hz0 hz1 σ K8 hK8 v1 v2)
      · refine X_iload hC 1 rfl dL_waits_90 ?_
        refine X_if_lt hC 116 dL_waits_92 (by decide) (fun h21 => ?_) (fun h21 => ?_)
        · refine X_iconst (v := 0) hC (by decide) dL_waits_116 ?_
          exact X_none
        · refine X_iload hC 1 rfl dL_waits_95 ?_
          refine X_if_ne hC 118 dL_waits_97 (by decide) (fun h22 => ?_) (fun h22 => ?_)
          · exact X_sub [3, 4, 5] rfl (L_L_waits_b118 G cls ad hi hC hz0 hz1 σ K8 hK8 v1 v2)
          · refine X_iload hC 0 rfl dL_waits_100 ?_
            refine X_if_gt hC 116 dL_waits_102 (by decide) (fun h23 => ?_) (fun h23 => ?_)
            · refine X_iconst (v := 0) hC (by decide) dL_waits_116 ?_
              exact X_none
            · refine X_iload hC 0 rfl dL_waits_105 ?_
              refine X_if_ne hC 118 dL_waits_107 (by decide) (fun h24 => ?_) (fun h24 => ?_)
              · exact X_sub [3, 4, 5] rfl (L_L_waits_b118 G cls ad hi hC hz0 hz1 σ K8 hK8 v1 v2)
              · refine X_iload hC 2 rfl dL_waits_110 ?_
                refine X_iload_n hC 6 rfl dL_waits_112 ?_
                refine X_icmp_lt hC 118 dL_waits_113 (by decide) (fun h25 => ?_) (fun h25 => ?_)
                · exact X_sub [3, 4, 5] rfl (L_L_waits_b118 G cls ad hi hC hz0 hz1 σ K8 hK8 v1 v2)
                · refine X_iconst (v := 0) hC (by decide) dL_waits_116 ?_
                  exact X_none
    · refine X_iconst (v := 0) hC (by decide) dL_waits_50 ?_
      exact X_none
set_option maxHeartbeats 4000000 in
set_option maxRecDepth 100000 in
theorem L_L_waits_b8 {Γ : Cx} (G : va_G) (cls : Cls) (ad : Nat → Nat) (hi : inj 49 ad) (hC : CX Γ (YX G cls ad) cL_waits RL 7 (some .boolean) 6 136) (hz0 : Γ.2.2.2.2.2.1 = 0) (hz1 : Γ.2.2.2.2.2.2 = 0) (σ : Sg)    : ∀ (n : Nat) (v1 : Int32) (v2 : Int32), WX Γ (YX G cls ad) (qf Γ (YX G cls ad) (fiP σ)) 7 8 [(0, .ref (ad 25)), (1, .int v1), (2, .int v2)] [] σ (f_L_waits_b8 σ   n v1 v2) := by
  intro n
  induction n with
  | zero => intro v1 v2; exact X_none
  | succ n ih =>
    intro v1 v2
    rw [f_L_waits_b8.eq_2]
    refine X_iload_n hC 2 rfl dL_waits_8 ?_
    refine X_iload_n hC 1 rfl dL_waits_9 ?_
    refine X_icmp_ge hC 124 dL_waits_10 (by decide) (fun h2 => ?_) (fun h2 => ?_)
    · refine X_iload_n hC 1 rfl dL_waits_124 ?_
      refine X_bipush (v := 20) hC (by decide) dL_waits_125 ?_
      refine X_icmp_gt hC 154 dL_waits_127 (by decide) (fun h3 => ?_) (fun h3 => ?_)
      · refine X_iconst (v := 0) hC (by decide) dL_waits_154 ?_
        exact X_none
      · refine X_aload_n hC 0 rfl dL_waits_130 ?_
        refine X_iload_n hC 1 rfl dL_waits_131 ?_
        refine X_callP (C := RX4) (T := TX4) (N := 5) (ci := 4) (rest := []) hC (c_X4_waiting _ G cls ad hi σ v1) (gV tw_392 tw_393 tw_394 tw_1 tw_395) rfl (wX (k := 25) (by omega) cX_vs) rfl rfl okm_X4_waiting (by decide) dL_waits_132 rfl (Nat.le_of_ble_eq_true rfl) (fun r4 => ?_)
        refine X_ldc (v := -10000005) hC tw_387 dL_waits_135 ?_
        refine X_icmp_ne hC 154 dL_waits_137 (by decide) (fun h5 => ?_) (fun h5 => ?_)
        · refine X_iconst (v := 0) hC (by decide) dL_waits_154 ?_
          exact X_none
        · refine X_aload_n hC 0 rfl dL_waits_140 ?_
          refine X_iconst (v := -1) hC (by decide) dL_waits_141 ?_
          refine X_callP (C := RX4) (T := TX4) (N := 5) (ci := 4) (rest := []) hC (c_X4_waiting _ G cls ad hi σ (-1 : Int32)) (gV tw_392 tw_393 tw_394 tw_1 tw_395) rfl (wX (k := 25) (by omega) cX_vs) rfl rfl okm_X4_waiting (by decide) dL_waits_142 rfl (Nat.le_of_ble_eq_true rfl) (fun r6 => ?_)
          refine X_ldc (v := -10000002) hC tw_388 dL_waits_145 ?_
          refine X_icmp_ne hC 154 dL_waits_147 (by decide) (fun h7 => ?_) (fun h7 => ?_)
          · refine X_iconst (v := 0) hC (by decide) dL_waits_154 ?_
            exact X_none
          · refine X_iconst (v := 1) hC (by decide) dL_waits_150 ?_
            refine X_goto hC 155 dL_waits_151 (by decide) ?_
            exact X_zret hC hz0 hz1 rfl dL_waits_155 rfl
    · refine X_aload_n hC 0 rfl dL_waits_13 ?_
      refine X_iload_n hC 2 rfl dL_waits_14 ?_
      refine X_callP (C := RX4) (T := TX4) (N := 5) (ci := 4) (rest := []) hC (c_X4_waiting _ G cls ad hi σ v2) (gV tw_392 tw_393 tw_394 tw_1 tw_395) rfl (wX (k := 25) (by omega) cX_vs) rfl rfl okm_X4_waiting (by decide) dL_waits_15 rfl (Nat.le_of_ble_eq_true rfl) (fun r8 => ?_)
      refine X_istore_n (ls' := [(3, .int r8), (0, .ref (ad 25)), (1, .int v1), (2, .int v2)]) hC dL_waits_18 (by decide) rfl ?_
      refine X_iload_n hC 3 rfl dL_waits_19 ?_
      refine X_if_le hC 33 dL_waits_20 (by decide) (fun h9 => ?_) (fun h9 => ?_)
      · refine X_iload_n hC 0 rfl dL_waits_33 ?_
        exact X_sub [1, 2, 3, 0] rfl (L_L_waits_b34 G cls ad hi hC hz0 hz1 σ (f_L_waits_b8 σ   n) ih v1 v2 r8 r8)
      · refine X_aload_n hC 1 rfl dL_waits_23 ?_
        refine X_iload_n hC 3 rfl dL_waits_24 ?_
        refine X_iconst (v := 1) hC (by decide) dL_waits_25 ?_
        refine X_isub hC dL_waits_26 ?_
        refine X_callP (C := RX4) (T := TX4) (N := 5) (ci := 4) (rest := []) hC (c_X4_waiting _ G cls ad hi σ (v2 - (1 : Int32))) (gV tw_392 tw_393 tw_394 tw_1 tw_395) rfl (wX (k := 25) (by omega) cX_vs) rfl rfl okm_X4_waiting (by decide) dL_waits_27 rfl (Nat.le_of_ble_eq_true rfl) (fun r26 => ?_)
        refine X_goto hC 34 dL_waits_30 (by decide) ?_
        exact X_sub [1, 2, 3, 0] rfl (L_L_waits_b34 G cls ad hi hC hz0 hz1 σ (f_L_waits_b8 σ   n) ih v1 v2 r8 r26)
theorem okm_L_waits : okm yL_waits 1 = true := by decide +kernel
set_option maxHeartbeats 4000000 in
set_option maxRecDepth 100000 in
theorem c_L_waits (l : Launch) (G : va_G) (cls : Cls) (ad : Nat → Nat) (hi : inj 49 ad) (σ : Sg)    : MT l (YX G cls ad) yL_waits (.code yL_waits cL_waits 7 (some .boolean) :: gw) 6 136 [.ref (ad 25)] (fiP σ) σ (f_L_waits σ  ) := by
  refine MT.of (own := RL) (by decide) (YX_D hi) rfl (Nat.le_of_ble_eq_true rfl) fun Γ _ hz0 hz1 hC => ?_
  show WX Γ (YX G cls ad) (qf Γ (YX G cls ad) (fiP σ)) 7 0 [(0, .ref (ad 25))] [] σ (f_L_waits σ  )
  unfold f_L_waits
  refine X_aload_n hC 0 rfl dL_waits_0 ?_
  refine X_iconst (v := 3) hC (by decide) dL_waits_1 ?_
  refine X_callP (C := RX4) (T := TX4) (N := 5) (ci := 4) (rest := []) hC (c_X4_count _ G cls ad hi σ (3 : Int32)) (gV tw_338 tw_339 tw_340 tw_1 tw_341) rfl (wX (k := 25) (by omega) cX_vs) rfl rfl okm_X4_count (by decide) dL_waits_2 rfl (Nat.le_of_ble_eq_true rfl) (fun r1 => ?_)
  refine X_istore_n (ls' := [(1, .int r1), (0, .ref (ad 25))]) hC dL_waits_5 (by decide) rfl ?_
  refine X_iconst (v := 0) hC (by decide) dL_waits_6 ?_
  refine X_istore_n (ls' := [(2, .int (0 : Int32)), (1, .int r1), (0, .ref (ad 25))]) hC dL_waits_7 (by decide) rfl ?_
  exact X_sub [2, 1, 0] rfl (L_L_waits_b8 G cls ad hi hC hz0 hz1 σ fuel r1 (0 : Int32))
theorem dL_would_0 : decode cL_would 0 = .ok (.iconst 0, 1) := by decide +kernel
theorem dL_would_1 : decode cL_would 1 = .ok (.istore_n 2, 1) := by decide +kernel
theorem dL_would_2 : decode cL_would 2 = .ok (.iconst 0, 1) := by decide +kernel
theorem dL_would_3 : decode cL_would 3 = .ok (.istore_n 3, 1) := by decide +kernel
theorem dL_would_4 : decode cL_would 4 = .ok (.iload_n 3, 1) := by decide +kernel
theorem dL_would_5 : decode cL_would 5 = .ok (.aload_n 0, 1) := by decide +kernel
theorem dL_would_6 : decode cL_would 6 = .ok (.iconst 2, 1) := by decide +kernel
theorem dL_would_7 : decode cL_would 7 = .ok (.invokevirtual 13, 3) := by decide +kernel
theorem dL_would_10 : decode cL_would 10 = .ok (.if_icmp .ge 55, 3) := by decide +kernel
theorem dL_would_13 : decode cL_would 13 = .ok (.aload_n 0, 1) := by decide +kernel
theorem dL_would_14 : decode cL_would 14 = .ok (.iload_n 3, 1) := by decide +kernel
theorem dL_would_15 : decode cL_would 15 = .ok (.iconst 0, 1) := by decide +kernel
theorem dL_would_16 : decode cL_would 16 = .ok (.invokevirtual 26, 3) := by decide +kernel
theorem dL_would_19 : decode cL_would 19 = .ok (.iload_n 1, 1) := by decide +kernel
theorem dL_would_20 : decode cL_would 20 = .ok (.if_icmp .ne 39, 3) := by decide +kernel
theorem dL_would_23 : decode cL_would 23 = .ok (.aload_n 0, 1) := by decide +kernel
theorem dL_would_24 : decode cL_would 24 = .ok (.iload_n 3, 1) := by decide +kernel
theorem dL_would_25 : decode cL_would 25 = .ok (.iconst 1, 1) := by decide +kernel
theorem dL_would_26 : decode cL_would 26 = .ok (.invokevirtual 26, 3) := by decide +kernel
theorem dL_would_29 : decode cL_would 29 = .ok (.istore 4, 2) := by decide +kernel
theorem dL_would_31 : decode cL_would 31 = .ok (.iload_n 2, 1) := by decide +kernel
theorem dL_would_32 : decode cL_would 32 = .ok (.aload_n 0, 1) := by decide +kernel
theorem dL_would_33 : decode cL_would 33 = .ok (.iload 4, 2) := by decide +kernel
theorem dL_would_35 : decode cL_would 35 = .ok (.aload_n 0, 1) := by decide +kernel
theorem dL_would_36 : decode cL_would 36 = .ok (.iload_n 3, 1) := by decide +kernel
theorem dL_would_37 : decode cL_would 37 = .ok (.iconst 2, 1) := by decide +kernel
theorem dL_would_38 : decode cL_would 38 = .ok (.invokevirtual 26, 3) := by decide +kernel
theorem dL_would_41 : decode cL_would 41 = .ok (.aload_n 0, 1) := by decide +kernel
theorem dL_would_42 : decode cL_would 42 = .ok (.iload_n 1, 1) := by decide +kernel
theorem dL_would_43 : decode cL_would 43 = .ok (.iload 4, 2) := by decide +kernel
theorem dL_would_45 : decode cL_would 45 = .ok (.aload_n 0, 1) := by decide +kernel
theorem dL_would_46 : decode cL_would 46 = .ok (.iload_n 3, 1) := by decide +kernel
theorem dL_would_47 : decode cL_would 47 = .ok (.iconst 2, 1) := by decide +kernel
theorem dL_would_48 : decode cL_would 48 = .ok (.invokevirtual 26, 3) := by decide +kernel
theorem dL_would_51 : decode cL_would 51 = .ok (.invokevirtual 51, 3) := by decide +kernel
theorem dL_would_54 : decode cL_would 54 = .ok (.invokestatic 42, 3) := by decide +kernel
theorem dL_would_57 : decode cL_would 57 = .ok (.iadd, 1) := by decide +kernel
theorem dL_would_58 : decode cL_would 58 = .ok (.istore_n 2, 1) := by decide +kernel
theorem dL_would_59 : decode cL_would 59 = .ok (.iinc 3 1, 3) := by decide +kernel
theorem dL_would_62 : decode cL_would 62 = .ok (.goto (-58), 3) := by decide +kernel
theorem dL_would_65 : decode cL_would 65 = .ok (.aload_n 0, 1) := by decide +kernel
theorem dL_would_66 : decode cL_would 66 = .ok (.iload_n 1, 1) := by decide +kernel
theorem dL_would_67 : decode cL_would 67 = .ok (.iconst 0, 1) := by decide +kernel
theorem dL_would_68 : decode cL_would 68 = .ok (.invokevirtual 54, 3) := by decide +kernel
theorem dL_would_71 : decode cL_would 71 = .ok (.iload_n 2, 1) := by decide +kernel
theorem dL_would_72 : decode cL_would 72 = .ok (.if_icmp .ne 77, 3) := by decide +kernel
theorem dL_would_75 : decode cL_would 75 = .ok (.aload_n 0, 1) := by decide +kernel
theorem dL_would_76 : decode cL_would 76 = .ok (.iload_n 1, 1) := by decide +kernel
theorem dL_would_77 : decode cL_would 77 = .ok (.iconst 5, 1) := by decide +kernel
theorem dL_would_78 : decode cL_would 78 = .ok (.invokevirtual 54, 3) := by decide +kernel
theorem dL_would_81 : decode cL_would 81 = .ok (.ldc 38, 2) := by decide +kernel
theorem dL_would_83 : decode cL_would 83 = .ok (.if_icmp .ne 66, 3) := by decide +kernel
theorem dL_would_86 : decode cL_would 86 = .ok (.aload_n 0, 1) := by decide +kernel
theorem dL_would_87 : decode cL_would 87 = .ok (.iload_n 1, 1) := by decide +kernel
theorem dL_would_88 : decode cL_would 88 = .ok (.iconst 0, 1) := by decide +kernel
theorem dL_would_89 : decode cL_would 89 = .ok (.invokevirtual 23, 3) := by decide +kernel
theorem dL_would_92 : decode cL_would 92 = .ok (.ifCond .ne 13, 3) := by decide +kernel
theorem dL_would_95 : decode cL_would 95 = .ok (.aload_n 0, 1) := by decide +kernel
theorem dL_would_96 : decode cL_would 96 = .ok (.iload_n 1, 1) := by decide +kernel
theorem dL_would_97 : decode cL_would 97 = .ok (.iconst 1, 1) := by decide +kernel
theorem dL_would_98 : decode cL_would 98 = .ok (.invokevirtual 54, 3) := by decide +kernel
theorem dL_would_101 : decode cL_would 101 = .ok (.iload_n 2, 1) := by decide +kernel
theorem dL_would_102 : decode cL_would 102 = .ok (.if_icmp .ne 47, 3) := by decide +kernel
theorem dL_would_105 : decode cL_would 105 = .ok (.aload_n 0, 1) := by decide +kernel
theorem dL_would_106 : decode cL_would 106 = .ok (.iload_n 1, 1) := by decide +kernel
theorem dL_would_107 : decode cL_would 107 = .ok (.iconst 1, 1) := by decide +kernel
theorem dL_would_108 : decode cL_would 108 = .ok (.invokevirtual 23, 3) := by decide +kernel
theorem dL_would_111 : decode cL_would 111 = .ok (.ifCond .ne 13, 3) := by decide +kernel
theorem dL_would_114 : decode cL_would 114 = .ok (.aload_n 0, 1) := by decide +kernel
theorem dL_would_115 : decode cL_would 115 = .ok (.iload_n 1, 1) := by decide +kernel
theorem dL_would_116 : decode cL_would 116 = .ok (.iconst 2, 1) := by decide +kernel
theorem dL_would_117 : decode cL_would 117 = .ok (.invokevirtual 54, 3) := by decide +kernel
theorem dL_would_120 : decode cL_would 120 = .ok (.iload_n 2, 1) := by decide +kernel
theorem dL_would_121 : decode cL_would 121 = .ok (.if_icmp .ne 28, 3) := by decide +kernel
theorem dL_would_124 : decode cL_would 124 = .ok (.aload_n 0, 1) := by decide +kernel
theorem dL_would_125 : decode cL_would 125 = .ok (.iload_n 1, 1) := by decide +kernel
theorem dL_would_126 : decode cL_would 126 = .ok (.iconst 2, 1) := by decide +kernel
theorem dL_would_127 : decode cL_would 127 = .ok (.invokevirtual 23, 3) := by decide +kernel
theorem dL_would_130 : decode cL_would 130 = .ok (.bipush 7, 2) := by decide +kernel
theorem dL_would_132 : decode cL_would 132 = .ok (.if_icmp .ne 13, 3) := by decide +kernel
theorem dL_would_135 : decode cL_would 135 = .ok (.aload_n 0, 1) := by decide +kernel
theorem dL_would_136 : decode cL_would 136 = .ok (.iload_n 1, 1) := by decide +kernel
theorem dL_would_137 : decode cL_would 137 = .ok (.iconst 3, 1) := by decide +kernel
theorem dL_would_138 : decode cL_would 138 = .ok (.invokevirtual 54, 3) := by decide +kernel
theorem dL_would_141 : decode cL_would 141 = .ok (.iload_n 2, 1) := by decide +kernel
theorem dL_would_142 : decode cL_would 142 = .ok (.if_icmp .ne 7, 3) := by decide +kernel
theorem dL_would_145 : decode cL_would 145 = .ok (.iconst 1, 1) := by decide +kernel
theorem dL_would_146 : decode cL_would 146 = .ok (.goto 4, 3) := by decide +kernel
theorem dL_would_149 : decode cL_would 149 = .ok (.iconst 0, 1) := by decide +kernel
theorem dL_would_150 : decode cL_would 150 = .ok (.ireturn, 1) := by decide +kernel
def f_L_would_b145 (σ : Sg)     : Option (Int32) := some (1 : Int32)
def f_L_would_b124 (σ : Sg)    (v1 : Int32) (v2 : Int32) : Option (Int32) := (f_X4_pupil σ v1 (2 : Int32)).bind fun r11 => if r11 = (7 : Int32) then ((f_X4_would σ v1 (3 : Int32)).bind fun r13 => if r13 = v2 then (f_L_would_b145 σ) else none) else (f_L_would_b145 σ)
def f_L_would_b105 (σ : Sg)    (v1 : Int32) (v2 : Int32) : Option (Int32) := (f_X4_pupil σ v1 (1 : Int32)).bind fun r9 => if r9 = 0 then ((f_X4_would σ v1 (2 : Int32)).bind fun r15 => if r15 = v2 then (f_L_would_b124 σ v1 v2) else none) else (f_L_would_b124 σ v1 v2)
def f_L_would_b59 (σ : Sg)  (K4 : Int32 → Int32 → Int32 → Option (Int32))  (v1 : Int32) (v2 : Int32) (v3 : Int32) : Option (Int32) := lt (v3 + (1 : Int32)) fun x21 => K4 v1 v2 x21
def f_L_would_b4 (σ : Sg)   : Nat → Int32 → Int32 → Int32 → Option (Int32)
  | 0, _, _, _ => none
  | n + 1, v1, v2, v3 => (f_X4_count σ (2 : Int32)).bind fun r1 => if r1 ≤ v3 then ((f_X4_would σ v1 (0 : Int32)).bind fun r3 => if r3 = v2 then ((f_X4_would σ v1 (5 : Int32)).bind fun r5 => if r5 = (-10000002 : Int32) then ((f_X4_pupil σ v1 (0 : Int32)).bind fun r7 => if r7 = 0 then ((f_X4_would σ v1 (1 : Int32)).bind fun r17 => if r17 = v2 then (f_L_would_b105 σ v1 v2) else none) else (f_L_would_b105 σ v1 v2)) else none) else none) else ((f_X4_paper σ v3 (0 : Int32)).bind fun r19 => if r19 = v1 then ((f_X4_paper σ v3 (1 : Int32)).bind fun r22 => (f_X4_paper σ v3 (2 : Int32)).bind fun r23 => (f_X4_paper σ v3 (2 : Int32)).bind fun r24 => (f_X4_answer σ v1 r22 r24).bind fun r25 => (f_L_mark σ r22 r23 r25).bind fun r26 => lt (v2 + r26) fun x27 => f_L_would_b59 σ (f_L_would_b4 σ   n) v1 x27 v3) else (f_L_would_b59 σ (f_L_would_b4 σ   n) v1 v2 v3))
def f_L_would (σ : Sg)  (p1 : Int32) : Option (Int32) := f_L_would_b4 σ fuel p1 (0 : Int32) (0 : Int32)
set_option maxHeartbeats 4000000 in
set_option maxRecDepth 100000 in
theorem L_L_would_b145 {Γ : Cx} (G : va_G) (cls : Cls) (ad : Nat → Nat) (hi : inj 49 ad) (hC : CX Γ (YX G cls ad) cL_would RL 5 (some .boolean) 7 178) (hz0 : Γ.2.2.2.2.2.1 = 0) (hz1 : Γ.2.2.2.2.2.2 = 0) (σ : Sg)      : WX Γ (YX G cls ad) (qf Γ (YX G cls ad) (fiP σ)) 5 145 [] [] σ (f_L_would_b145 σ   ) := by
  unfold f_L_would_b145
  refine X_iconst (v := 1) hC (by decide) dL_would_145 ?_
  refine X_goto hC 150 dL_would_146 (by decide) ?_
  exact X_zret hC hz0 hz1 rfl dL_would_150 rfl
set_option maxHeartbeats 4000000 in
set_option maxRecDepth 100000 in
theorem L_L_would_b124 {Γ : Cx} (G : va_G) (cls : Cls) (ad : Nat → Nat) (hi : inj 49 ad) (hC : CX Γ (YX G cls ad) cL_would RL 5 (some .boolean) 7 178) (hz0 : Γ.2.2.2.2.2.1 = 0) (hz1 : Γ.2.2.2.2.2.2 = 0) (σ : Sg)     (v1 : Int32) (v2 : Int32) : WX Γ (YX G cls ad) (qf Γ (YX G cls ad) (fiP σ)) 5 124 [(0, .ref (ad 25)), (1, .int v1), (2, .int v2)] [] σ (f_L_would_b124 σ   v1 v2) := by
  unfold f_L_would_b124
  refine X_aload_n hC 0 rfl dL_would_124 ?_
  refine X_iload_n hC 1 rfl dL_would_125 ?_
  refine X_iconst (v := 2) hC (by decide) dL_would_126 ?_
  refine X_callP (C := RX4) (T := TX4) (N := 5) (ci := 4) (rest := []) hC (c_X4_pupil _ G cls ad hi σ v1 (2 : Int32)) (gV tw_371 tw_372 tw_373 tw_1 tw_374) rfl (wX (k := 25) (by omega) cX_vs) rfl rfl okm_X4_pupil (by decide) dL_would_127 rfl (Nat.le_of_ble_eq_true rfl) (fun r11 => ?_)
  refine X_bipush (v := 7) hC (by decide) dL_would_130 ?_
  refine X_icmp_ne hC 145 dL_would_132 (by decide) (fun h12 => ?_) (fun h12 => ?_)
  · exact X_sub [] rfl (L_L_would_b145 G cls ad hi hC hz0 hz1 σ)
  · refine X_aload_n hC 0 rfl dL_would_135 ?_
    refine X_iload_n hC 1 rfl dL_would_136 ?_
    refine X_iconst (v := 3) hC (by decide) dL_would_137 ?_
    refine X_callP (C := RX4) (T := TX4) (N := 5) (ci := 4) (rest := []) hC (c_X4_would _ G cls ad hi σ v1 (3 : Int32)) (gV tw_418 tw_419 tw_420 tw_1 tw_421) rfl (wX (k := 25) (by omega) cX_vs) rfl rfl okm_X4_would (by decide) dL_would_138 rfl (Nat.le_of_ble_eq_true rfl) (fun r13 => ?_)
    refine X_iload_n hC 2 rfl dL_would_141 ?_
    refine X_icmp_ne hC 149 dL_would_142 (by decide) (fun h14 => ?_) (fun h14 => ?_)
    · refine X_iconst (v := 0) hC (by decide) dL_would_149 ?_
      exact X_none
    · exact X_sub [] rfl (L_L_would_b145 G cls ad hi hC hz0 hz1 σ)
set_option maxHeartbeats 4000000 in
set_option maxRecDepth 100000 in
theorem L_L_would_b105 {Γ : Cx} (G : va_G) (cls : Cls) (ad : Nat → Nat) (hi : inj 49 ad) (hC : CX Γ (YX G cls ad) cL_would RL 5 (some .boolean) 7 178) (hz0 : Γ.2.2.2.2.2.1 = 0) (hz1 : Γ.2.2.2.2.2.2 = 0) (σ : Sg)     (v1 : Int32) (v2 : Int32) : WX Γ (YX G cls ad) (qf Γ (YX G cls ad) (fiP σ)) 5 105 [(0, .ref (ad 25)), (1, .int v1), (2, .int v2)] [] σ (f_L_would_b105 σ   v1 v2) := by
  unfold f_L_would_b105
  refine X_aload_n hC 0 rfl dL_would_105 ?_
  refine X_iload_n hC 1 rfl dL_would_106 ?_
  refine X_iconst (v := 1) hC (by decide) dL_would_107 ?_
  refine X_callP (C := RX4) (T := TX4) (N := 5) (ci := 4) (rest := []) hC (c_X4_pupil _ G cls ad hi σ v1 (1 : Int32)) (gV tw_371 tw_372 tw_373 tw_1 tw_374) rfl (wX (k := 25) (by omega) cX_vs) rfl rfl okm_X4_pupil (by decide) dL_would_108 rfl (Nat.le_of_ble_eq_true rfl) (fun r9 => ?_)
  refine X_if_ne hC 124 dL_would_111 (by decide) (fun h10 => ?_) (fun h10 => ?_)
  · exact (L_L_would_b124 G cls ad hi hC hz0 hz1 σ v1 v2)
  · refine X_aload_n hC 0 rfl dL_would_114 ?_
    refine X_iload_n hC 1 rfl dL_would_115 ?_
    refine X_iconst (v := 2) hC (by decide) dL_would_116 ?_
    refine X_callP (C := RX4) (T := TX4) (N := 5) (ci := 4) (rest := []) hC (c_X4_would _ G cls ad hi σ v1 (2 : Int32)) (gV tw_418 tw_419 tw_420 tw_1 tw_421) rfl (wX (k := 25) (by omega) cX_vs) rfl rfl okm_X4_would (by decide) dL_would_117 rfl (Nat.le_of_ble_eq_true rfl) (fun r15 => ?_)
    refine X_iload_n hC 2 rfl dL_would_120 ?_
    refine X_icmp_ne hC 149 dL_would_121 (by decide) (fun h16 => ?_) (fun h16 => ?_)
    · refine X_iconst (v := 0) hC (by decide) dL_would_149 ?_
      exact X_none
    · exact (L_L_would_b124 G cls ad hi hC hz0 hz1 σ v1 v2)
set_option maxHeartbeats 4000000 in
set_option maxRecDepth 100000 in
theorem L_L_would_b59 {Γ : Cx} (G : va_G) (cls : Cls) (ad : Nat → Nat) (hi : inj 49 ad) (hC : CX Γ (YX G cls ad) cL_would RL 5 (some .boolean) 7 178) (hz0 : Γ.2.2.2.2.2.1 = 0) (hz1 : Γ.2.2.2.2.2.2 = 0) (σ : Sg)   (K4 : Int32 → Int32 → Int32 → Option (Int32)) (hK4 : ∀ (v1 : Int32) (v2 : Int32) (v3 : Int32), WX Γ (YX G cls ad) (qf Γ (YX G cls ad) (fiP σ)) 5 4 [(0, .ref (ad 25)), (1, .int v1), (2, .int v2), (3, .int v3)] [] σ (K4 v1 v2 v3))  (v1 : Int32) (v2 : Int32) (v3 : Int32) : WX Γ (YX G cls ad) (qf Γ (YX G cls ad) (fiP σ)) 5 59 [(0, .ref (ad 25)), (1, .int v1), (2, .int v2), (3, .int v3)] [] σ (f_L_would_b59 σ  K4 v1 v2 v3) := by
  unfold f_L_would_b59
  refine X_iinc (ls' := fun x21 => [(3, .int x21), (0, .ref (ad 25)), (1, .int v1), (2, .int v2)]) hC 3 dL_would_59 rfl (by decide) (by decide) (fun _ => rfl) (fun x21 => ?_)
  refine X_goto hC 4 dL_would_62 (by decide) ?_
  exact X_sub [1, 2, 3, 0] rfl (hK4 v1 v2 x21)
set_option maxHeartbeats 4000000 in
set_option maxRecDepth 100000 in
theorem L_L_would_b4 {Γ : Cx} (G : va_G) (cls : Cls) (ad : Nat → Nat) (hi : inj 49 ad) (hC : CX Γ (YX G cls ad) cL_would RL 5 (some .boolean) 7 178) (hz0 : Γ.2.2.2.2.2.1 = 0) (hz1 : Γ.2.2.2.2.2.2 = 0) (σ : Sg)    : ∀ (n : Nat) (v1 : Int32) (v2 : Int32) (v3 : Int32), WX Γ (YX G cls ad) (qf Γ (YX G cls ad) (fiP σ)) 5 4 [(0, .ref (ad 25)), (1, .int v1), (2, .int v2), (3, .int v3)] [] σ (f_L_would_b4 σ   n v1 v2 v3) := by
  intro n
  induction n with
  | zero => intro v1 v2 v3; exact X_none
  | succ n ih =>
    intro v1 v2 v3
    rw [f_L_would_b4.eq_2]
    refine X_iload_n hC 3 rfl dL_would_4 ?_
    refine X_aload_n hC 0 rfl dL_would_5 ?_
    refine X_iconst (v := 2) hC (by decide) dL_would_6 ?_
    refine X_callP (C := RX4) (T := TX4) (N := 5) (ci := 4) (rest := [.int v3]) hC (c_X4_count _ G cls ad hi σ (2 : Int32)) (gV tw_338 tw_339 tw_340 tw_1 tw_341) rfl (wX (k := 25) (by omega) cX_vs) rfl rfl okm_X4_count (by decide) dL_would_7 rfl (Nat.le_of_ble_eq_true rfl) (fun r1 => ?_)
    refine X_icmp_ge hC 65 dL_would_10 (by decide) (fun h2 => ?_) (fun h2 => ?_)
    · refine X_aload_n hC 0 rfl dL_would_65 ?_
      refine X_iload_n hC 1 rfl dL_would_66 ?_
      refine X_iconst (v := 0) hC (by decide) dL_would_67 ?_
      refine X_callP (C := RX4) (T := TX4) (N := 5) (ci := 4) (rest := []) hC (c_X4_would _ G cls ad hi σ v1 (0 : Int32)) (gV tw_418 tw_419 tw_420 tw_1 tw_421) rfl (wX (k := 25) (by omega) cX_vs) rfl rfl okm_X4_would (by decide) dL_would_68 rfl (Nat.le_of_ble_eq_true rfl) (fun r3 => ?_)
      refine X_iload_n hC 2 rfl dL_would_71 ?_
      refine X_icmp_ne hC 149 dL_would_72 (by decide) (fun h4 => ?_) (fun h4 => ?_)
      · refine X_iconst (v := 0) hC (by decide) dL_would_149 ?_
        exact X_none
      · refine X_aload_n hC 0 rfl dL_would_75 ?_
        refine X_iload_n hC 1 rfl dL_would_76 ?_
        refine X_iconst (v := 5) hC (by decide) dL_would_77 ?_
        refine X_callP (C := RX4) (T := TX4) (N := 5) (ci := 4) (rest := []) hC (c_X4_would _ G cls ad hi σ v1 (5 : Int32)) (gV tw_418 tw_419 tw_420 tw_1 tw_421) rfl (wX (k := 25) (by omega) cX_vs) rfl rfl okm_X4_would (by decide) dL_would_78 rfl (Nat.le_of_ble_eq_true rfl) (fun r5 => ?_)
        refine X_ldc (v := -10000002) hC tw_388 dL_would_81 ?_
        refine X_icmp_ne hC 149 dL_would_83 (by decide) (fun h6 => ?_) (fun h6 => ?_)
        · refine X_iconst (v := 0) hC (by decide) dL_would_149 ?_
          exact X_none
        · refine X_aload_n hC 0 rfl dL_would_86 ?_
          refine X_iload_n hC 1 rfl dL_would_87 ?_
          refine X_iconst (v := 0) hC (by decide) dL_would_88 ?_
          refine X_callP (C := RX4) (T := TX4) (N := 5) (ci := 4) (rest := []) hC (c_X4_pupil _ G cls ad hi σ v1 (0 : Int32)) (gV tw_371 tw_372 tw_373 tw_1 tw_374) rfl (wX (k := 25) (by omega) cX_vs) rfl rfl okm_X4_pupil (by decide) dL_would_89 rfl (Nat.le_of_ble_eq_true rfl) (fun r7 => ?_)
          refine X_if_ne hC 105 dL_would_92 (by decide) (fun h8 => ?_) (fun h8 => ?_)
          · exact X_sub [0, 1, 2] rfl (L_L_would_b105 G cls ad hi hC hz0 hz1 σ v1 v2)
          · refine X_aload_n hC 0 rfl dL_would_95 ?_
            refine X_iload_n hC 1 rfl dL_would_96 ?_
            refine X_iconst (v := 1) hC (by decide) dL_would_97 ?_
            refine X_callP (C := RX4) (T := TX4) (N := 5) (ci := 4) (rest := []) hC (c_X4_would _ G cls ad hi σ v1 (1 : Int32)) (gV tw_418 tw_419 tw_420 tw_1 tw_421) rfl (wX (k := 25) (by omega) cX_vs) rfl rfl okm_X4_would (by decide) dL_would_98 rfl (Nat.le_of_ble_eq_true rfl) (fun r17 => ?_)
            refine X_iload_n hC 2 rfl dL_would_101 ?_
            refine X_icmp_ne hC 149 dL_would_102 (by decide) (fun h18 => ?_) (fun h18 => ?_)
            · refine X_iconst (v := 0) hC (by decide) dL_would_149 ?_
              exact X_none
            · exact X_sub [0, 1, 2] rfl (L_L_would_b105 G cls ad hi hC hz0 hz1 σ v1 v2)
    · refine X_aload_n hC 0 rfl dL_would_13 ?_
      refine X_iload_n hC 3 rfl dL_would_14 ?_
      refine X_iconst (v := 0) hC (by decide) dL_would_15 ?_
      refine X_callP (C := RX4) (T := TX4) (N := 5) (ci := 4) (rest := []) hC (c_X4_paper _ G cls ad hi σ v3 (0 : Int32)) (gV tw_380 tw_381 tw_382 tw_1 tw_383) rfl (wX (k := 25) (by omega) cX_vs) rfl rfl okm_X4_paper (by decide) dL_would_16 rfl (Nat.le_of_ble_eq_true rfl) (fun r19 => ?_)
      refine X_iload_n hC 1 rfl dL_would_19 ?_
      refine X_icmp_ne hC 59 dL_would_20 (by decide) (fun h20 => ?_) (fun h20 => ?_)
      · exact (L_L_would_b59 G cls ad hi hC hz0 hz1 σ (f_L_would_b4 σ   n) ih v1 v2 v3)
      · refine X_aload_n hC 0 rfl dL_would_23 ?_
        refine X_iload_n hC 3 rfl dL_would_24 ?_
        refine X_iconst (v := 1) hC (by decide) dL_would_25 ?_
        refine X_callP (C := RX4) (T := TX4) (N := 5) (ci := 4) (rest := []) hC (c_X4_paper _ G cls ad hi σ v3 (1 : Int32)) (gV tw_380 tw_381 tw_382 tw_1 tw_383) rfl (wX (k := 25) (by omega) cX_vs) rfl rfl okm_X4_paper (by decide) dL_would_26 rfl (Nat.le_of_ble_eq_true rfl) (fun r22 => ?_)
        refine X_istore (ls' := [(4, .int r22), (0, .ref (ad 25)), (1, .int v1), (2, .int v2), (3, .int v3)]) hC dL_would_29 (by decide) rfl ?_
        refine X_iload_n hC 3 rfl dL_would_31 ?_
        refine X_aload_n hC 1 rfl dL_would_32 ?_
        refine X_iload hC 0 rfl dL_would_33 ?_
        refine X_aload_n hC 1 rfl dL_would_35 ?_
        refine X_iload_n hC 4 rfl dL_would_36 ?_
        refine X_iconst (v := 2) hC (by decide) dL_would_37 ?_
        refine X_callP (C := RX4) (T := TX4) (N := 5) (ci := 4) (rest := [.int r22, .ref (ad 25), .int v2]) hC (c_X4_paper _ G cls ad hi σ v3 (2 : Int32)) (gV tw_380 tw_381 tw_382 tw_1 tw_383) rfl (wX (k := 25) (by omega) cX_vs) rfl rfl okm_X4_paper (by decide) dL_would_38 rfl (Nat.le_of_ble_eq_true rfl) (fun r23 => ?_)
        refine X_aload_n hC 1 rfl dL_would_41 ?_
        refine X_iload_n hC 2 rfl dL_would_42 ?_
        refine X_iload hC 0 rfl dL_would_43 ?_
        refine X_aload_n hC 1 rfl dL_would_45 ?_
        refine X_iload_n hC 4 rfl dL_would_46 ?_
        refine X_iconst (v := 2) hC (by decide) dL_would_47 ?_
        refine X_callP (C := RX4) (T := TX4) (N := 5) (ci := 4) (rest := [.int r22, .int v1, .ref (ad 25), .int r23, .int r22, .ref (ad 25), .int v2]) hC (c_X4_paper _ G cls ad hi σ v3 (2 : Int32)) (gV tw_380 tw_381 tw_382 tw_1 tw_383) rfl (wX (k := 25) (by omega) cX_vs) rfl rfl okm_X4_paper (by decide) dL_would_48 rfl (Nat.le_of_ble_eq_true rfl) (fun r24 => ?_)
        refine X_callP (C := RX4) (T := TX4) (N := 5) (ci := 4) (rest := [.int r23, .int r22, .ref (ad 25), .int v2]) hC (c_X4_answer _ G cls ad hi σ v1 r22 r24) (gV tw_412 tw_413 tw_414 tw_1 tw_415) rfl (wX (k := 25) (by omega) cX_vs) rfl rfl okm_X4_answer (by decide) dL_would_51 rfl (Nat.le_of_ble_eq_true rfl) (fun r25 => ?_)
        refine X_statP (rest := [.int v2]) hC (c_L_mark _ G cls ad hi σ r22 r23 r25) (gSt tw_399 tw_400 tw_0 tw_401) rfl okm_L_mark (by decide) dL_would_54 rfl (Nat.le_of_ble_eq_true rfl) (fun r26 => ?_)
        refine X_iadd hC dL_would_57 ?_
        refine X_lt (fun x27 => ?_)
        refine X_istore_n (ls' := [(2, .int x27), (4, .int r22), (0, .ref (ad 25)), (1, .int v1), (3, .int v3)]) hC dL_would_58 (by decide) rfl ?_
        exact X_sub [2, 3, 0, 4] rfl (L_L_would_b59 G cls ad hi hC hz0 hz1 σ (f_L_would_b4 σ   n) ih v1 x27 v3)
theorem okm_L_would : okm yL_would 2 = true := by decide +kernel
set_option maxHeartbeats 4000000 in
set_option maxRecDepth 100000 in
theorem c_L_would (l : Launch) (G : va_G) (cls : Cls) (ad : Nat → Nat) (hi : inj 49 ad) (σ : Sg)   (p1 : Int32) : MT l (YX G cls ad) yL_would (.code yL_would cL_would 5 (some .boolean) :: gw) 7 178 [.ref (ad 25), .int p1] (fiP σ) σ (f_L_would σ  p1) := by
  refine MT.of (own := RL) (by decide) (YX_D hi) rfl (Nat.le_of_ble_eq_true rfl) fun Γ _ hz0 hz1 hC => ?_
  show WX Γ (YX G cls ad) (qf Γ (YX G cls ad) (fiP σ)) 5 0 [(0, .ref (ad 25)), (1, .int p1)] [] σ (f_L_would σ  p1)
  unfold f_L_would
  refine X_iconst (v := 0) hC (by decide) dL_would_0 ?_
  refine X_istore_n (ls' := [(2, .int (0 : Int32)), (0, .ref (ad 25)), (1, .int p1)]) hC dL_would_1 (by decide) rfl ?_
  refine X_iconst (v := 0) hC (by decide) dL_would_2 ?_
  refine X_istore_n (ls' := [(3, .int (0 : Int32)), (2, .int (0 : Int32)), (0, .ref (ad 25)), (1, .int p1)]) hC dL_would_3 (by decide) rfl ?_
  exact X_sub [2, 3, 1, 0] rfl (L_L_would_b4 G cls ad hi hC hz0 hz1 σ fuel p1 (0 : Int32) (0 : Int32))
