theorem dL_law_466 : decode cL_law 466 = .ok (.aload_n 1, 1) := by decide +kernel
theorem dL_law_467 : decode cL_law 467 = .ok (.aload_n 0, 1) := by decide +kernel
theorem dL_law_468 : decode cL_law 468 = .ok (.iload_n 3, 1) := by decide +kernel
theorem dL_law_469 : decode cL_law 469 = .ok (.iconst 1, 1) := by decide +kernel
theorem dL_law_470 : decode cL_law 470 = .ok (.iadd, 1) := by decide +kernel
theorem dL_law_471 : decode cL_law 471 = .ok (.iaload, 1) := by decide +kernel
theorem dL_law_472 : decode cL_law 472 = .ok (.aload_n 0, 1) := by decide +kernel
theorem dL_law_473 : decode cL_law 473 = .ok (.iload_n 3, 1) := by decide +kernel
theorem dL_law_474 : decode cL_law 474 = .ok (.iconst 2, 1) := by decide +kernel
theorem dL_law_475 : decode cL_law 475 = .ok (.iadd, 1) := by decide +kernel
theorem dL_law_476 : decode cL_law 476 = .ok (.iaload, 1) := by decide +kernel
theorem dL_law_477 : decode cL_law 477 = .ok (.invokevirtual 57, 3) := by decide +kernel
theorem dL_law_480 : decode cL_law 480 = .ok (.aload_n 2, 1) := by decide +kernel
theorem dL_law_481 : decode cL_law 481 = .ok (.aload_n 0, 1) := by decide +kernel
theorem dL_law_482 : decode cL_law 482 = .ok (.iload_n 3, 1) := by decide +kernel
theorem dL_law_483 : decode cL_law 483 = .ok (.iconst 1, 1) := by decide +kernel
theorem dL_law_484 : decode cL_law 484 = .ok (.iadd, 1) := by decide +kernel
theorem dL_law_485 : decode cL_law 485 = .ok (.iaload, 1) := by decide +kernel
theorem dL_law_486 : decode cL_law 486 = .ok (.aload_n 0, 1) := by decide +kernel
theorem dL_law_487 : decode cL_law 487 = .ok (.iload_n 3, 1) := by decide +kernel
theorem dL_law_488 : decode cL_law 488 = .ok (.iconst 2, 1) := by decide +kernel
theorem dL_law_489 : decode cL_law 489 = .ok (.iadd, 1) := by decide +kernel
theorem dL_law_490 : decode cL_law 490 = .ok (.iaload, 1) := by decide +kernel
theorem dL_law_491 : decode cL_law 491 = .ok (.invokevirtual 60, 3) := by decide +kernel
theorem dL_law_494 : decode cL_law 494 = .ok (.if_icmp .eq 775, 3) := by decide +kernel
theorem dL_law_497 : decode cL_law 497 = .ok (.iconst 0, 1) := by decide +kernel
theorem dL_law_498 : decode cL_law 498 = .ok (.ireturn, 1) := by decide +kernel
theorem wq_X7_rope : tg_Y0 yX7_rope cX7_rope 3 (some .int) 2 ∧ Cond.instanceMethod yX7_rope ∈ tg_gG ∧ Cond.selects yX7_rope.cls yX7_rope yX7_rope ∈ tg_gG ∧ Cond.methodLink RL 57 yX7_rope ∈ tg_gG := ⟨⟨tg_mem (List.mem_of_getElem? (i := 510) (by decide +kernel)) (by decide +kernel), wi_X7, by decide +kernel, by decide +kernel, by decide +kernel⟩, tg_mem (List.mem_of_getElem? (i := 508) (by decide +kernel)) (by decide +kernel), tg_mem (List.mem_of_getElem? (i := 509) (by decide +kernel)) (by decide +kernel), tg_mem (List.mem_of_getElem? (i := 507) (by decide +kernel)) (by decide +kernel)⟩
theorem wq_X8_rope : tg_Y0 yX8_rope cX8_rope 3 (some .int) 2 ∧ Cond.instanceMethod yX8_rope ∈ tg_gG ∧ Cond.selects yX8_rope.cls yX8_rope yX8_rope ∈ tg_gG ∧ Cond.methodLink RL 60 yX8_rope ∈ tg_gG := ⟨⟨tg_mem (List.mem_of_getElem? (i := 1025) (by decide +kernel)) (by decide +kernel), wi_X8, by decide +kernel, by decide +kernel, by decide +kernel⟩, tg_mem (List.mem_of_getElem? (i := 1023) (by decide +kernel)) (by decide +kernel), tg_mem (List.mem_of_getElem? (i := 1024) (by decide +kernel)) (by decide +kernel), tg_mem (List.mem_of_getElem? (i := 1022) (by decide +kernel)) (by decide +kernel)⟩
theorem lc_10 {x : tg_X} {b L : Nat} {xs : Nat → Int32} {bd : Nat → Nat} {S T : tg_S} {A : Nat → Nat → Nat} {i : Nat} (X : lq_M x b L xs) (hI : z_I S T A) (hi : i + 6 ≤ L) (k : ∀ S T A, z_I S T A → lq_G x b bd S T i 1269 []) : lq_G x b bd S T i 466 [] := by
  obtain ⟨S1, T1, r, A1, h1, h2, h3⟩ := e_rope S T A hI (xs (i + 1)) (xs (i + 2))
  refine lq_x1 X dL_law_466 ?_
  refine lq_arg X (j := 1) (by decide) (by decide) hi dL_law_467 dL_law_468 dL_law_469 dL_law_470 dL_law_471 ?_
  refine lq_arg X (j := 2) (by decide) (by decide) hi dL_law_472 dL_law_473 dL_law_474 dL_law_475 dL_law_476 ?_
  refine lq_C (st := []) X (cm_X7_rope _ _ _ _ _ h1) wq_X7_rope.1 wq_X7_rope.2.1 wq_X7_rope.2.2.1 wq_X7_rope.2.2.2 rfl ⟨rfl, rfl, Nat.le_of_ble_eq_true rfl, Nat.le_of_ble_eq_true rfl⟩ rfl rfl (Nat.le_of_ble_eq_true rfl) dL_law_477 rfl ?_
  refine lq_x2 X dL_law_480 ?_
  refine lq_arg X (j := 1) (by decide) (by decide) hi dL_law_481 dL_law_482 dL_law_483 dL_law_484 dL_law_485 ?_
  refine lq_arg X (j := 2) (by decide) (by decide) hi dL_law_486 dL_law_487 dL_law_488 dL_law_489 dL_law_490 ?_
  refine lq_R (st := [.int r]) X (cm_X8_rope _ _ _ _ _ h2) wq_X8_rope.1 wq_X8_rope.2.1 wq_X8_rope.2.2.1 wq_X8_rope.2.2.2 rfl ⟨rfl, rfl, Nat.le_of_ble_eq_true rfl, Nat.le_of_ble_eq_true rfl⟩ rfl rfl (Nat.le_of_ble_eq_true rfl) dL_law_491 rfl ?_
  exact lq_same X dL_law_494 (by decide) (k S1 T1 A1 h3)
theorem dL_law_499 : decode cL_law 499 = .ok (.aload_n 1, 1) := by decide +kernel
theorem dL_law_500 : decode cL_law 500 = .ok (.aload_n 0, 1) := by decide +kernel
theorem dL_law_501 : decode cL_law 501 = .ok (.iload_n 3, 1) := by decide +kernel
theorem dL_law_502 : decode cL_law 502 = .ok (.iconst 1, 1) := by decide +kernel
theorem dL_law_503 : decode cL_law 503 = .ok (.iadd, 1) := by decide +kernel
theorem dL_law_504 : decode cL_law 504 = .ok (.iaload, 1) := by decide +kernel
theorem dL_law_505 : decode cL_law 505 = .ok (.aload_n 0, 1) := by decide +kernel
theorem dL_law_506 : decode cL_law 506 = .ok (.iload_n 3, 1) := by decide +kernel
theorem dL_law_507 : decode cL_law 507 = .ok (.iconst 2, 1) := by decide +kernel
theorem dL_law_508 : decode cL_law 508 = .ok (.iadd, 1) := by decide +kernel
theorem dL_law_509 : decode cL_law 509 = .ok (.iaload, 1) := by decide +kernel
theorem dL_law_510 : decode cL_law 510 = .ok (.aload_n 0, 1) := by decide +kernel
theorem dL_law_511 : decode cL_law 511 = .ok (.iload_n 3, 1) := by decide +kernel
theorem dL_law_512 : decode cL_law 512 = .ok (.iconst 3, 1) := by decide +kernel
theorem dL_law_513 : decode cL_law 513 = .ok (.iadd, 1) := by decide +kernel
theorem dL_law_514 : decode cL_law 514 = .ok (.iaload, 1) := by decide +kernel
theorem dL_law_515 : decode cL_law 515 = .ok (.invokevirtual 61, 3) := by decide +kernel
theorem dL_law_518 : decode cL_law 518 = .ok (.aload_n 2, 1) := by decide +kernel
theorem dL_law_519 : decode cL_law 519 = .ok (.aload_n 0, 1) := by decide +kernel
theorem dL_law_520 : decode cL_law 520 = .ok (.iload_n 3, 1) := by decide +kernel
theorem dL_law_521 : decode cL_law 521 = .ok (.iconst 1, 1) := by decide +kernel
theorem dL_law_522 : decode cL_law 522 = .ok (.iadd, 1) := by decide +kernel
theorem dL_law_523 : decode cL_law 523 = .ok (.iaload, 1) := by decide +kernel
theorem dL_law_524 : decode cL_law 524 = .ok (.aload_n 0, 1) := by decide +kernel
theorem dL_law_525 : decode cL_law 525 = .ok (.iload_n 3, 1) := by decide +kernel
theorem dL_law_526 : decode cL_law 526 = .ok (.iconst 2, 1) := by decide +kernel
theorem dL_law_527 : decode cL_law 527 = .ok (.iadd, 1) := by decide +kernel
theorem dL_law_528 : decode cL_law 528 = .ok (.iaload, 1) := by decide +kernel
theorem dL_law_529 : decode cL_law 529 = .ok (.aload_n 0, 1) := by decide +kernel
theorem dL_law_530 : decode cL_law 530 = .ok (.iload_n 3, 1) := by decide +kernel
theorem dL_law_531 : decode cL_law 531 = .ok (.iconst 3, 1) := by decide +kernel
theorem dL_law_532 : decode cL_law 532 = .ok (.iadd, 1) := by decide +kernel
theorem dL_law_533 : decode cL_law 533 = .ok (.iaload, 1) := by decide +kernel
theorem dL_law_534 : decode cL_law 534 = .ok (.invokevirtual 64, 3) := by decide +kernel
theorem dL_law_537 : decode cL_law 537 = .ok (.if_icmp .eq 732, 3) := by decide +kernel
theorem dL_law_540 : decode cL_law 540 = .ok (.iconst 0, 1) := by decide +kernel
theorem dL_law_541 : decode cL_law 541 = .ok (.ireturn, 1) := by decide +kernel
theorem wq_X7_at : tg_Y0 yX7_at cX7_at 5 (some .int) 3 ∧ Cond.instanceMethod yX7_at ∈ tg_gG ∧ Cond.selects yX7_at.cls yX7_at yX7_at ∈ tg_gG ∧ Cond.methodLink RL 61 yX7_at ∈ tg_gG := ⟨⟨tg_mem (List.mem_of_getElem? (i := 514) (by decide +kernel)) (by decide +kernel), wi_X7, by decide +kernel, by decide +kernel, by decide +kernel⟩, tg_mem (List.mem_of_getElem? (i := 512) (by decide +kernel)) (by decide +kernel), tg_mem (List.mem_of_getElem? (i := 513) (by decide +kernel)) (by decide +kernel), tg_mem (List.mem_of_getElem? (i := 511) (by decide +kernel)) (by decide +kernel)⟩
theorem wq_X8_at : tg_Y0 yX8_at cX8_at 4 (some .int) 3 ∧ Cond.instanceMethod yX8_at ∈ tg_gG ∧ Cond.selects yX8_at.cls yX8_at yX8_at ∈ tg_gG ∧ Cond.methodLink RL 64 yX8_at ∈ tg_gG := ⟨⟨tg_mem (List.mem_of_getElem? (i := 1072) (by decide +kernel)) (by decide +kernel), wi_X8, by decide +kernel, by decide +kernel, by decide +kernel⟩, tg_mem (List.mem_of_getElem? (i := 1070) (by decide +kernel)) (by decide +kernel), tg_mem (List.mem_of_getElem? (i := 1071) (by decide +kernel)) (by decide +kernel), tg_mem (List.mem_of_getElem? (i := 1069) (by decide +kernel)) (by decide +kernel)⟩
theorem lc_11 {x : tg_X} {b L : Nat} {xs : Nat → Int32} {bd : Nat → Nat} {S T : tg_S} {A : Nat → Nat → Nat} {i : Nat} (X : lq_M x b L xs) (hI : z_I S T A) (hi : i + 6 ≤ L) (k : ∀ S T A, z_I S T A → lq_G x b bd S T i 1269 []) : lq_G x b bd S T i 499 [] := by
  obtain ⟨S1, T1, r, A1, h1, h2, h3⟩ := e_at S T A hI (xs (i + 1)) (xs (i + 2)) (xs (i + 3))
  refine lq_x1 X dL_law_499 ?_
  refine lq_arg X (j := 1) (by decide) (by decide) hi dL_law_500 dL_law_501 dL_law_502 dL_law_503 dL_law_504 ?_
  refine lq_arg X (j := 2) (by decide) (by decide) hi dL_law_505 dL_law_506 dL_law_507 dL_law_508 dL_law_509 ?_
  refine lq_arg X (j := 3) (by decide) (by decide) hi dL_law_510 dL_law_511 dL_law_512 dL_law_513 dL_law_514 ?_
  refine lq_C (st := []) X (cm_X7_at _ _ _ _ _ h1) wq_X7_at.1 wq_X7_at.2.1 wq_X7_at.2.2.1 wq_X7_at.2.2.2 rfl ⟨rfl, rfl, Nat.le_of_ble_eq_true rfl, Nat.le_of_ble_eq_true rfl⟩ rfl rfl (Nat.le_of_ble_eq_true rfl) dL_law_515 rfl ?_
  refine lq_x2 X dL_law_518 ?_
  refine lq_arg X (j := 1) (by decide) (by decide) hi dL_law_519 dL_law_520 dL_law_521 dL_law_522 dL_law_523 ?_
  refine lq_arg X (j := 2) (by decide) (by decide) hi dL_law_524 dL_law_525 dL_law_526 dL_law_527 dL_law_528 ?_
  refine lq_arg X (j := 3) (by decide) (by decide) hi dL_law_529 dL_law_530 dL_law_531 dL_law_532 dL_law_533 ?_
  refine lq_R (st := [.int r]) X (cm_X8_at _ _ _ _ _ h2) wq_X8_at.1 wq_X8_at.2.1 wq_X8_at.2.2.1 wq_X8_at.2.2.2 rfl ⟨rfl, rfl, Nat.le_of_ble_eq_true rfl, Nat.le_of_ble_eq_true rfl⟩ rfl rfl (Nat.le_of_ble_eq_true rfl) dL_law_534 rfl ?_
  exact lq_same X dL_law_537 (by decide) (k S1 T1 A1 h3)
theorem dL_law_542 : decode cL_law 542 = .ok (.aload_n 1, 1) := by decide +kernel
theorem dL_law_543 : decode cL_law 543 = .ok (.aload_n 0, 1) := by decide +kernel
theorem dL_law_544 : decode cL_law 544 = .ok (.iload_n 3, 1) := by decide +kernel
theorem dL_law_545 : decode cL_law 545 = .ok (.iconst 1, 1) := by decide +kernel
theorem dL_law_546 : decode cL_law 546 = .ok (.iadd, 1) := by decide +kernel
theorem dL_law_547 : decode cL_law 547 = .ok (.iaload, 1) := by decide +kernel
theorem dL_law_548 : decode cL_law 548 = .ok (.invokevirtual 65, 3) := by decide +kernel
theorem dL_law_551 : decode cL_law 551 = .ok (.aload_n 2, 1) := by decide +kernel
theorem dL_law_552 : decode cL_law 552 = .ok (.aload_n 0, 1) := by decide +kernel
theorem dL_law_553 : decode cL_law 553 = .ok (.iload_n 3, 1) := by decide +kernel
theorem dL_law_554 : decode cL_law 554 = .ok (.iconst 1, 1) := by decide +kernel
theorem dL_law_555 : decode cL_law 555 = .ok (.iadd, 1) := by decide +kernel
theorem dL_law_556 : decode cL_law 556 = .ok (.iaload, 1) := by decide +kernel
theorem dL_law_557 : decode cL_law 557 = .ok (.invokevirtual 68, 3) := by decide +kernel
theorem dL_law_560 : decode cL_law 560 = .ok (.if_icmp .eq 709, 3) := by decide +kernel
theorem dL_law_563 : decode cL_law 563 = .ok (.iconst 0, 1) := by decide +kernel
theorem dL_law_564 : decode cL_law 564 = .ok (.ireturn, 1) := by decide +kernel
theorem wq_X7_won : tg_Y0 yX7_won cX7_won 2 (some .int) 1 ∧ Cond.instanceMethod yX7_won ∈ tg_gG ∧ Cond.selects yX7_won.cls yX7_won yX7_won ∈ tg_gG ∧ Cond.methodLink RL 65 yX7_won ∈ tg_gG := ⟨⟨tg_mem (List.mem_of_getElem? (i := 518) (by decide +kernel)) (by decide +kernel), wi_X7, by decide +kernel, by decide +kernel, by decide +kernel⟩, tg_mem (List.mem_of_getElem? (i := 516) (by decide +kernel)) (by decide +kernel), tg_mem (List.mem_of_getElem? (i := 517) (by decide +kernel)) (by decide +kernel), tg_mem (List.mem_of_getElem? (i := 515) (by decide +kernel)) (by decide +kernel)⟩
theorem wq_X8_won : tg_Y0 yX8_won cX8_won 2 (some .int) 1 ∧ Cond.instanceMethod yX8_won ∈ tg_gG ∧ Cond.selects yX8_won.cls yX8_won yX8_won ∈ tg_gG ∧ Cond.methodLink RL 68 yX8_won ∈ tg_gG := ⟨⟨tg_mem (List.mem_of_getElem? (i := 1080) (by decide +kernel)) (by decide +kernel), wi_X8, by decide +kernel, by decide +kernel, by decide +kernel⟩, tg_mem (List.mem_of_getElem? (i := 1078) (by decide +kernel)) (by decide +kernel), tg_mem (List.mem_of_getElem? (i := 1079) (by decide +kernel)) (by decide +kernel), tg_mem (List.mem_of_getElem? (i := 1077) (by decide +kernel)) (by decide +kernel)⟩
theorem lc_12 {x : tg_X} {b L : Nat} {xs : Nat → Int32} {bd : Nat → Nat} {S T : tg_S} {A : Nat → Nat → Nat} {i : Nat} (X : lq_M x b L xs) (hI : z_I S T A) (hi : i + 6 ≤ L) (k : ∀ S T A, z_I S T A → lq_G x b bd S T i 1269 []) : lq_G x b bd S T i 542 [] := by
  obtain ⟨S1, T1, r, A1, h1, h2, h3⟩ := e_won S T A hI (xs (i + 1))
  refine lq_x1 X dL_law_542 ?_
  refine lq_arg X (j := 1) (by decide) (by decide) hi dL_law_543 dL_law_544 dL_law_545 dL_law_546 dL_law_547 ?_
  refine lq_C (st := []) X (cm_X7_won _ _ _ _ _ h1) wq_X7_won.1 wq_X7_won.2.1 wq_X7_won.2.2.1 wq_X7_won.2.2.2 rfl ⟨rfl, rfl, Nat.le_of_ble_eq_true rfl, Nat.le_of_ble_eq_true rfl⟩ rfl rfl (Nat.le_of_ble_eq_true rfl) dL_law_548 rfl ?_
  refine lq_x2 X dL_law_551 ?_
  refine lq_arg X (j := 1) (by decide) (by decide) hi dL_law_552 dL_law_553 dL_law_554 dL_law_555 dL_law_556 ?_
  refine lq_R (st := [.int r]) X (cm_X8_won _ _ _ _ _ h2) wq_X8_won.1 wq_X8_won.2.1 wq_X8_won.2.2.1 wq_X8_won.2.2.2 rfl ⟨rfl, rfl, Nat.le_of_ble_eq_true rfl, Nat.le_of_ble_eq_true rfl⟩ rfl rfl (Nat.le_of_ble_eq_true rfl) dL_law_557 rfl ?_
  exact lq_same X dL_law_560 (by decide) (k S1 T1 A1 h3)
theorem dL_law_565 : decode cL_law 565 = .ok (.aload_n 1, 1) := by decide +kernel
theorem dL_law_566 : decode cL_law 566 = .ok (.aload_n 0, 1) := by decide +kernel
theorem dL_law_567 : decode cL_law 567 = .ok (.iload_n 3, 1) := by decide +kernel
theorem dL_law_568 : decode cL_law 568 = .ok (.iconst 1, 1) := by decide +kernel
theorem dL_law_569 : decode cL_law 569 = .ok (.iadd, 1) := by decide +kernel
theorem dL_law_570 : decode cL_law 570 = .ok (.iaload, 1) := by decide +kernel
theorem dL_law_571 : decode cL_law 571 = .ok (.invokevirtual 69, 3) := by decide +kernel
theorem dL_law_574 : decode cL_law 574 = .ok (.aload_n 2, 1) := by decide +kernel
theorem dL_law_575 : decode cL_law 575 = .ok (.aload_n 0, 1) := by decide +kernel
theorem dL_law_576 : decode cL_law 576 = .ok (.iload_n 3, 1) := by decide +kernel
theorem dL_law_577 : decode cL_law 577 = .ok (.iconst 1, 1) := by decide +kernel
theorem dL_law_578 : decode cL_law 578 = .ok (.iadd, 1) := by decide +kernel
theorem dL_law_579 : decode cL_law 579 = .ok (.iaload, 1) := by decide +kernel
theorem dL_law_580 : decode cL_law 580 = .ok (.invokevirtual 72, 3) := by decide +kernel
theorem dL_law_583 : decode cL_law 583 = .ok (.if_icmp .eq 686, 3) := by decide +kernel
theorem dL_law_586 : decode cL_law 586 = .ok (.iconst 0, 1) := by decide +kernel
theorem dL_law_587 : decode cL_law 587 = .ok (.ireturn, 1) := by decide +kernel
theorem wq_X7_furthest : tg_Y0 yX7_furthest cX7_furthest 5 (some .int) 1 ∧ Cond.instanceMethod yX7_furthest ∈ tg_gG ∧ Cond.selects yX7_furthest.cls yX7_furthest yX7_furthest ∈ tg_gG ∧ Cond.methodLink RL 69 yX7_furthest ∈ tg_gG := ⟨⟨tg_mem (List.mem_of_getElem? (i := 522) (by decide +kernel)) (by decide +kernel), wi_X7, by decide +kernel, by decide +kernel, by decide +kernel⟩, tg_mem (List.mem_of_getElem? (i := 520) (by decide +kernel)) (by decide +kernel), tg_mem (List.mem_of_getElem? (i := 521) (by decide +kernel)) (by decide +kernel), tg_mem (List.mem_of_getElem? (i := 519) (by decide +kernel)) (by decide +kernel)⟩
theorem wq_X8_furthest : tg_Y0 yX8_furthest cX8_furthest 2 (some .int) 1 ∧ Cond.instanceMethod yX8_furthest ∈ tg_gG ∧ Cond.selects yX8_furthest.cls yX8_furthest yX8_furthest ∈ tg_gG ∧ Cond.methodLink RL 72 yX8_furthest ∈ tg_gG := ⟨⟨tg_mem (List.mem_of_getElem? (i := 1088) (by decide +kernel)) (by decide +kernel), wi_X8, by decide +kernel, by decide +kernel, by decide +kernel⟩, tg_mem (List.mem_of_getElem? (i := 1086) (by decide +kernel)) (by decide +kernel), tg_mem (List.mem_of_getElem? (i := 1087) (by decide +kernel)) (by decide +kernel), tg_mem (List.mem_of_getElem? (i := 1085) (by decide +kernel)) (by decide +kernel)⟩
theorem lc_13 {x : tg_X} {b L : Nat} {xs : Nat → Int32} {bd : Nat → Nat} {S T : tg_S} {A : Nat → Nat → Nat} {i : Nat} (X : lq_M x b L xs) (hI : z_I S T A) (hi : i + 6 ≤ L) (k : ∀ S T A, z_I S T A → lq_G x b bd S T i 1269 []) : lq_G x b bd S T i 565 [] := by
  obtain ⟨S1, T1, r, A1, h1, h2, h3⟩ := e_furthest S T A hI (xs (i + 1))
  refine lq_x1 X dL_law_565 ?_
  refine lq_arg X (j := 1) (by decide) (by decide) hi dL_law_566 dL_law_567 dL_law_568 dL_law_569 dL_law_570 ?_
  refine lq_C (st := []) X (cm_X7_furthest _ _ _ _ _ h1) wq_X7_furthest.1 wq_X7_furthest.2.1 wq_X7_furthest.2.2.1 wq_X7_furthest.2.2.2 rfl ⟨rfl, rfl, Nat.le_of_ble_eq_true rfl, Nat.le_of_ble_eq_true rfl⟩ rfl rfl (Nat.le_of_ble_eq_true rfl) dL_law_571 rfl ?_
  refine lq_x2 X dL_law_574 ?_
  refine lq_arg X (j := 1) (by decide) (by decide) hi dL_law_575 dL_law_576 dL_law_577 dL_law_578 dL_law_579 ?_
  refine lq_R (st := [.int r]) X (cm_X8_furthest _ _ _ _ _ h2) wq_X8_furthest.1 wq_X8_furthest.2.1 wq_X8_furthest.2.2.1 wq_X8_furthest.2.2.2 rfl ⟨rfl, rfl, Nat.le_of_ble_eq_true rfl, Nat.le_of_ble_eq_true rfl⟩ rfl rfl (Nat.le_of_ble_eq_true rfl) dL_law_580 rfl ?_
  exact lq_same X dL_law_583 (by decide) (k S1 T1 A1 h3)
theorem dL_law_588 : decode cL_law 588 = .ok (.aload_n 1, 1) := by decide +kernel
theorem dL_law_589 : decode cL_law 589 = .ok (.aload_n 0, 1) := by decide +kernel
theorem dL_law_590 : decode cL_law 590 = .ok (.iload_n 3, 1) := by decide +kernel
theorem dL_law_591 : decode cL_law 591 = .ok (.iconst 1, 1) := by decide +kernel
theorem dL_law_592 : decode cL_law 592 = .ok (.iadd, 1) := by decide +kernel
theorem dL_law_593 : decode cL_law 593 = .ok (.iaload, 1) := by decide +kernel
theorem dL_law_594 : decode cL_law 594 = .ok (.invokevirtual 73, 3) := by decide +kernel
theorem dL_law_597 : decode cL_law 597 = .ok (.aload_n 2, 1) := by decide +kernel
theorem dL_law_598 : decode cL_law 598 = .ok (.aload_n 0, 1) := by decide +kernel
theorem dL_law_599 : decode cL_law 599 = .ok (.iload_n 3, 1) := by decide +kernel
theorem dL_law_600 : decode cL_law 600 = .ok (.iconst 1, 1) := by decide +kernel
theorem dL_law_601 : decode cL_law 601 = .ok (.iadd, 1) := by decide +kernel
theorem dL_law_602 : decode cL_law 602 = .ok (.iaload, 1) := by decide +kernel
theorem dL_law_603 : decode cL_law 603 = .ok (.invokevirtual 76, 3) := by decide +kernel
theorem dL_law_606 : decode cL_law 606 = .ok (.if_icmp .eq 663, 3) := by decide +kernel
theorem dL_law_609 : decode cL_law 609 = .ok (.iconst 0, 1) := by decide +kernel
theorem dL_law_610 : decode cL_law 610 = .ok (.ireturn, 1) := by decide +kernel
theorem wq_X7_done : tg_Y0 yX7_done cX7_done 2 (some .int) 1 ∧ Cond.instanceMethod yX7_done ∈ tg_gG ∧ Cond.selects yX7_done.cls yX7_done yX7_done ∈ tg_gG ∧ Cond.methodLink RL 73 yX7_done ∈ tg_gG := ⟨⟨tg_mem (List.mem_of_getElem? (i := 528) (by decide +kernel)) (by decide +kernel), wi_X7, by decide +kernel, by decide +kernel, by decide +kernel⟩, tg_mem (List.mem_of_getElem? (i := 526) (by decide +kernel)) (by decide +kernel), tg_mem (List.mem_of_getElem? (i := 527) (by decide +kernel)) (by decide +kernel), tg_mem (List.mem_of_getElem? (i := 525) (by decide +kernel)) (by decide +kernel)⟩
theorem wq_X8_done : tg_Y0 yX8_done cX8_done 2 (some .int) 1 ∧ Cond.instanceMethod yX8_done ∈ tg_gG ∧ Cond.selects yX8_done.cls yX8_done yX8_done ∈ tg_gG ∧ Cond.methodLink RL 76 yX8_done ∈ tg_gG := ⟨⟨tg_mem (List.mem_of_getElem? (i := 1096) (by decide +kernel)) (by decide +kernel), wi_X8, by decide +kernel, by decide +kernel, by decide +kernel⟩, tg_mem (List.mem_of_getElem? (i := 1094) (by decide +kernel)) (by decide +kernel), tg_mem (List.mem_of_getElem? (i := 1095) (by decide +kernel)) (by decide +kernel), tg_mem (List.mem_of_getElem? (i := 1093) (by decide +kernel)) (by decide +kernel)⟩
theorem lc_14 {x : tg_X} {b L : Nat} {xs : Nat → Int32} {bd : Nat → Nat} {S T : tg_S} {A : Nat → Nat → Nat} {i : Nat} (X : lq_M x b L xs) (hI : z_I S T A) (hi : i + 6 ≤ L) (k : ∀ S T A, z_I S T A → lq_G x b bd S T i 1269 []) : lq_G x b bd S T i 588 [] := by
  obtain ⟨S1, T1, r, A1, h1, h2, h3⟩ := e_done S T A hI (xs (i + 1))
  refine lq_x1 X dL_law_588 ?_
  refine lq_arg X (j := 1) (by decide) (by decide) hi dL_law_589 dL_law_590 dL_law_591 dL_law_592 dL_law_593 ?_
  refine lq_C (st := []) X (cm_X7_done _ _ _ _ _ h1) wq_X7_done.1 wq_X7_done.2.1 wq_X7_done.2.2.1 wq_X7_done.2.2.2 rfl ⟨rfl, rfl, Nat.le_of_ble_eq_true rfl, Nat.le_of_ble_eq_true rfl⟩ rfl rfl (Nat.le_of_ble_eq_true rfl) dL_law_594 rfl ?_
  refine lq_x2 X dL_law_597 ?_
  refine lq_arg X (j := 1) (by decide) (by decide) hi dL_law_598 dL_law_599 dL_law_600 dL_law_601 dL_law_602 ?_
  refine lq_R (st := [.int r]) X (cm_X8_done _ _ _ _ _ h2) wq_X8_done.1 wq_X8_done.2.1 wq_X8_done.2.2.1 wq_X8_done.2.2.2 rfl ⟨rfl, rfl, Nat.le_of_ble_eq_true rfl, Nat.le_of_ble_eq_true rfl⟩ rfl rfl (Nat.le_of_ble_eq_true rfl) dL_law_603 rfl ?_
  exact lq_same X dL_law_606 (by decide) (k S1 T1 A1 h3)
theorem dL_law_611 : decode cL_law 611 = .ok (.aload_n 1, 1) := by decide +kernel
theorem dL_law_612 : decode cL_law 612 = .ok (.invokevirtual 77, 3) := by decide +kernel
theorem dL_law_615 : decode cL_law 615 = .ok (.aload_n 2, 1) := by decide +kernel
theorem dL_law_616 : decode cL_law 616 = .ok (.invokevirtual 80, 3) := by decide +kernel
theorem dL_law_619 : decode cL_law 619 = .ok (.if_icmp .eq 650, 3) := by decide +kernel
theorem dL_law_622 : decode cL_law 622 = .ok (.iconst 0, 1) := by decide +kernel
theorem dL_law_623 : decode cL_law 623 = .ok (.ireturn, 1) := by decide +kernel
theorem wq_X7_spent : tg_Y0 yX7_spent cX7_spent 3 (some .int) 0 ∧ Cond.instanceMethod yX7_spent ∈ tg_gG ∧ Cond.selects yX7_spent.cls yX7_spent yX7_spent ∈ tg_gG ∧ Cond.methodLink RL 77 yX7_spent ∈ tg_gG := ⟨⟨tg_mem (List.mem_of_getElem? (i := 536) (by decide +kernel)) (by decide +kernel), wi_X7, by decide +kernel, by decide +kernel, by decide +kernel⟩, tg_mem (List.mem_of_getElem? (i := 534) (by decide +kernel)) (by decide +kernel), tg_mem (List.mem_of_getElem? (i := 535) (by decide +kernel)) (by decide +kernel), tg_mem (List.mem_of_getElem? (i := 533) (by decide +kernel)) (by decide +kernel)⟩
theorem wq_X8_spent : tg_Y0 yX8_spent cX8_spent 1 (some .int) 0 ∧ Cond.instanceMethod yX8_spent ∈ tg_gG ∧ Cond.selects yX8_spent.cls yX8_spent yX8_spent ∈ tg_gG ∧ Cond.methodLink RL 80 yX8_spent ∈ tg_gG := ⟨⟨tg_mem (List.mem_of_getElem? (i := 1104) (by decide +kernel)) (by decide +kernel), wi_X8, by decide +kernel, by decide +kernel, by decide +kernel⟩, tg_mem (List.mem_of_getElem? (i := 1102) (by decide +kernel)) (by decide +kernel), tg_mem (List.mem_of_getElem? (i := 1103) (by decide +kernel)) (by decide +kernel), tg_mem (List.mem_of_getElem? (i := 1101) (by decide +kernel)) (by decide +kernel)⟩
theorem lc_15 {x : tg_X} {b L : Nat} {xs : Nat → Int32} {bd : Nat → Nat} {S T : tg_S} {A : Nat → Nat → Nat} {i : Nat} (X : lq_M x b L xs) (hI : z_I S T A) (hi : i + 6 ≤ L) (k : ∀ S T A, z_I S T A → lq_G x b bd S T i 1269 []) : lq_G x b bd S T i 611 [] := by
  obtain ⟨S1, T1, r, A1, h1, h2, h3⟩ := e_spent S T A hI 
  refine lq_x1 X dL_law_611 ?_
  refine lq_C (st := []) X (cm_X7_spent _ _ _ _ _ h1) wq_X7_spent.1 wq_X7_spent.2.1 wq_X7_spent.2.2.1 wq_X7_spent.2.2.2 rfl ⟨rfl, rfl, Nat.le_of_ble_eq_true rfl, Nat.le_of_ble_eq_true rfl⟩ rfl rfl (Nat.le_of_ble_eq_true rfl) dL_law_612 rfl ?_
  refine lq_x2 X dL_law_615 ?_
  refine lq_R (st := [.int r]) X (cm_X8_spent _ _ _ _ _ h2) wq_X8_spent.1 wq_X8_spent.2.1 wq_X8_spent.2.2.1 wq_X8_spent.2.2.2 rfl ⟨rfl, rfl, Nat.le_of_ble_eq_true rfl, Nat.le_of_ble_eq_true rfl⟩ rfl rfl (Nat.le_of_ble_eq_true rfl) dL_law_616 rfl ?_
  exact lq_same X dL_law_619 (by decide) (k S1 T1 A1 h3)
theorem dL_law_624 : decode cL_law 624 = .ok (.aload_n 1, 1) := by decide +kernel
theorem dL_law_625 : decode cL_law 625 = .ok (.invokevirtual 81, 3) := by decide +kernel
theorem dL_law_628 : decode cL_law 628 = .ok (.aload_n 2, 1) := by decide +kernel
theorem dL_law_629 : decode cL_law 629 = .ok (.invokevirtual 84, 3) := by decide +kernel
theorem dL_law_632 : decode cL_law 632 = .ok (.if_icmp .eq 637, 3) := by decide +kernel
theorem dL_law_635 : decode cL_law 635 = .ok (.iconst 0, 1) := by decide +kernel
theorem dL_law_636 : decode cL_law 636 = .ok (.ireturn, 1) := by decide +kernel
theorem wq_X7_best : tg_Y0 yX7_best cX7_best 5 (some .int) 0 ∧ Cond.instanceMethod yX7_best ∈ tg_gG ∧ Cond.selects yX7_best.cls yX7_best yX7_best ∈ tg_gG ∧ Cond.methodLink RL 81 yX7_best ∈ tg_gG := ⟨⟨tg_mem (List.mem_of_getElem? (i := 540) (by decide +kernel)) (by decide +kernel), wi_X7, by decide +kernel, by decide +kernel, by decide +kernel⟩, tg_mem (List.mem_of_getElem? (i := 538) (by decide +kernel)) (by decide +kernel), tg_mem (List.mem_of_getElem? (i := 539) (by decide +kernel)) (by decide +kernel), tg_mem (List.mem_of_getElem? (i := 537) (by decide +kernel)) (by decide +kernel)⟩
theorem wq_X8_best : tg_Y0 yX8_best cX8_best 1 (some .int) 0 ∧ Cond.instanceMethod yX8_best ∈ tg_gG ∧ Cond.selects yX8_best.cls yX8_best yX8_best ∈ tg_gG ∧ Cond.methodLink RL 84 yX8_best ∈ tg_gG := ⟨⟨tg_mem (List.mem_of_getElem? (i := 1112) (by decide +kernel)) (by decide +kernel), wi_X8, by decide +kernel, by decide +kernel, by decide +kernel⟩, tg_mem (List.mem_of_getElem? (i := 1110) (by decide +kernel)) (by decide +kernel), tg_mem (List.mem_of_getElem? (i := 1111) (by decide +kernel)) (by decide +kernel), tg_mem (List.mem_of_getElem? (i := 1109) (by decide +kernel)) (by decide +kernel)⟩
theorem lc_16 {x : tg_X} {b L : Nat} {xs : Nat → Int32} {bd : Nat → Nat} {S T : tg_S} {A : Nat → Nat → Nat} {i : Nat} (X : lq_M x b L xs) (hI : z_I S T A) (hi : i + 6 ≤ L) (k : ∀ S T A, z_I S T A → lq_G x b bd S T i 1269 []) : lq_G x b bd S T i 624 [] := by
  obtain ⟨S1, T1, r, A1, h1, h2, h3⟩ := e_best S T A hI 
  refine lq_x1 X dL_law_624 ?_
  refine lq_C (st := []) X (cm_X7_best _ _ _ _ _ h1) wq_X7_best.1 wq_X7_best.2.1 wq_X7_best.2.2.1 wq_X7_best.2.2.2 rfl ⟨rfl, rfl, Nat.le_of_ble_eq_true rfl, Nat.le_of_ble_eq_true rfl⟩ rfl rfl (Nat.le_of_ble_eq_true rfl) dL_law_625 rfl ?_
  refine lq_x2 X dL_law_628 ?_
  refine lq_R (st := [.int r]) X (cm_X8_best _ _ _ _ _ h2) wq_X8_best.1 wq_X8_best.2.1 wq_X8_best.2.2.1 wq_X8_best.2.2.2 rfl ⟨rfl, rfl, Nat.le_of_ble_eq_true rfl, Nat.le_of_ble_eq_true rfl⟩ rfl rfl (Nat.le_of_ble_eq_true rfl) dL_law_629 rfl ?_
  exact lq_same X dL_law_632 (by decide) (k S1 T1 A1 h3)
theorem dL_law_637 : decode cL_law 637 = .ok (.aload_n 1, 1) := by decide +kernel
theorem dL_law_638 : decode cL_law 638 = .ok (.invokevirtual 85, 3) := by decide +kernel
theorem dL_law_641 : decode cL_law 641 = .ok (.aload_n 2, 1) := by decide +kernel
theorem dL_law_642 : decode cL_law 642 = .ok (.invokevirtual 88, 3) := by decide +kernel
theorem dL_law_645 : decode cL_law 645 = .ok (.if_icmp .eq 624, 3) := by decide +kernel
theorem dL_law_648 : decode cL_law 648 = .ok (.iconst 0, 1) := by decide +kernel
theorem dL_law_649 : decode cL_law 649 = .ok (.ireturn, 1) := by decide +kernel
theorem wq_X7_level : tg_Y0 yX7_level cX7_level 4 (some .int) 0 ∧ Cond.instanceMethod yX7_level ∈ tg_gG ∧ Cond.selects yX7_level.cls yX7_level yX7_level ∈ tg_gG ∧ Cond.methodLink RL 85 yX7_level ∈ tg_gG := ⟨⟨tg_mem (List.mem_of_getElem? (i := 544) (by decide +kernel)) (by decide +kernel), wi_X7, by decide +kernel, by decide +kernel, by decide +kernel⟩, tg_mem (List.mem_of_getElem? (i := 542) (by decide +kernel)) (by decide +kernel), tg_mem (List.mem_of_getElem? (i := 543) (by decide +kernel)) (by decide +kernel), tg_mem (List.mem_of_getElem? (i := 541) (by decide +kernel)) (by decide +kernel)⟩
theorem wq_X8_level : tg_Y0 yX8_level cX8_level 1 (some .int) 0 ∧ Cond.instanceMethod yX8_level ∈ tg_gG ∧ Cond.selects yX8_level.cls yX8_level yX8_level ∈ tg_gG ∧ Cond.methodLink RL 88 yX8_level ∈ tg_gG := ⟨⟨tg_mem (List.mem_of_getElem? (i := 1120) (by decide +kernel)) (by decide +kernel), wi_X8, by decide +kernel, by decide +kernel, by decide +kernel⟩, tg_mem (List.mem_of_getElem? (i := 1118) (by decide +kernel)) (by decide +kernel), tg_mem (List.mem_of_getElem? (i := 1119) (by decide +kernel)) (by decide +kernel), tg_mem (List.mem_of_getElem? (i := 1117) (by decide +kernel)) (by decide +kernel)⟩
theorem lc_17 {x : tg_X} {b L : Nat} {xs : Nat → Int32} {bd : Nat → Nat} {S T : tg_S} {A : Nat → Nat → Nat} {i : Nat} (X : lq_M x b L xs) (hI : z_I S T A) (hi : i + 6 ≤ L) (k : ∀ S T A, z_I S T A → lq_G x b bd S T i 1269 []) : lq_G x b bd S T i 637 [] := by
  obtain ⟨S1, T1, r, A1, h1, h2, h3⟩ := e_level S T A hI 
  refine lq_x1 X dL_law_637 ?_
  refine lq_C (st := []) X (cm_X7_level _ _ _ _ _ h1) wq_X7_level.1 wq_X7_level.2.1 wq_X7_level.2.2.1 wq_X7_level.2.2.2 rfl ⟨rfl, rfl, Nat.le_of_ble_eq_true rfl, Nat.le_of_ble_eq_true rfl⟩ rfl rfl (Nat.le_of_ble_eq_true rfl) dL_law_638 rfl ?_
  refine lq_x2 X dL_law_641 ?_
  refine lq_R (st := [.int r]) X (cm_X8_level _ _ _ _ _ h2) wq_X8_level.1 wq_X8_level.2.1 wq_X8_level.2.2.1 wq_X8_level.2.2.2 rfl ⟨rfl, rfl, Nat.le_of_ble_eq_true rfl, Nat.le_of_ble_eq_true rfl⟩ rfl rfl (Nat.le_of_ble_eq_true rfl) dL_law_642 rfl ?_
  exact lq_same X dL_law_645 (by decide) (k S1 T1 A1 h3)
theorem dL_law_650 : decode cL_law 650 = .ok (.aload_n 1, 1) := by decide +kernel
theorem dL_law_651 : decode cL_law 651 = .ok (.aload_n 0, 1) := by decide +kernel
theorem dL_law_652 : decode cL_law 652 = .ok (.iload_n 3, 1) := by decide +kernel
theorem dL_law_653 : decode cL_law 653 = .ok (.iconst 1, 1) := by decide +kernel
theorem dL_law_654 : decode cL_law 654 = .ok (.iadd, 1) := by decide +kernel
theorem dL_law_655 : decode cL_law 655 = .ok (.iaload, 1) := by decide +kernel
theorem dL_law_656 : decode cL_law 656 = .ok (.aload_n 0, 1) := by decide +kernel
theorem dL_law_657 : decode cL_law 657 = .ok (.iload_n 3, 1) := by decide +kernel
theorem dL_law_658 : decode cL_law 658 = .ok (.iconst 2, 1) := by decide +kernel
theorem dL_law_659 : decode cL_law 659 = .ok (.iadd, 1) := by decide +kernel
theorem dL_law_660 : decode cL_law 660 = .ok (.iaload, 1) := by decide +kernel
theorem dL_law_661 : decode cL_law 661 = .ok (.aload_n 0, 1) := by decide +kernel
theorem dL_law_662 : decode cL_law 662 = .ok (.iload_n 3, 1) := by decide +kernel
theorem dL_law_663 : decode cL_law 663 = .ok (.iconst 3, 1) := by decide +kernel
theorem dL_law_664 : decode cL_law 664 = .ok (.iadd, 1) := by decide +kernel
theorem dL_law_665 : decode cL_law 665 = .ok (.iaload, 1) := by decide +kernel
theorem dL_law_666 : decode cL_law 666 = .ok (.invokevirtual 89, 3) := by decide +kernel
theorem dL_law_669 : decode cL_law 669 = .ok (.aload_n 2, 1) := by decide +kernel
theorem dL_law_670 : decode cL_law 670 = .ok (.aload_n 0, 1) := by decide +kernel
theorem dL_law_671 : decode cL_law 671 = .ok (.iload_n 3, 1) := by decide +kernel
theorem dL_law_672 : decode cL_law 672 = .ok (.iconst 1, 1) := by decide +kernel
theorem dL_law_673 : decode cL_law 673 = .ok (.iadd, 1) := by decide +kernel
theorem dL_law_674 : decode cL_law 674 = .ok (.iaload, 1) := by decide +kernel
theorem dL_law_675 : decode cL_law 675 = .ok (.aload_n 0, 1) := by decide +kernel
theorem dL_law_676 : decode cL_law 676 = .ok (.iload_n 3, 1) := by decide +kernel
theorem dL_law_677 : decode cL_law 677 = .ok (.iconst 2, 1) := by decide +kernel
theorem dL_law_678 : decode cL_law 678 = .ok (.iadd, 1) := by decide +kernel
theorem dL_law_679 : decode cL_law 679 = .ok (.iaload, 1) := by decide +kernel
theorem dL_law_680 : decode cL_law 680 = .ok (.aload_n 0, 1) := by decide +kernel
theorem dL_law_681 : decode cL_law 681 = .ok (.iload_n 3, 1) := by decide +kernel
theorem dL_law_682 : decode cL_law 682 = .ok (.iconst 3, 1) := by decide +kernel
theorem dL_law_683 : decode cL_law 683 = .ok (.iadd, 1) := by decide +kernel
theorem dL_law_684 : decode cL_law 684 = .ok (.iaload, 1) := by decide +kernel
theorem dL_law_685 : decode cL_law 685 = .ok (.invokevirtual 92, 3) := by decide +kernel
theorem dL_law_688 : decode cL_law 688 = .ok (.if_icmp .eq 581, 3) := by decide +kernel
theorem dL_law_691 : decode cL_law 691 = .ok (.iconst 0, 1) := by decide +kernel
theorem dL_law_692 : decode cL_law 692 = .ok (.ireturn, 1) := by decide +kernel
theorem wq_X7_better : tg_Y0 yX7_better cX7_better 5 (some .int) 3 ∧ Cond.instanceMethod yX7_better ∈ tg_gG ∧ Cond.selects yX7_better.cls yX7_better yX7_better ∈ tg_gG ∧ Cond.methodLink RL 89 yX7_better ∈ tg_gG := ⟨⟨tg_mem (List.mem_of_getElem? (i := 548) (by decide +kernel)) (by decide +kernel), wi_X7, by decide +kernel, by decide +kernel, by decide +kernel⟩, tg_mem (List.mem_of_getElem? (i := 546) (by decide +kernel)) (by decide +kernel), tg_mem (List.mem_of_getElem? (i := 547) (by decide +kernel)) (by decide +kernel), tg_mem (List.mem_of_getElem? (i := 545) (by decide +kernel)) (by decide +kernel)⟩
theorem wq_X8_better : tg_Y0 yX8_better cX8_better 4 (some .int) 3 ∧ Cond.instanceMethod yX8_better ∈ tg_gG ∧ Cond.selects yX8_better.cls yX8_better yX8_better ∈ tg_gG ∧ Cond.methodLink RL 92 yX8_better ∈ tg_gG := ⟨⟨tg_mem (List.mem_of_getElem? (i := 1128) (by decide +kernel)) (by decide +kernel), wi_X8, by decide +kernel, by decide +kernel, by decide +kernel⟩, tg_mem (List.mem_of_getElem? (i := 1126) (by decide +kernel)) (by decide +kernel), tg_mem (List.mem_of_getElem? (i := 1127) (by decide +kernel)) (by decide +kernel), tg_mem (List.mem_of_getElem? (i := 1125) (by decide +kernel)) (by decide +kernel)⟩
theorem lc_18 {x : tg_X} {b L : Nat} {xs : Nat → Int32} {bd : Nat → Nat} {S T : tg_S} {A : Nat → Nat → Nat} {i : Nat} (X : lq_M x b L xs) (hI : z_I S T A) (hi : i + 6 ≤ L) (k : ∀ S T A, z_I S T A → lq_G x b bd S T i 1269 []) : lq_G x b bd S T i 650 [] := by
  obtain ⟨S1, T1, r, A1, h1, h2, h3⟩ := e_better S T A hI (xs (i + 1)) (xs (i + 2)) (xs (i + 3))
  refine lq_x1 X dL_law_650 ?_
  refine lq_arg X (j := 1) (by decide) (by decide) hi dL_law_651 dL_law_652 dL_law_653 dL_law_654 dL_law_655 ?_
  refine lq_arg X (j := 2) (by decide) (by decide) hi dL_law_656 dL_law_657 dL_law_658 dL_law_659 dL_law_660 ?_
  refine lq_arg X (j := 3) (by decide) (by decide) hi dL_law_661 dL_law_662 dL_law_663 dL_law_664 dL_law_665 ?_
  refine lq_C (st := []) X (cm_X7_better _ _ _ _ _ h1) wq_X7_better.1 wq_X7_better.2.1 wq_X7_better.2.2.1 wq_X7_better.2.2.2 rfl ⟨rfl, rfl, Nat.le_of_ble_eq_true rfl, Nat.le_of_ble_eq_true rfl⟩ rfl rfl (Nat.le_of_ble_eq_true rfl) dL_law_666 rfl ?_
  refine lq_x2 X dL_law_669 ?_
  refine lq_arg X (j := 1) (by decide) (by decide) hi dL_law_670 dL_law_671 dL_law_672 dL_law_673 dL_law_674 ?_
  refine lq_arg X (j := 2) (by decide) (by decide) hi dL_law_675 dL_law_676 dL_law_677 dL_law_678 dL_law_679 ?_
  refine lq_arg X (j := 3) (by decide) (by decide) hi dL_law_680 dL_law_681 dL_law_682 dL_law_683 dL_law_684 ?_
  refine lq_R (st := [.int r]) X (cm_X8_better _ _ _ _ _ h2) wq_X8_better.1 wq_X8_better.2.1 wq_X8_better.2.2.1 wq_X8_better.2.2.2 rfl ⟨rfl, rfl, Nat.le_of_ble_eq_true rfl, Nat.le_of_ble_eq_true rfl⟩ rfl rfl (Nat.le_of_ble_eq_true rfl) dL_law_685 rfl ?_
  exact lq_same X dL_law_688 (by decide) (k S1 T1 A1 h3)
