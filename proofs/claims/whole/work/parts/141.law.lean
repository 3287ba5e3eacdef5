theorem eL_law_437 : DD cL_law 437 (.aload_n 1) 1 438 := ⟨by decide +kernel, rfl⟩
theorem eL_law_438 : DD cL_law 438 (.aload_n 0) 1 439 := ⟨by decide +kernel, rfl⟩
theorem eL_law_439 : DD cL_law 439 (.iload 4) 2 441 := ⟨by decide +kernel, rfl⟩
theorem eL_law_441 : DD cL_law 441 (.iconst 1) 1 442 := ⟨by decide +kernel, rfl⟩
theorem eL_law_442 : DD cL_law 442 (.iadd) 1 443 := ⟨by decide +kernel, rfl⟩
theorem eL_law_443 : DD cL_law 443 (.iaload) 1 444 := ⟨by decide +kernel, rfl⟩
theorem eL_law_444 : DD cL_law 444 (.aload_n 0) 1 445 := ⟨by decide +kernel, rfl⟩
theorem eL_law_445 : DD cL_law 445 (.iload 4) 2 447 := ⟨by decide +kernel, rfl⟩
theorem eL_law_447 : DD cL_law 447 (.iconst 2) 1 448 := ⟨by decide +kernel, rfl⟩
theorem eL_law_448 : DD cL_law 448 (.iadd) 1 449 := ⟨by decide +kernel, rfl⟩
theorem eL_law_449 : DD cL_law 449 (.iaload) 1 450 := ⟨by decide +kernel, rfl⟩
theorem eL_law_450 : DD cL_law 450 (.aload_n 0) 1 451 := ⟨by decide +kernel, rfl⟩
theorem eL_law_451 : DD cL_law 451 (.iload 4) 2 453 := ⟨by decide +kernel, rfl⟩
theorem eL_law_453 : DD cL_law 453 (.iconst 3) 1 454 := ⟨by decide +kernel, rfl⟩
theorem eL_law_454 : DD cL_law 454 (.iadd) 1 455 := ⟨by decide +kernel, rfl⟩
theorem eL_law_455 : DD cL_law 455 (.iaload) 1 456 := ⟨by decide +kernel, rfl⟩
theorem eL_law_456 : DD cL_law 456 (.invokevirtual 52) 3 459 := ⟨by decide +kernel, rfl⟩
theorem eL_law_459 : DD cL_law 459 (.aload_n 2) 1 460 := ⟨by decide +kernel, rfl⟩
theorem eL_law_460 : DD cL_law 460 (.aload_n 0) 1 461 := ⟨by decide +kernel, rfl⟩
theorem eL_law_461 : DD cL_law 461 (.iload 4) 2 463 := ⟨by decide +kernel, rfl⟩
theorem eL_law_463 : DD cL_law 463 (.iconst 1) 1 464 := ⟨by decide +kernel, rfl⟩
theorem eL_law_464 : DD cL_law 464 (.iadd) 1 465 := ⟨by decide +kernel, rfl⟩
theorem eL_law_465 : DD cL_law 465 (.iaload) 1 466 := ⟨by decide +kernel, rfl⟩
theorem eL_law_466 : DD cL_law 466 (.aload_n 0) 1 467 := ⟨by decide +kernel, rfl⟩
theorem eL_law_467 : DD cL_law 467 (.iload 4) 2 469 := ⟨by decide +kernel, rfl⟩
theorem eL_law_469 : DD cL_law 469 (.iconst 2) 1 470 := ⟨by decide +kernel, rfl⟩
theorem eL_law_470 : DD cL_law 470 (.iadd) 1 471 := ⟨by decide +kernel, rfl⟩
theorem eL_law_471 : DD cL_law 471 (.iaload) 1 472 := ⟨by decide +kernel, rfl⟩
theorem eL_law_472 : DD cL_law 472 (.aload_n 0) 1 473 := ⟨by decide +kernel, rfl⟩
theorem eL_law_473 : DD cL_law 473 (.iload 4) 2 475 := ⟨by decide +kernel, rfl⟩
theorem eL_law_475 : DD cL_law 475 (.iconst 3) 1 476 := ⟨by decide +kernel, rfl⟩
theorem eL_law_476 : DD cL_law 476 (.iadd) 1 477 := ⟨by decide +kernel, rfl⟩
theorem eL_law_477 : DD cL_law 477 (.iaload) 1 478 := ⟨by decide +kernel, rfl⟩
theorem eL_law_478 : DD cL_law 478 (.invokevirtual 56) 3 481 := ⟨by decide +kernel, rfl⟩
theorem eL_law_481 : DB cL_law 481 (.if_icmp .eq 1265) (1265) 484 1746 := ⟨by decide +kernel, rfl, by decide⟩
def Z_6 (L : Nat) (ys : Nat → Int32) (kc : Int32 → Mem → Option Unit) (x4 : Int32) (μ : Mem) : Option Unit :=
  gq (inB (x4 + (1 : Int32)) L) (gq (inB (x4 + (2 : Int32)) L) (gq (inB (x4 + (3 : Int32)) L) (bd (G_X10_rows (ys (nx (x4 + (1 : Int32)))) (ys (nx (x4 + (2 : Int32)))) (ys (nx (x4 + (3 : Int32)))) μ) (fun r_2 μ_1 => gq (inB (x4 + (1 : Int32)) L) (gq (inB (x4 + (2 : Int32)) L) (gq (inB (x4 + (3 : Int32)) L) (bd (G_X11_rows (ys (nx (x4 + (1 : Int32)))) (ys (nx (x4 + (2 : Int32)))) (ys (nx (x4 + (3 : Int32)))) μ_1) (fun r_4 μ_3 => if r_2 = r_4 then kc x4 μ_3 else none))))))))
set_option maxHeartbeats 4000000 in
theorem z_6 {C : Cx} (hC : Ok C cL_law 7 RL room_1) {K : Unit → State → Prop} {b L : Nat} {ys : Nat → Int32} (hs : SC C b L ys) (kc : Int32 → Mem → Option Unit) (hk : ∀ (x4 : Int32) (μ : Mem), J C K μ 1746 [(0, .ref b), (1, .ref (xad (cX C) 0)), (2, .ref (xad (cX C) 107)), (3, .ref (xad (cX C) 126)), (4, .int x4)] [] (kc x4 μ)) (x4 : Int32) (μ : Mem) : J C K μ 437 [(0, .ref b), (1, .ref (xad (cX C) 0)), (2, .ref (xad (cX C) 107)), (3, .ref (xad (cX C) 126)), (4, .int x4)] [] (Z_6 L ys kc x4 μ) := by
  unfold Z_6
  refine J.aload_n (j := 1) hC eL_law_437 rfl ?_
  refine J.aload_n (j := 0) hC eL_law_438 rfl ?_
  refine J.iload (j := 4) hC eL_law_439 rfl ?_
  refine J.iconst hC eL_law_441 ci_1 ?_
  refine J.iadd hC eL_law_442 ?_
  refine J.sld hC hs eL_law_443 ?_
  refine J.aload_n (j := 0) hC eL_law_444 rfl ?_
  refine J.iload (j := 4) hC eL_law_445 rfl ?_
  refine J.iconst hC eL_law_447 ci_2 ?_
  refine J.iadd hC eL_law_448 ?_
  refine J.sld hC hs eL_law_449 ?_
  refine J.aload_n (j := 0) hC eL_law_450 rfl ?_
  refine J.iload (j := 4) hC eL_law_451 rfl ?_
  refine J.iconst hC eL_law_453 ci_3 ?_
  refine J.iadd hC eL_law_454 ?_
  refine J.sld hC hs eL_law_455 ?_
  refine J.callVI (st := []) hC eL_law_456 kk_0 (by decide) rfl rfl ml_L_52 mv_X10_rows ⟨rfl, rfl, Nat.le_of_ble_eq_true rfl, Nat.le_of_ble_eq_true rfl⟩ (c_X10_rows hC.X (ys (nx (x4 + (1 : Int32)))) (ys (nx (x4 + (2 : Int32)))) (ys (nx (x4 + (3 : Int32)))) μ) rfl rfl (Nat.le_of_ble_eq_true rfl) (fun r_2 μ_1 => ?_)
  refine J.aload_n (j := 2) hC eL_law_459 rfl ?_
  refine J.aload_n (j := 0) hC eL_law_460 rfl ?_
  refine J.iload (j := 4) hC eL_law_461 rfl ?_
  refine J.iconst hC eL_law_463 ci_1 ?_
  refine J.iadd hC eL_law_464 ?_
  refine J.sld hC hs eL_law_465 ?_
  refine J.aload_n (j := 0) hC eL_law_466 rfl ?_
  refine J.iload (j := 4) hC eL_law_467 rfl ?_
  refine J.iconst hC eL_law_469 ci_2 ?_
  refine J.iadd hC eL_law_470 ?_
  refine J.sld hC hs eL_law_471 ?_
  refine J.aload_n (j := 0) hC eL_law_472 rfl ?_
  refine J.iload (j := 4) hC eL_law_473 rfl ?_
  refine J.iconst hC eL_law_475 ci_3 ?_
  refine J.iadd hC eL_law_476 ?_
  refine J.sld hC hs eL_law_477 ?_
  refine J.callVI (st := [.int r_2]) hC eL_law_478 kk_107 (by decide) rfl rfl ml_L_56 mv_X11_rows ⟨rfl, rfl, Nat.le_of_ble_eq_true rfl, Nat.le_of_ble_eq_true rfl⟩ (c_X11_rows hC.X (ys (nx (x4 + (1 : Int32)))) (ys (nx (x4 + (2 : Int32)))) (ys (nx (x4 + (3 : Int32)))) μ_1) rfl rfl (Nat.le_of_ble_eq_true rfl) (fun r_4 μ_3 => ?_)
  refine J.icmp_eq hC eL_law_481 (fun _ => ?_) (fun _ => ?_)
  · refine J.sub [0, 1, 2, 3, 4] rfl ?_
    exact hk x4 μ_3
  · exact J.no
theorem eL_law_486 : DD cL_law 486 (.aload_n 1) 1 487 := ⟨by decide +kernel, rfl⟩
theorem eL_law_487 : DD cL_law 487 (.aload_n 0) 1 488 := ⟨by decide +kernel, rfl⟩
theorem eL_law_488 : DD cL_law 488 (.iload 4) 2 490 := ⟨by decide +kernel, rfl⟩
theorem eL_law_490 : DD cL_law 490 (.iconst 1) 1 491 := ⟨by decide +kernel, rfl⟩
theorem eL_law_491 : DD cL_law 491 (.iadd) 1 492 := ⟨by decide +kernel, rfl⟩
theorem eL_law_492 : DD cL_law 492 (.iaload) 1 493 := ⟨by decide +kernel, rfl⟩
theorem eL_law_493 : DD cL_law 493 (.aload_n 0) 1 494 := ⟨by decide +kernel, rfl⟩
theorem eL_law_494 : DD cL_law 494 (.iload 4) 2 496 := ⟨by decide +kernel, rfl⟩
theorem eL_law_496 : DD cL_law 496 (.iconst 2) 1 497 := ⟨by decide +kernel, rfl⟩
theorem eL_law_497 : DD cL_law 497 (.iadd) 1 498 := ⟨by decide +kernel, rfl⟩
theorem eL_law_498 : DD cL_law 498 (.iaload) 1 499 := ⟨by decide +kernel, rfl⟩
theorem eL_law_499 : DD cL_law 499 (.aload_n 0) 1 500 := ⟨by decide +kernel, rfl⟩
theorem eL_law_500 : DD cL_law 500 (.iload 4) 2 502 := ⟨by decide +kernel, rfl⟩
theorem eL_law_502 : DD cL_law 502 (.iconst 3) 1 503 := ⟨by decide +kernel, rfl⟩
theorem eL_law_503 : DD cL_law 503 (.iadd) 1 504 := ⟨by decide +kernel, rfl⟩
theorem eL_law_504 : DD cL_law 504 (.iaload) 1 505 := ⟨by decide +kernel, rfl⟩
theorem eL_law_505 : DD cL_law 505 (.invokevirtual 57) 3 508 := ⟨by decide +kernel, rfl⟩
theorem eL_law_508 : DD cL_law 508 (.aload_n 2) 1 509 := ⟨by decide +kernel, rfl⟩
theorem eL_law_509 : DD cL_law 509 (.aload_n 0) 1 510 := ⟨by decide +kernel, rfl⟩
theorem eL_law_510 : DD cL_law 510 (.iload 4) 2 512 := ⟨by decide +kernel, rfl⟩
theorem eL_law_512 : DD cL_law 512 (.iconst 1) 1 513 := ⟨by decide +kernel, rfl⟩
theorem eL_law_513 : DD cL_law 513 (.iadd) 1 514 := ⟨by decide +kernel, rfl⟩
theorem eL_law_514 : DD cL_law 514 (.iaload) 1 515 := ⟨by decide +kernel, rfl⟩
theorem eL_law_515 : DD cL_law 515 (.aload_n 0) 1 516 := ⟨by decide +kernel, rfl⟩
theorem eL_law_516 : DD cL_law 516 (.iload 4) 2 518 := ⟨by decide +kernel, rfl⟩
theorem eL_law_518 : DD cL_law 518 (.iconst 2) 1 519 := ⟨by decide +kernel, rfl⟩
theorem eL_law_519 : DD cL_law 519 (.iadd) 1 520 := ⟨by decide +kernel, rfl⟩
theorem eL_law_520 : DD cL_law 520 (.iaload) 1 521 := ⟨by decide +kernel, rfl⟩
theorem eL_law_521 : DD cL_law 521 (.aload_n 0) 1 522 := ⟨by decide +kernel, rfl⟩
theorem eL_law_522 : DD cL_law 522 (.iload 4) 2 524 := ⟨by decide +kernel, rfl⟩
theorem eL_law_524 : DD cL_law 524 (.iconst 3) 1 525 := ⟨by decide +kernel, rfl⟩
theorem eL_law_525 : DD cL_law 525 (.iadd) 1 526 := ⟨by decide +kernel, rfl⟩
theorem eL_law_526 : DD cL_law 526 (.iaload) 1 527 := ⟨by decide +kernel, rfl⟩
theorem eL_law_527 : DD cL_law 527 (.invokevirtual 60) 3 530 := ⟨by decide +kernel, rfl⟩
theorem eL_law_530 : DB cL_law 530 (.if_icmp .eq 1216) (1216) 533 1746 := ⟨by decide +kernel, rfl, by decide⟩
def Z_7 (L : Nat) (ys : Nat → Int32) (kc : Int32 → Mem → Option Unit) (x4 : Int32) (μ : Mem) : Option Unit :=
  gq (inB (x4 + (1 : Int32)) L) (gq (inB (x4 + (2 : Int32)) L) (gq (inB (x4 + (3 : Int32)) L) (bd (G_X10_countOf (ys (nx (x4 + (1 : Int32)))) (ys (nx (x4 + (2 : Int32)))) (ys (nx (x4 + (3 : Int32)))) μ) (fun r_2 μ_1 => gq (inB (x4 + (1 : Int32)) L) (gq (inB (x4 + (2 : Int32)) L) (gq (inB (x4 + (3 : Int32)) L) (bd (G_X11_countOf (ys (nx (x4 + (1 : Int32)))) (ys (nx (x4 + (2 : Int32)))) (ys (nx (x4 + (3 : Int32)))) μ_1) (fun r_4 μ_3 => if r_2 = r_4 then kc x4 μ_3 else none))))))))
set_option maxHeartbeats 4000000 in
theorem z_7 {C : Cx} (hC : Ok C cL_law 7 RL room_1) {K : Unit → State → Prop} {b L : Nat} {ys : Nat → Int32} (hs : SC C b L ys) (kc : Int32 → Mem → Option Unit) (hk : ∀ (x4 : Int32) (μ : Mem), J C K μ 1746 [(0, .ref b), (1, .ref (xad (cX C) 0)), (2, .ref (xad (cX C) 107)), (3, .ref (xad (cX C) 126)), (4, .int x4)] [] (kc x4 μ)) (x4 : Int32) (μ : Mem) : J C K μ 486 [(0, .ref b), (1, .ref (xad (cX C) 0)), (2, .ref (xad (cX C) 107)), (3, .ref (xad (cX C) 126)), (4, .int x4)] [] (Z_7 L ys kc x4 μ) := by
  unfold Z_7
  refine J.aload_n (j := 1) hC eL_law_486 rfl ?_
  refine J.aload_n (j := 0) hC eL_law_487 rfl ?_
  refine J.iload (j := 4) hC eL_law_488 rfl ?_
  refine J.iconst hC eL_law_490 ci_1 ?_
  refine J.iadd hC eL_law_491 ?_
  refine J.sld hC hs eL_law_492 ?_
  refine J.aload_n (j := 0) hC eL_law_493 rfl ?_
  refine J.iload (j := 4) hC eL_law_494 rfl ?_
  refine J.iconst hC eL_law_496 ci_2 ?_
  refine J.iadd hC eL_law_497 ?_
  refine J.sld hC hs eL_law_498 ?_
  refine J.aload_n (j := 0) hC eL_law_499 rfl ?_
  refine J.iload (j := 4) hC eL_law_500 rfl ?_
  refine J.iconst hC eL_law_502 ci_3 ?_
  refine J.iadd hC eL_law_503 ?_
  refine J.sld hC hs eL_law_504 ?_
  refine J.callVI (st := []) hC eL_law_505 kk_0 (by decide) rfl rfl ml_L_57 mv_X10_countOf ⟨rfl, rfl, Nat.le_of_ble_eq_true rfl, Nat.le_of_ble_eq_true rfl⟩ (c_X10_countOf hC.X (ys (nx (x4 + (1 : Int32)))) (ys (nx (x4 + (2 : Int32)))) (ys (nx (x4 + (3 : Int32)))) μ) rfl rfl (Nat.le_of_ble_eq_true rfl) (fun r_2 μ_1 => ?_)
  refine J.aload_n (j := 2) hC eL_law_508 rfl ?_
  refine J.aload_n (j := 0) hC eL_law_509 rfl ?_
  refine J.iload (j := 4) hC eL_law_510 rfl ?_
  refine J.iconst hC eL_law_512 ci_1 ?_
  refine J.iadd hC eL_law_513 ?_
  refine J.sld hC hs eL_law_514 ?_
  refine J.aload_n (j := 0) hC eL_law_515 rfl ?_
  refine J.iload (j := 4) hC eL_law_516 rfl ?_
  refine J.iconst hC eL_law_518 ci_2 ?_
  refine J.iadd hC eL_law_519 ?_
  refine J.sld hC hs eL_law_520 ?_
  refine J.aload_n (j := 0) hC eL_law_521 rfl ?_
  refine J.iload (j := 4) hC eL_law_522 rfl ?_
  refine J.iconst hC eL_law_524 ci_3 ?_
  refine J.iadd hC eL_law_525 ?_
  refine J.sld hC hs eL_law_526 ?_
  refine J.callVI (st := [.int r_2]) hC eL_law_527 kk_107 (by decide) rfl rfl ml_L_60 mv_X11_countOf ⟨rfl, rfl, Nat.le_of_ble_eq_true rfl, Nat.le_of_ble_eq_true rfl⟩ (c_X11_countOf hC.X (ys (nx (x4 + (1 : Int32)))) (ys (nx (x4 + (2 : Int32)))) (ys (nx (x4 + (3 : Int32)))) μ_1) rfl rfl (Nat.le_of_ble_eq_true rfl) (fun r_4 μ_3 => ?_)
  refine J.icmp_eq hC eL_law_530 (fun _ => ?_) (fun _ => ?_)
  · refine J.sub [0, 1, 2, 3, 4] rfl ?_
    exact hk x4 μ_3
  · exact J.no
theorem eL_law_535 : DD cL_law 535 (.aload_n 1) 1 536 := ⟨by decide +kernel, rfl⟩
theorem eL_law_536 : DD cL_law 536 (.aload_n 0) 1 537 := ⟨by decide +kernel, rfl⟩
theorem eL_law_537 : DD cL_law 537 (.iload 4) 2 539 := ⟨by decide +kernel, rfl⟩
theorem eL_law_539 : DD cL_law 539 (.iconst 1) 1 540 := ⟨by decide +kernel, rfl⟩
theorem eL_law_540 : DD cL_law 540 (.iadd) 1 541 := ⟨by decide +kernel, rfl⟩
theorem eL_law_541 : DD cL_law 541 (.iaload) 1 542 := ⟨by decide +kernel, rfl⟩
theorem eL_law_542 : DD cL_law 542 (.aload_n 0) 1 543 := ⟨by decide +kernel, rfl⟩
theorem eL_law_543 : DD cL_law 543 (.iload 4) 2 545 := ⟨by decide +kernel, rfl⟩
theorem eL_law_545 : DD cL_law 545 (.iconst 2) 1 546 := ⟨by decide +kernel, rfl⟩
theorem eL_law_546 : DD cL_law 546 (.iadd) 1 547 := ⟨by decide +kernel, rfl⟩
theorem eL_law_547 : DD cL_law 547 (.iaload) 1 548 := ⟨by decide +kernel, rfl⟩
theorem eL_law_548 : DD cL_law 548 (.aload_n 0) 1 549 := ⟨by decide +kernel, rfl⟩
theorem eL_law_549 : DD cL_law 549 (.iload 4) 2 551 := ⟨by decide +kernel, rfl⟩
theorem eL_law_551 : DD cL_law 551 (.iconst 3) 1 552 := ⟨by decide +kernel, rfl⟩
theorem eL_law_552 : DD cL_law 552 (.iadd) 1 553 := ⟨by decide +kernel, rfl⟩
theorem eL_law_553 : DD cL_law 553 (.iaload) 1 554 := ⟨by decide +kernel, rfl⟩
theorem eL_law_554 : DD cL_law 554 (.aload_n 0) 1 555 := ⟨by decide +kernel, rfl⟩
theorem eL_law_555 : DD cL_law 555 (.iload 4) 2 557 := ⟨by decide +kernel, rfl⟩
theorem eL_law_557 : DD cL_law 557 (.iconst 4) 1 558 := ⟨by decide +kernel, rfl⟩
theorem eL_law_558 : DD cL_law 558 (.iadd) 1 559 := ⟨by decide +kernel, rfl⟩
theorem eL_law_559 : DD cL_law 559 (.iaload) 1 560 := ⟨by decide +kernel, rfl⟩
theorem eL_law_560 : DD cL_law 560 (.invokevirtual 61) 3 563 := ⟨by decide +kernel, rfl⟩
theorem eL_law_563 : DD cL_law 563 (.aload_n 2) 1 564 := ⟨by decide +kernel, rfl⟩
theorem eL_law_564 : DD cL_law 564 (.aload_n 0) 1 565 := ⟨by decide +kernel, rfl⟩
theorem eL_law_565 : DD cL_law 565 (.iload 4) 2 567 := ⟨by decide +kernel, rfl⟩
theorem eL_law_567 : DD cL_law 567 (.iconst 1) 1 568 := ⟨by decide +kernel, rfl⟩
theorem eL_law_568 : DD cL_law 568 (.iadd) 1 569 := ⟨by decide +kernel, rfl⟩
theorem eL_law_569 : DD cL_law 569 (.iaload) 1 570 := ⟨by decide +kernel, rfl⟩
theorem eL_law_570 : DD cL_law 570 (.aload_n 0) 1 571 := ⟨by decide +kernel, rfl⟩
theorem eL_law_571 : DD cL_law 571 (.iload 4) 2 573 := ⟨by decide +kernel, rfl⟩
theorem eL_law_573 : DD cL_law 573 (.iconst 2) 1 574 := ⟨by decide +kernel, rfl⟩
theorem eL_law_574 : DD cL_law 574 (.iadd) 1 575 := ⟨by decide +kernel, rfl⟩
theorem eL_law_575 : DD cL_law 575 (.iaload) 1 576 := ⟨by decide +kernel, rfl⟩
theorem eL_law_576 : DD cL_law 576 (.aload_n 0) 1 577 := ⟨by decide +kernel, rfl⟩
theorem eL_law_577 : DD cL_law 577 (.iload 4) 2 579 := ⟨by decide +kernel, rfl⟩
theorem eL_law_579 : DD cL_law 579 (.iconst 3) 1 580 := ⟨by decide +kernel, rfl⟩
theorem eL_law_580 : DD cL_law 580 (.iadd) 1 581 := ⟨by decide +kernel, rfl⟩
theorem eL_law_581 : DD cL_law 581 (.iaload) 1 582 := ⟨by decide +kernel, rfl⟩
theorem eL_law_582 : DD cL_law 582 (.aload_n 0) 1 583 := ⟨by decide +kernel, rfl⟩
theorem eL_law_583 : DD cL_law 583 (.iload 4) 2 585 := ⟨by decide +kernel, rfl⟩
theorem eL_law_585 : DD cL_law 585 (.iconst 4) 1 586 := ⟨by decide +kernel, rfl⟩
theorem eL_law_586 : DD cL_law 586 (.iadd) 1 587 := ⟨by decide +kernel, rfl⟩
theorem eL_law_587 : DD cL_law 587 (.iaload) 1 588 := ⟨by decide +kernel, rfl⟩
theorem eL_law_588 : DD cL_law 588 (.invokevirtual 65) 3 591 := ⟨by decide +kernel, rfl⟩
theorem eL_law_591 : DB cL_law 591 (.if_icmp .eq 1155) (1155) 594 1746 := ⟨by decide +kernel, rfl, by decide⟩
def Z_8 (L : Nat) (ys : Nat → Int32) (kc : Int32 → Mem → Option Unit) (x4 : Int32) (μ : Mem) : Option Unit :=
  gq (inB (x4 + (1 : Int32)) L) (gq (inB (x4 + (2 : Int32)) L) (gq (inB (x4 + (3 : Int32)) L) (gq (inB (x4 + (4 : Int32)) L) (bd (G_X10_bucket (ys (nx (x4 + (1 : Int32)))) (ys (nx (x4 + (2 : Int32)))) (ys (nx (x4 + (3 : Int32)))) (ys (nx (x4 + (4 : Int32)))) μ) (fun r_2 μ_1 => gq (inB (x4 + (1 : Int32)) L) (gq (inB (x4 + (2 : Int32)) L) (gq (inB (x4 + (3 : Int32)) L) (gq (inB (x4 + (4 : Int32)) L) (bd (G_X11_bucket (ys (nx (x4 + (1 : Int32)))) (ys (nx (x4 + (2 : Int32)))) (ys (nx (x4 + (3 : Int32)))) (ys (nx (x4 + (4 : Int32)))) μ_1) (fun r_4 μ_3 => if r_2 = r_4 then kc x4 μ_3 else none))))))))))
set_option maxHeartbeats 4000000 in
theorem z_8 {C : Cx} (hC : Ok C cL_law 7 RL room_1) {K : Unit → State → Prop} {b L : Nat} {ys : Nat → Int32} (hs : SC C b L ys) (kc : Int32 → Mem → Option Unit) (hk : ∀ (x4 : Int32) (μ : Mem), J C K μ 1746 [(0, .ref b), (1, .ref (xad (cX C) 0)), (2, .ref (xad (cX C) 107)), (3, .ref (xad (cX C) 126)), (4, .int x4)] [] (kc x4 μ)) (x4 : Int32) (μ : Mem) : J C K μ 535 [(0, .ref b), (1, .ref (xad (cX C) 0)), (2, .ref (xad (cX C) 107)), (3, .ref (xad (cX C) 126)), (4, .int x4)] [] (Z_8 L ys kc x4 μ) := by
  unfold Z_8
  refine J.aload_n (j := 1) hC eL_law_535 rfl ?_
  refine J.aload_n (j := 0) hC eL_law_536 rfl ?_
  refine J.iload (j := 4) hC eL_law_537 rfl ?_
  refine J.iconst hC eL_law_539 ci_1 ?_
  refine J.iadd hC eL_law_540 ?_
  refine J.sld hC hs eL_law_541 ?_
  refine J.aload_n (j := 0) hC eL_law_542 rfl ?_
  refine J.iload (j := 4) hC eL_law_543 rfl ?_
  refine J.iconst hC eL_law_545 ci_2 ?_
  refine J.iadd hC eL_law_546 ?_
  refine J.sld hC hs eL_law_547 ?_
  refine J.aload_n (j := 0) hC eL_law_548 rfl ?_
  refine J.iload (j := 4) hC eL_law_549 rfl ?_
  refine J.iconst hC eL_law_551 ci_3 ?_
  refine J.iadd hC eL_law_552 ?_
  refine J.sld hC hs eL_law_553 ?_
  refine J.aload_n (j := 0) hC eL_law_554 rfl ?_
  refine J.iload (j := 4) hC eL_law_555 rfl ?_
  refine J.iconst hC eL_law_557 ci_4 ?_
  refine J.iadd hC eL_law_558 ?_
  refine J.sld hC hs eL_law_559 ?_
  refine J.callVI (st := []) hC eL_law_560 kk_0 (by decide) rfl rfl ml_L_61 mv_X10_bucket ⟨rfl, rfl, Nat.le_of_ble_eq_true rfl, Nat.le_of_ble_eq_true rfl⟩ (c_X10_bucket hC.X (ys (nx (x4 + (1 : Int32)))) (ys (nx (x4 + (2 : Int32)))) (ys (nx (x4 + (3 : Int32)))) (ys (nx (x4 + (4 : Int32)))) μ) rfl rfl (Nat.le_of_ble_eq_true rfl) (fun r_2 μ_1 => ?_)
  refine J.aload_n (j := 2) hC eL_law_563 rfl ?_
  refine J.aload_n (j := 0) hC eL_law_564 rfl ?_
  refine J.iload (j := 4) hC eL_law_565 rfl ?_
  refine J.iconst hC eL_law_567 ci_1 ?_
  refine J.iadd hC eL_law_568 ?_
  refine J.sld hC hs eL_law_569 ?_
  refine J.aload_n (j := 0) hC eL_law_570 rfl ?_
  refine J.iload (j := 4) hC eL_law_571 rfl ?_
  refine J.iconst hC eL_law_573 ci_2 ?_
  refine J.iadd hC eL_law_574 ?_
  refine J.sld hC hs eL_law_575 ?_
  refine J.aload_n (j := 0) hC eL_law_576 rfl ?_
  refine J.iload (j := 4) hC eL_law_577 rfl ?_
  refine J.iconst hC eL_law_579 ci_3 ?_
  refine J.iadd hC eL_law_580 ?_
  refine J.sld hC hs eL_law_581 ?_
  refine J.aload_n (j := 0) hC eL_law_582 rfl ?_
  refine J.iload (j := 4) hC eL_law_583 rfl ?_
  refine J.iconst hC eL_law_585 ci_4 ?_
  refine J.iadd hC eL_law_586 ?_
  refine J.sld hC hs eL_law_587 ?_
  refine J.callVI (st := [.int r_2]) hC eL_law_588 kk_107 (by decide) rfl rfl ml_L_65 mv_X11_bucket ⟨rfl, rfl, Nat.le_of_ble_eq_true rfl, Nat.le_of_ble_eq_true rfl⟩ (c_X11_bucket hC.X (ys (nx (x4 + (1 : Int32)))) (ys (nx (x4 + (2 : Int32)))) (ys (nx (x4 + (3 : Int32)))) (ys (nx (x4 + (4 : Int32)))) μ_1) rfl rfl (Nat.le_of_ble_eq_true rfl) (fun r_4 μ_3 => ?_)
  refine J.icmp_eq hC eL_law_591 (fun _ => ?_) (fun _ => ?_)
  · refine J.sub [0, 1, 2, 3, 4] rfl ?_
    exact hk x4 μ_3
  · exact J.no
theorem eL_law_596 : DD cL_law 596 (.aload_n 1) 1 597 := ⟨by decide +kernel, rfl⟩
theorem eL_law_597 : DD cL_law 597 (.aload_n 0) 1 598 := ⟨by decide +kernel, rfl⟩
theorem eL_law_598 : DD cL_law 598 (.iload 4) 2 600 := ⟨by decide +kernel, rfl⟩
theorem eL_law_600 : DD cL_law 600 (.iconst 1) 1 601 := ⟨by decide +kernel, rfl⟩
theorem eL_law_601 : DD cL_law 601 (.iadd) 1 602 := ⟨by decide +kernel, rfl⟩
theorem eL_law_602 : DD cL_law 602 (.iaload) 1 603 := ⟨by decide +kernel, rfl⟩
theorem eL_law_603 : DD cL_law 603 (.aload_n 0) 1 604 := ⟨by decide +kernel, rfl⟩
theorem eL_law_604 : DD cL_law 604 (.iload 4) 2 606 := ⟨by decide +kernel, rfl⟩
theorem eL_law_606 : DD cL_law 606 (.iconst 2) 1 607 := ⟨by decide +kernel, rfl⟩
theorem eL_law_607 : DD cL_law 607 (.iadd) 1 608 := ⟨by decide +kernel, rfl⟩
theorem eL_law_608 : DD cL_law 608 (.iaload) 1 609 := ⟨by decide +kernel, rfl⟩
theorem eL_law_609 : DD cL_law 609 (.aload_n 0) 1 610 := ⟨by decide +kernel, rfl⟩
theorem eL_law_610 : DD cL_law 610 (.iload 4) 2 612 := ⟨by decide +kernel, rfl⟩
theorem eL_law_612 : DD cL_law 612 (.iconst 3) 1 613 := ⟨by decide +kernel, rfl⟩
theorem eL_law_613 : DD cL_law 613 (.iadd) 1 614 := ⟨by decide +kernel, rfl⟩
theorem eL_law_614 : DD cL_law 614 (.iaload) 1 615 := ⟨by decide +kernel, rfl⟩
theorem eL_law_615 : DD cL_law 615 (.invokevirtual 66) 3 618 := ⟨by decide +kernel, rfl⟩
theorem eL_law_618 : DD cL_law 618 (.aload_n 2) 1 619 := ⟨by decide +kernel, rfl⟩
theorem eL_law_619 : DD cL_law 619 (.aload_n 0) 1 620 := ⟨by decide +kernel, rfl⟩
theorem eL_law_620 : DD cL_law 620 (.iload 4) 2 622 := ⟨by decide +kernel, rfl⟩
theorem eL_law_622 : DD cL_law 622 (.iconst 1) 1 623 := ⟨by decide +kernel, rfl⟩
theorem eL_law_623 : DD cL_law 623 (.iadd) 1 624 := ⟨by decide +kernel, rfl⟩
theorem eL_law_624 : DD cL_law 624 (.iaload) 1 625 := ⟨by decide +kernel, rfl⟩
theorem eL_law_625 : DD cL_law 625 (.aload_n 0) 1 626 := ⟨by decide +kernel, rfl⟩
theorem eL_law_626 : DD cL_law 626 (.iload 4) 2 628 := ⟨by decide +kernel, rfl⟩
theorem eL_law_628 : DD cL_law 628 (.iconst 2) 1 629 := ⟨by decide +kernel, rfl⟩
theorem eL_law_629 : DD cL_law 629 (.iadd) 1 630 := ⟨by decide +kernel, rfl⟩
theorem eL_law_630 : DD cL_law 630 (.iaload) 1 631 := ⟨by decide +kernel, rfl⟩
theorem eL_law_631 : DD cL_law 631 (.aload_n 0) 1 632 := ⟨by decide +kernel, rfl⟩
theorem eL_law_632 : DD cL_law 632 (.iload 4) 2 634 := ⟨by decide +kernel, rfl⟩
theorem eL_law_634 : DD cL_law 634 (.iconst 3) 1 635 := ⟨by decide +kernel, rfl⟩
theorem eL_law_635 : DD cL_law 635 (.iadd) 1 636 := ⟨by decide +kernel, rfl⟩
theorem eL_law_636 : DD cL_law 636 (.iaload) 1 637 := ⟨by decide +kernel, rfl⟩
theorem eL_law_637 : DD cL_law 637 (.invokevirtual 69) 3 640 := ⟨by decide +kernel, rfl⟩
theorem eL_law_640 : DB cL_law 640 (.if_icmp .eq 1106) (1106) 643 1746 := ⟨by decide +kernel, rfl, by decide⟩
def Z_9 (L : Nat) (ys : Nat → Int32) (kc : Int32 → Mem → Option Unit) (x4 : Int32) (μ : Mem) : Option Unit :=
  gq (inB (x4 + (1 : Int32)) L) (gq (inB (x4 + (2 : Int32)) L) (gq (inB (x4 + (3 : Int32)) L) (bd (G_X10_column (ys (nx (x4 + (1 : Int32)))) (ys (nx (x4 + (2 : Int32)))) (ys (nx (x4 + (3 : Int32)))) μ) (fun r_2 μ_1 => gq (inB (x4 + (1 : Int32)) L) (gq (inB (x4 + (2 : Int32)) L) (gq (inB (x4 + (3 : Int32)) L) (bd (G_X11_column_ (ys (nx (x4 + (1 : Int32)))) (ys (nx (x4 + (2 : Int32)))) (ys (nx (x4 + (3 : Int32)))) μ_1) (fun r_4 μ_3 => if r_2 = r_4 then kc x4 μ_3 else none))))))))
set_option maxHeartbeats 4000000 in
theorem z_9 {C : Cx} (hC : Ok C cL_law 7 RL room_1) {K : Unit → State → Prop} {b L : Nat} {ys : Nat → Int32} (hs : SC C b L ys) (kc : Int32 → Mem → Option Unit) (hk : ∀ (x4 : Int32) (μ : Mem), J C K μ 1746 [(0, .ref b), (1, .ref (xad (cX C) 0)), (2, .ref (xad (cX C) 107)), (3, .ref (xad (cX C) 126)), (4, .int x4)] [] (kc x4 μ)) (x4 : Int32) (μ : Mem) : J C K μ 596 [(0, .ref b), (1, .ref (xad (cX C) 0)), (2, .ref (xad (cX C) 107)), (3, .ref (xad (cX C) 126)), (4, .int x4)] [] (Z_9 L ys kc x4 μ) := by
  unfold Z_9
  refine J.aload_n (j := 1) hC eL_law_596 rfl ?_
  refine J.aload_n (j := 0) hC eL_law_597 rfl ?_
  refine J.iload (j := 4) hC eL_law_598 rfl ?_
  refine J.iconst hC eL_law_600 ci_1 ?_
  refine J.iadd hC eL_law_601 ?_
  refine J.sld hC hs eL_law_602 ?_
  refine J.aload_n (j := 0) hC eL_law_603 rfl ?_
  refine J.iload (j := 4) hC eL_law_604 rfl ?_
  refine J.iconst hC eL_law_606 ci_2 ?_
  refine J.iadd hC eL_law_607 ?_
  refine J.sld hC hs eL_law_608 ?_
  refine J.aload_n (j := 0) hC eL_law_609 rfl ?_
  refine J.iload (j := 4) hC eL_law_610 rfl ?_
  refine J.iconst hC eL_law_612 ci_3 ?_
  refine J.iadd hC eL_law_613 ?_
  refine J.sld hC hs eL_law_614 ?_
  refine J.callVI (st := []) hC eL_law_615 kk_0 (by decide) rfl rfl ml_L_66 mv_X10_column ⟨rfl, rfl, Nat.le_of_ble_eq_true rfl, Nat.le_of_ble_eq_true rfl⟩ (c_X10_column hC.X (ys (nx (x4 + (1 : Int32)))) (ys (nx (x4 + (2 : Int32)))) (ys (nx (x4 + (3 : Int32)))) μ) rfl rfl (Nat.le_of_ble_eq_true rfl) (fun r_2 μ_1 => ?_)
  refine J.aload_n (j := 2) hC eL_law_618 rfl ?_
  refine J.aload_n (j := 0) hC eL_law_619 rfl ?_
  refine J.iload (j := 4) hC eL_law_620 rfl ?_
  refine J.iconst hC eL_law_622 ci_1 ?_
  refine J.iadd hC eL_law_623 ?_
  refine J.sld hC hs eL_law_624 ?_
  refine J.aload_n (j := 0) hC eL_law_625 rfl ?_
  refine J.iload (j := 4) hC eL_law_626 rfl ?_
  refine J.iconst hC eL_law_628 ci_2 ?_
  refine J.iadd hC eL_law_629 ?_
  refine J.sld hC hs eL_law_630 ?_
  refine J.aload_n (j := 0) hC eL_law_631 rfl ?_
  refine J.iload (j := 4) hC eL_law_632 rfl ?_
  refine J.iconst hC eL_law_634 ci_3 ?_
  refine J.iadd hC eL_law_635 ?_
  refine J.sld hC hs eL_law_636 ?_
  refine J.callVI (st := [.int r_2]) hC eL_law_637 kk_107 (by decide) rfl rfl ml_L_69 mv_X11_column_ ⟨rfl, rfl, Nat.le_of_ble_eq_true rfl, Nat.le_of_ble_eq_true rfl⟩ (c_X11_column_ hC.X (ys (nx (x4 + (1 : Int32)))) (ys (nx (x4 + (2 : Int32)))) (ys (nx (x4 + (3 : Int32)))) μ_1) rfl rfl (Nat.le_of_ble_eq_true rfl) (fun r_4 μ_3 => ?_)
  refine J.icmp_eq hC eL_law_640 (fun _ => ?_) (fun _ => ?_)
  · refine J.sub [0, 1, 2, 3, 4] rfl ?_
    exact hk x4 μ_3
  · exact J.no
theorem eL_law_645 : DD cL_law 645 (.aload_n 1) 1 646 := ⟨by decide +kernel, rfl⟩
theorem eL_law_646 : DD cL_law 646 (.aload_n 0) 1 647 := ⟨by decide +kernel, rfl⟩
theorem eL_law_647 : DD cL_law 647 (.iload 4) 2 649 := ⟨by decide +kernel, rfl⟩
theorem eL_law_649 : DD cL_law 649 (.iconst 1) 1 650 := ⟨by decide +kernel, rfl⟩
theorem eL_law_650 : DD cL_law 650 (.iadd) 1 651 := ⟨by decide +kernel, rfl⟩
theorem eL_law_651 : DD cL_law 651 (.iaload) 1 652 := ⟨by decide +kernel, rfl⟩
theorem eL_law_652 : DD cL_law 652 (.aload_n 0) 1 653 := ⟨by decide +kernel, rfl⟩
theorem eL_law_653 : DD cL_law 653 (.iload 4) 2 655 := ⟨by decide +kernel, rfl⟩
theorem eL_law_655 : DD cL_law 655 (.iconst 2) 1 656 := ⟨by decide +kernel, rfl⟩
theorem eL_law_656 : DD cL_law 656 (.iadd) 1 657 := ⟨by decide +kernel, rfl⟩
theorem eL_law_657 : DD cL_law 657 (.iaload) 1 658 := ⟨by decide +kernel, rfl⟩
theorem eL_law_658 : DD cL_law 658 (.aload_n 0) 1 659 := ⟨by decide +kernel, rfl⟩
theorem eL_law_659 : DD cL_law 659 (.iload 4) 2 661 := ⟨by decide +kernel, rfl⟩
theorem eL_law_661 : DD cL_law 661 (.iconst 3) 1 662 := ⟨by decide +kernel, rfl⟩
theorem eL_law_662 : DD cL_law 662 (.iadd) 1 663 := ⟨by decide +kernel, rfl⟩
theorem eL_law_663 : DD cL_law 663 (.iaload) 1 664 := ⟨by decide +kernel, rfl⟩
theorem eL_law_664 : DD cL_law 664 (.invokevirtual 70) 3 667 := ⟨by decide +kernel, rfl⟩
theorem eL_law_667 : DD cL_law 667 (.aload_n 2) 1 668 := ⟨by decide +kernel, rfl⟩
theorem eL_law_668 : DD cL_law 668 (.aload_n 0) 1 669 := ⟨by decide +kernel, rfl⟩
theorem eL_law_669 : DD cL_law 669 (.iload 4) 2 671 := ⟨by decide +kernel, rfl⟩
theorem eL_law_671 : DD cL_law 671 (.iconst 1) 1 672 := ⟨by decide +kernel, rfl⟩
theorem eL_law_672 : DD cL_law 672 (.iadd) 1 673 := ⟨by decide +kernel, rfl⟩
theorem eL_law_673 : DD cL_law 673 (.iaload) 1 674 := ⟨by decide +kernel, rfl⟩
theorem eL_law_674 : DD cL_law 674 (.aload_n 0) 1 675 := ⟨by decide +kernel, rfl⟩
theorem eL_law_675 : DD cL_law 675 (.iload 4) 2 677 := ⟨by decide +kernel, rfl⟩
theorem eL_law_677 : DD cL_law 677 (.iconst 2) 1 678 := ⟨by decide +kernel, rfl⟩
theorem eL_law_678 : DD cL_law 678 (.iadd) 1 679 := ⟨by decide +kernel, rfl⟩
theorem eL_law_679 : DD cL_law 679 (.iaload) 1 680 := ⟨by decide +kernel, rfl⟩
theorem eL_law_680 : DD cL_law 680 (.aload_n 0) 1 681 := ⟨by decide +kernel, rfl⟩
theorem eL_law_681 : DD cL_law 681 (.iload 4) 2 683 := ⟨by decide +kernel, rfl⟩
theorem eL_law_683 : DD cL_law 683 (.iconst 3) 1 684 := ⟨by decide +kernel, rfl⟩
theorem eL_law_684 : DD cL_law 684 (.iadd) 1 685 := ⟨by decide +kernel, rfl⟩
theorem eL_law_685 : DD cL_law 685 (.iaload) 1 686 := ⟨by decide +kernel, rfl⟩
theorem eL_law_686 : DD cL_law 686 (.invokevirtual 74) 3 689 := ⟨by decide +kernel, rfl⟩
theorem eL_law_689 : DD cL_law 689 (.lcmp) 1 690 := ⟨by decide +kernel, rfl⟩
theorem eL_law_690 : DB cL_law 690 (.ifCond .eq 1056) (1056) 693 1746 := ⟨by decide +kernel, rfl, by decide⟩
def Z_10 (L : Nat) (ys : Nat → Int32) (kc : Int32 → Mem → Option Unit) (x4 : Int32) (μ : Mem) : Option Unit :=
  gq (inB (x4 + (1 : Int32)) L) (gq (inB (x4 + (2 : Int32)) L) (gq (inB (x4 + (3 : Int32)) L) (bd (G_X10_error (ys (nx (x4 + (1 : Int32)))) (ys (nx (x4 + (2 : Int32)))) (ys (nx (x4 + (3 : Int32)))) μ) (fun r_2 μ_1 => gq (inB (x4 + (1 : Int32)) L) (gq (inB (x4 + (2 : Int32)) L) (gq (inB (x4 + (3 : Int32)) L) (bd (G_X11_error (ys (nx (x4 + (1 : Int32)))) (ys (nx (x4 + (2 : Int32)))) (ys (nx (x4 + (3 : Int32)))) μ_1) (fun r_4 μ_3 => if (lg_cmp r_2 r_4) = 0 then kc x4 μ_3 else none))))))))
set_option maxHeartbeats 4000000 in
theorem z_10 {C : Cx} (hC : Ok C cL_law 7 RL room_1) {K : Unit → State → Prop} {b L : Nat} {ys : Nat → Int32} (hs : SC C b L ys) (kc : Int32 → Mem → Option Unit) (hk : ∀ (x4 : Int32) (μ : Mem), J C K μ 1746 [(0, .ref b), (1, .ref (xad (cX C) 0)), (2, .ref (xad (cX C) 107)), (3, .ref (xad (cX C) 126)), (4, .int x4)] [] (kc x4 μ)) (x4 : Int32) (μ : Mem) : J C K μ 645 [(0, .ref b), (1, .ref (xad (cX C) 0)), (2, .ref (xad (cX C) 107)), (3, .ref (xad (cX C) 126)), (4, .int x4)] [] (Z_10 L ys kc x4 μ) := by
  unfold Z_10
  refine J.aload_n (j := 1) hC eL_law_645 rfl ?_
  refine J.aload_n (j := 0) hC eL_law_646 rfl ?_
  refine J.iload (j := 4) hC eL_law_647 rfl ?_
  refine J.iconst hC eL_law_649 ci_1 ?_
  refine J.iadd hC eL_law_650 ?_
  refine J.sld hC hs eL_law_651 ?_
  refine J.aload_n (j := 0) hC eL_law_652 rfl ?_
  refine J.iload (j := 4) hC eL_law_653 rfl ?_
  refine J.iconst hC eL_law_655 ci_2 ?_
  refine J.iadd hC eL_law_656 ?_
  refine J.sld hC hs eL_law_657 ?_
  refine J.aload_n (j := 0) hC eL_law_658 rfl ?_
  refine J.iload (j := 4) hC eL_law_659 rfl ?_
  refine J.iconst hC eL_law_661 ci_3 ?_
  refine J.iadd hC eL_law_662 ?_
  refine J.sld hC hs eL_law_663 ?_
  refine J.callVL (st := []) hC eL_law_664 kk_0 (by decide) rfl rfl ml_L_70 mv_X10_error ⟨rfl, rfl, Nat.le_of_ble_eq_true rfl, Nat.le_of_ble_eq_true rfl⟩ (c_X10_error hC.X (ys (nx (x4 + (1 : Int32)))) (ys (nx (x4 + (2 : Int32)))) (ys (nx (x4 + (3 : Int32)))) μ) rfl rfl (Nat.le_of_ble_eq_true rfl) (fun r_2 μ_1 => ?_)
  refine J.aload_n (j := 2) hC eL_law_667 rfl ?_
  refine J.aload_n (j := 0) hC eL_law_668 rfl ?_
  refine J.iload (j := 4) hC eL_law_669 rfl ?_
  refine J.iconst hC eL_law_671 ci_1 ?_
  refine J.iadd hC eL_law_672 ?_
  refine J.sld hC hs eL_law_673 ?_
  refine J.aload_n (j := 0) hC eL_law_674 rfl ?_
  refine J.iload (j := 4) hC eL_law_675 rfl ?_
  refine J.iconst hC eL_law_677 ci_2 ?_
  refine J.iadd hC eL_law_678 ?_
  refine J.sld hC hs eL_law_679 ?_
  refine J.aload_n (j := 0) hC eL_law_680 rfl ?_
  refine J.iload (j := 4) hC eL_law_681 rfl ?_
  refine J.iconst hC eL_law_683 ci_3 ?_
  refine J.iadd hC eL_law_684 ?_
  refine J.sld hC hs eL_law_685 ?_
  refine J.callVL (st := [.long r_2]) hC eL_law_686 kk_107 (by decide) rfl rfl ml_L_74 mv_X11_error ⟨rfl, rfl, Nat.le_of_ble_eq_true rfl, Nat.le_of_ble_eq_true rfl⟩ (c_X11_error hC.X (ys (nx (x4 + (1 : Int32)))) (ys (nx (x4 + (2 : Int32)))) (ys (nx (x4 + (3 : Int32)))) μ_1) rfl rfl (Nat.le_of_ble_eq_true rfl) (fun r_4 μ_3 => ?_)
  refine J.lcmp hC eL_law_689 ?_
  refine J.if_eq hC eL_law_690 (fun _ => ?_) (fun _ => ?_)
  · refine J.sub [0, 1, 2, 3, 4] rfl ?_
    exact hk x4 μ_3
  · exact J.no
