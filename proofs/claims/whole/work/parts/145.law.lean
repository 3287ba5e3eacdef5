theorem eL_law_1448 : DD cL_law 1448 (.aload_n 1) 1 1449 := ⟨by decide +kernel, rfl⟩
theorem eL_law_1449 : DD cL_law 1449 (.aload_n 0) 1 1450 := ⟨by decide +kernel, rfl⟩
theorem eL_law_1450 : DD cL_law 1450 (.iload 4) 2 1452 := ⟨by decide +kernel, rfl⟩
theorem eL_law_1452 : DD cL_law 1452 (.iconst 1) 1 1453 := ⟨by decide +kernel, rfl⟩
theorem eL_law_1453 : DD cL_law 1453 (.iadd) 1 1454 := ⟨by decide +kernel, rfl⟩
theorem eL_law_1454 : DD cL_law 1454 (.iaload) 1 1455 := ⟨by decide +kernel, rfl⟩
theorem eL_law_1455 : DD cL_law 1455 (.invokevirtual 141) 3 1458 := ⟨by decide +kernel, rfl⟩
theorem eL_law_1458 : DD cL_law 1458 (.aload_n 2) 1 1459 := ⟨by decide +kernel, rfl⟩
theorem eL_law_1459 : DD cL_law 1459 (.aload_n 0) 1 1460 := ⟨by decide +kernel, rfl⟩
theorem eL_law_1460 : DD cL_law 1460 (.iload 4) 2 1462 := ⟨by decide +kernel, rfl⟩
theorem eL_law_1462 : DD cL_law 1462 (.iconst 1) 1 1463 := ⟨by decide +kernel, rfl⟩
theorem eL_law_1463 : DD cL_law 1463 (.iadd) 1 1464 := ⟨by decide +kernel, rfl⟩
theorem eL_law_1464 : DD cL_law 1464 (.iaload) 1 1465 := ⟨by decide +kernel, rfl⟩
theorem eL_law_1465 : DD cL_law 1465 (.invokevirtual 144) 3 1468 := ⟨by decide +kernel, rfl⟩
theorem eL_law_1468 : DB cL_law 1468 (.if_icmp .eq 278) (278) 1471 1746 := ⟨by decide +kernel, rfl, by decide⟩
def Z_26 (L : Nat) (ys : Nat → Int32) (kc : Int32 → Mem → Option Unit) (x4 : Int32) (μ : Mem) : Option Unit :=
  gq (inB (x4 + (1 : Int32)) L) (bd (G_X10_trace (ys (nx (x4 + (1 : Int32)))) μ) (fun r_2 μ_1 => gq (inB (x4 + (1 : Int32)) L) (bd (G_X11_trace (ys (nx (x4 + (1 : Int32)))) μ_1) (fun r_4 μ_3 => if r_2 = r_4 then kc x4 μ_3 else none))))
set_option maxHeartbeats 4000000 in
theorem z_26 {C : Cx} (hC : Ok C cL_law 7 RL room_1) {K : Unit → State → Prop} {b L : Nat} {ys : Nat → Int32} (hs : SC C b L ys) (kc : Int32 → Mem → Option Unit) (hk : ∀ (x4 : Int32) (μ : Mem), J C K μ 1746 [(0, .ref b), (1, .ref (xad (cX C) 0)), (2, .ref (xad (cX C) 107)), (3, .ref (xad (cX C) 126)), (4, .int x4)] [] (kc x4 μ)) (x4 : Int32) (μ : Mem) : J C K μ 1448 [(0, .ref b), (1, .ref (xad (cX C) 0)), (2, .ref (xad (cX C) 107)), (3, .ref (xad (cX C) 126)), (4, .int x4)] [] (Z_26 L ys kc x4 μ) := by
  unfold Z_26
  refine J.aload_n (j := 1) hC eL_law_1448 rfl ?_
  refine J.aload_n (j := 0) hC eL_law_1449 rfl ?_
  refine J.iload (j := 4) hC eL_law_1450 rfl ?_
  refine J.iconst hC eL_law_1452 ci_1 ?_
  refine J.iadd hC eL_law_1453 ?_
  refine J.sld hC hs eL_law_1454 ?_
  refine J.callVI (st := []) hC eL_law_1455 kk_0 (by decide) rfl rfl ml_L_141 mv_X10_trace ⟨rfl, rfl, Nat.le_of_ble_eq_true rfl, Nat.le_of_ble_eq_true rfl⟩ (c_X10_trace hC.X (ys (nx (x4 + (1 : Int32)))) μ) rfl rfl (Nat.le_of_ble_eq_true rfl) (fun r_2 μ_1 => ?_)
  refine J.aload_n (j := 2) hC eL_law_1458 rfl ?_
  refine J.aload_n (j := 0) hC eL_law_1459 rfl ?_
  refine J.iload (j := 4) hC eL_law_1460 rfl ?_
  refine J.iconst hC eL_law_1462 ci_1 ?_
  refine J.iadd hC eL_law_1463 ?_
  refine J.sld hC hs eL_law_1464 ?_
  refine J.callVI (st := [.int r_2]) hC eL_law_1465 kk_107 (by decide) rfl rfl ml_L_144 mv_X11_trace ⟨rfl, rfl, Nat.le_of_ble_eq_true rfl, Nat.le_of_ble_eq_true rfl⟩ (c_X11_trace hC.X (ys (nx (x4 + (1 : Int32)))) μ_1) rfl rfl (Nat.le_of_ble_eq_true rfl) (fun r_4 μ_3 => ?_)
  refine J.icmp_eq hC eL_law_1468 (fun _ => ?_) (fun _ => ?_)
  · refine J.sub [0, 1, 2, 3, 4] rfl ?_
    exact hk x4 μ_3
  · exact J.no
theorem eL_law_1473 : DD cL_law 1473 (.aload_n 1) 1 1474 := ⟨by decide +kernel, rfl⟩
theorem eL_law_1474 : DD cL_law 1474 (.aload_n 0) 1 1475 := ⟨by decide +kernel, rfl⟩
theorem eL_law_1475 : DD cL_law 1475 (.iload 4) 2 1477 := ⟨by decide +kernel, rfl⟩
theorem eL_law_1477 : DD cL_law 1477 (.iconst 1) 1 1478 := ⟨by decide +kernel, rfl⟩
theorem eL_law_1478 : DD cL_law 1478 (.iadd) 1 1479 := ⟨by decide +kernel, rfl⟩
theorem eL_law_1479 : DD cL_law 1479 (.iaload) 1 1480 := ⟨by decide +kernel, rfl⟩
theorem eL_law_1480 : DD cL_law 1480 (.aload_n 0) 1 1481 := ⟨by decide +kernel, rfl⟩
theorem eL_law_1481 : DD cL_law 1481 (.iload 4) 2 1483 := ⟨by decide +kernel, rfl⟩
theorem eL_law_1483 : DD cL_law 1483 (.iconst 2) 1 1484 := ⟨by decide +kernel, rfl⟩
theorem eL_law_1484 : DD cL_law 1484 (.iadd) 1 1485 := ⟨by decide +kernel, rfl⟩
theorem eL_law_1485 : DD cL_law 1485 (.iaload) 1 1486 := ⟨by decide +kernel, rfl⟩
theorem eL_law_1486 : DD cL_law 1486 (.aload_n 0) 1 1487 := ⟨by decide +kernel, rfl⟩
theorem eL_law_1487 : DD cL_law 1487 (.iload 4) 2 1489 := ⟨by decide +kernel, rfl⟩
theorem eL_law_1489 : DD cL_law 1489 (.iconst 3) 1 1490 := ⟨by decide +kernel, rfl⟩
theorem eL_law_1490 : DD cL_law 1490 (.iadd) 1 1491 := ⟨by decide +kernel, rfl⟩
theorem eL_law_1491 : DD cL_law 1491 (.iaload) 1 1492 := ⟨by decide +kernel, rfl⟩
theorem eL_law_1492 : DD cL_law 1492 (.invokevirtual 145) 3 1495 := ⟨by decide +kernel, rfl⟩
theorem eL_law_1495 : DD cL_law 1495 (.aload_n 2) 1 1496 := ⟨by decide +kernel, rfl⟩
theorem eL_law_1496 : DD cL_law 1496 (.aload_n 0) 1 1497 := ⟨by decide +kernel, rfl⟩
theorem eL_law_1497 : DD cL_law 1497 (.iload 4) 2 1499 := ⟨by decide +kernel, rfl⟩
theorem eL_law_1499 : DD cL_law 1499 (.iconst 1) 1 1500 := ⟨by decide +kernel, rfl⟩
theorem eL_law_1500 : DD cL_law 1500 (.iadd) 1 1501 := ⟨by decide +kernel, rfl⟩
theorem eL_law_1501 : DD cL_law 1501 (.iaload) 1 1502 := ⟨by decide +kernel, rfl⟩
theorem eL_law_1502 : DD cL_law 1502 (.aload_n 0) 1 1503 := ⟨by decide +kernel, rfl⟩
theorem eL_law_1503 : DD cL_law 1503 (.iload 4) 2 1505 := ⟨by decide +kernel, rfl⟩
theorem eL_law_1505 : DD cL_law 1505 (.iconst 2) 1 1506 := ⟨by decide +kernel, rfl⟩
theorem eL_law_1506 : DD cL_law 1506 (.iadd) 1 1507 := ⟨by decide +kernel, rfl⟩
theorem eL_law_1507 : DD cL_law 1507 (.iaload) 1 1508 := ⟨by decide +kernel, rfl⟩
theorem eL_law_1508 : DD cL_law 1508 (.aload_n 0) 1 1509 := ⟨by decide +kernel, rfl⟩
theorem eL_law_1509 : DD cL_law 1509 (.iload 4) 2 1511 := ⟨by decide +kernel, rfl⟩
theorem eL_law_1511 : DD cL_law 1511 (.iconst 3) 1 1512 := ⟨by decide +kernel, rfl⟩
theorem eL_law_1512 : DD cL_law 1512 (.iadd) 1 1513 := ⟨by decide +kernel, rfl⟩
theorem eL_law_1513 : DD cL_law 1513 (.iaload) 1 1514 := ⟨by decide +kernel, rfl⟩
theorem eL_law_1514 : DD cL_law 1514 (.invokevirtual 148) 3 1517 := ⟨by decide +kernel, rfl⟩
theorem eL_law_1517 : DB cL_law 1517 (.if_icmp .eq 229) (229) 1520 1746 := ⟨by decide +kernel, rfl, by decide⟩
def Z_27 (L : Nat) (ys : Nat → Int32) (kc : Int32 → Mem → Option Unit) (x4 : Int32) (μ : Mem) : Option Unit :=
  gq (inB (x4 + (1 : Int32)) L) (gq (inB (x4 + (2 : Int32)) L) (gq (inB (x4 + (3 : Int32)) L) (bd (G_X10_narrow (ys (nx (x4 + (1 : Int32)))) (ys (nx (x4 + (2 : Int32)))) (ys (nx (x4 + (3 : Int32)))) μ) (fun r_2 μ_1 => gq (inB (x4 + (1 : Int32)) L) (gq (inB (x4 + (2 : Int32)) L) (gq (inB (x4 + (3 : Int32)) L) (bd (G_X11_narrow (ys (nx (x4 + (1 : Int32)))) (ys (nx (x4 + (2 : Int32)))) (ys (nx (x4 + (3 : Int32)))) μ_1) (fun r_4 μ_3 => if r_2 = r_4 then kc x4 μ_3 else none))))))))
set_option maxHeartbeats 4000000 in
theorem z_27 {C : Cx} (hC : Ok C cL_law 7 RL room_1) {K : Unit → State → Prop} {b L : Nat} {ys : Nat → Int32} (hs : SC C b L ys) (kc : Int32 → Mem → Option Unit) (hk : ∀ (x4 : Int32) (μ : Mem), J C K μ 1746 [(0, .ref b), (1, .ref (xad (cX C) 0)), (2, .ref (xad (cX C) 107)), (3, .ref (xad (cX C) 126)), (4, .int x4)] [] (kc x4 μ)) (x4 : Int32) (μ : Mem) : J C K μ 1473 [(0, .ref b), (1, .ref (xad (cX C) 0)), (2, .ref (xad (cX C) 107)), (3, .ref (xad (cX C) 126)), (4, .int x4)] [] (Z_27 L ys kc x4 μ) := by
  unfold Z_27
  refine J.aload_n (j := 1) hC eL_law_1473 rfl ?_
  refine J.aload_n (j := 0) hC eL_law_1474 rfl ?_
  refine J.iload (j := 4) hC eL_law_1475 rfl ?_
  refine J.iconst hC eL_law_1477 ci_1 ?_
  refine J.iadd hC eL_law_1478 ?_
  refine J.sld hC hs eL_law_1479 ?_
  refine J.aload_n (j := 0) hC eL_law_1480 rfl ?_
  refine J.iload (j := 4) hC eL_law_1481 rfl ?_
  refine J.iconst hC eL_law_1483 ci_2 ?_
  refine J.iadd hC eL_law_1484 ?_
  refine J.sld hC hs eL_law_1485 ?_
  refine J.aload_n (j := 0) hC eL_law_1486 rfl ?_
  refine J.iload (j := 4) hC eL_law_1487 rfl ?_
  refine J.iconst hC eL_law_1489 ci_3 ?_
  refine J.iadd hC eL_law_1490 ?_
  refine J.sld hC hs eL_law_1491 ?_
  refine J.callVI (st := []) hC eL_law_1492 kk_0 (by decide) rfl rfl ml_L_145 mv_X10_narrow ⟨rfl, rfl, Nat.le_of_ble_eq_true rfl, Nat.le_of_ble_eq_true rfl⟩ (c_X10_narrow hC.X (ys (nx (x4 + (1 : Int32)))) (ys (nx (x4 + (2 : Int32)))) (ys (nx (x4 + (3 : Int32)))) μ) rfl rfl (Nat.le_of_ble_eq_true rfl) (fun r_2 μ_1 => ?_)
  refine J.aload_n (j := 2) hC eL_law_1495 rfl ?_
  refine J.aload_n (j := 0) hC eL_law_1496 rfl ?_
  refine J.iload (j := 4) hC eL_law_1497 rfl ?_
  refine J.iconst hC eL_law_1499 ci_1 ?_
  refine J.iadd hC eL_law_1500 ?_
  refine J.sld hC hs eL_law_1501 ?_
  refine J.aload_n (j := 0) hC eL_law_1502 rfl ?_
  refine J.iload (j := 4) hC eL_law_1503 rfl ?_
  refine J.iconst hC eL_law_1505 ci_2 ?_
  refine J.iadd hC eL_law_1506 ?_
  refine J.sld hC hs eL_law_1507 ?_
  refine J.aload_n (j := 0) hC eL_law_1508 rfl ?_
  refine J.iload (j := 4) hC eL_law_1509 rfl ?_
  refine J.iconst hC eL_law_1511 ci_3 ?_
  refine J.iadd hC eL_law_1512 ?_
  refine J.sld hC hs eL_law_1513 ?_
  refine J.callVI (st := [.int r_2]) hC eL_law_1514 kk_107 (by decide) rfl rfl ml_L_148 mv_X11_narrow ⟨rfl, rfl, Nat.le_of_ble_eq_true rfl, Nat.le_of_ble_eq_true rfl⟩ (c_X11_narrow hC.X (ys (nx (x4 + (1 : Int32)))) (ys (nx (x4 + (2 : Int32)))) (ys (nx (x4 + (3 : Int32)))) μ_1) rfl rfl (Nat.le_of_ble_eq_true rfl) (fun r_4 μ_3 => ?_)
  refine J.icmp_eq hC eL_law_1517 (fun _ => ?_) (fun _ => ?_)
  · refine J.sub [0, 1, 2, 3, 4] rfl ?_
    exact hk x4 μ_3
  · exact J.no
theorem eL_law_1522 : DD cL_law 1522 (.aload_n 1) 1 1523 := ⟨by decide +kernel, rfl⟩
theorem eL_law_1523 : DD cL_law 1523 (.aload_n 0) 1 1524 := ⟨by decide +kernel, rfl⟩
theorem eL_law_1524 : DD cL_law 1524 (.iload 4) 2 1526 := ⟨by decide +kernel, rfl⟩
theorem eL_law_1526 : DD cL_law 1526 (.iconst 1) 1 1527 := ⟨by decide +kernel, rfl⟩
theorem eL_law_1527 : DD cL_law 1527 (.iadd) 1 1528 := ⟨by decide +kernel, rfl⟩
theorem eL_law_1528 : DD cL_law 1528 (.iaload) 1 1529 := ⟨by decide +kernel, rfl⟩
theorem eL_law_1529 : DD cL_law 1529 (.aload_n 0) 1 1530 := ⟨by decide +kernel, rfl⟩
theorem eL_law_1530 : DD cL_law 1530 (.iload 4) 2 1532 := ⟨by decide +kernel, rfl⟩
theorem eL_law_1532 : DD cL_law 1532 (.iconst 2) 1 1533 := ⟨by decide +kernel, rfl⟩
theorem eL_law_1533 : DD cL_law 1533 (.iadd) 1 1534 := ⟨by decide +kernel, rfl⟩
theorem eL_law_1534 : DD cL_law 1534 (.iaload) 1 1535 := ⟨by decide +kernel, rfl⟩
theorem eL_law_1535 : DD cL_law 1535 (.aload_n 0) 1 1536 := ⟨by decide +kernel, rfl⟩
theorem eL_law_1536 : DD cL_law 1536 (.iload 4) 2 1538 := ⟨by decide +kernel, rfl⟩
theorem eL_law_1538 : DD cL_law 1538 (.iconst 3) 1 1539 := ⟨by decide +kernel, rfl⟩
theorem eL_law_1539 : DD cL_law 1539 (.iadd) 1 1540 := ⟨by decide +kernel, rfl⟩
theorem eL_law_1540 : DD cL_law 1540 (.iaload) 1 1541 := ⟨by decide +kernel, rfl⟩
theorem eL_law_1541 : DD cL_law 1541 (.aload_n 0) 1 1542 := ⟨by decide +kernel, rfl⟩
theorem eL_law_1542 : DD cL_law 1542 (.iload 4) 2 1544 := ⟨by decide +kernel, rfl⟩
theorem eL_law_1544 : DD cL_law 1544 (.iconst 4) 1 1545 := ⟨by decide +kernel, rfl⟩
theorem eL_law_1545 : DD cL_law 1545 (.iadd) 1 1546 := ⟨by decide +kernel, rfl⟩
theorem eL_law_1546 : DD cL_law 1546 (.iaload) 1 1547 := ⟨by decide +kernel, rfl⟩
theorem eL_law_1547 : DD cL_law 1547 (.invokevirtual 149) 3 1550 := ⟨by decide +kernel, rfl⟩
theorem eL_law_1550 : DD cL_law 1550 (.aload_n 2) 1 1551 := ⟨by decide +kernel, rfl⟩
theorem eL_law_1551 : DD cL_law 1551 (.aload_n 0) 1 1552 := ⟨by decide +kernel, rfl⟩
theorem eL_law_1552 : DD cL_law 1552 (.iload 4) 2 1554 := ⟨by decide +kernel, rfl⟩
theorem eL_law_1554 : DD cL_law 1554 (.iconst 1) 1 1555 := ⟨by decide +kernel, rfl⟩
theorem eL_law_1555 : DD cL_law 1555 (.iadd) 1 1556 := ⟨by decide +kernel, rfl⟩
theorem eL_law_1556 : DD cL_law 1556 (.iaload) 1 1557 := ⟨by decide +kernel, rfl⟩
theorem eL_law_1557 : DD cL_law 1557 (.aload_n 0) 1 1558 := ⟨by decide +kernel, rfl⟩
theorem eL_law_1558 : DD cL_law 1558 (.iload 4) 2 1560 := ⟨by decide +kernel, rfl⟩
theorem eL_law_1560 : DD cL_law 1560 (.iconst 2) 1 1561 := ⟨by decide +kernel, rfl⟩
theorem eL_law_1561 : DD cL_law 1561 (.iadd) 1 1562 := ⟨by decide +kernel, rfl⟩
theorem eL_law_1562 : DD cL_law 1562 (.iaload) 1 1563 := ⟨by decide +kernel, rfl⟩
theorem eL_law_1563 : DD cL_law 1563 (.aload_n 0) 1 1564 := ⟨by decide +kernel, rfl⟩
theorem eL_law_1564 : DD cL_law 1564 (.iload 4) 2 1566 := ⟨by decide +kernel, rfl⟩
theorem eL_law_1566 : DD cL_law 1566 (.iconst 3) 1 1567 := ⟨by decide +kernel, rfl⟩
theorem eL_law_1567 : DD cL_law 1567 (.iadd) 1 1568 := ⟨by decide +kernel, rfl⟩
theorem eL_law_1568 : DD cL_law 1568 (.iaload) 1 1569 := ⟨by decide +kernel, rfl⟩
theorem eL_law_1569 : DD cL_law 1569 (.aload_n 0) 1 1570 := ⟨by decide +kernel, rfl⟩
theorem eL_law_1570 : DD cL_law 1570 (.iload 4) 2 1572 := ⟨by decide +kernel, rfl⟩
theorem eL_law_1572 : DD cL_law 1572 (.iconst 4) 1 1573 := ⟨by decide +kernel, rfl⟩
theorem eL_law_1573 : DD cL_law 1573 (.iadd) 1 1574 := ⟨by decide +kernel, rfl⟩
theorem eL_law_1574 : DD cL_law 1574 (.iaload) 1 1575 := ⟨by decide +kernel, rfl⟩
theorem eL_law_1575 : DD cL_law 1575 (.invokevirtual 153) 3 1578 := ⟨by decide +kernel, rfl⟩
theorem eL_law_1578 : DD cL_law 1578 (.lcmp) 1 1579 := ⟨by decide +kernel, rfl⟩
theorem eL_law_1579 : DB cL_law 1579 (.ifCond .eq 167) (167) 1582 1746 := ⟨by decide +kernel, rfl, by decide⟩
def Z_28 (L : Nat) (ys : Nat → Int32) (kc : Int32 → Mem → Option Unit) (x4 : Int32) (μ : Mem) : Option Unit :=
  gq (inB (x4 + (1 : Int32)) L) (gq (inB (x4 + (2 : Int32)) L) (gq (inB (x4 + (3 : Int32)) L) (gq (inB (x4 + (4 : Int32)) L) (bd (G_X10_odds (ys (nx (x4 + (1 : Int32)))) (ys (nx (x4 + (2 : Int32)))) (ys (nx (x4 + (3 : Int32)))) (ys (nx (x4 + (4 : Int32)))) μ) (fun r_2 μ_1 => gq (inB (x4 + (1 : Int32)) L) (gq (inB (x4 + (2 : Int32)) L) (gq (inB (x4 + (3 : Int32)) L) (gq (inB (x4 + (4 : Int32)) L) (bd (G_X11_odds (ys (nx (x4 + (1 : Int32)))) (ys (nx (x4 + (2 : Int32)))) (ys (nx (x4 + (3 : Int32)))) (ys (nx (x4 + (4 : Int32)))) μ_1) (fun r_4 μ_3 => if (lg_cmp r_2 r_4) = 0 then kc x4 μ_3 else none))))))))))
set_option maxHeartbeats 4000000 in
theorem z_28 {C : Cx} (hC : Ok C cL_law 7 RL room_1) {K : Unit → State → Prop} {b L : Nat} {ys : Nat → Int32} (hs : SC C b L ys) (kc : Int32 → Mem → Option Unit) (hk : ∀ (x4 : Int32) (μ : Mem), J C K μ 1746 [(0, .ref b), (1, .ref (xad (cX C) 0)), (2, .ref (xad (cX C) 107)), (3, .ref (xad (cX C) 126)), (4, .int x4)] [] (kc x4 μ)) (x4 : Int32) (μ : Mem) : J C K μ 1522 [(0, .ref b), (1, .ref (xad (cX C) 0)), (2, .ref (xad (cX C) 107)), (3, .ref (xad (cX C) 126)), (4, .int x4)] [] (Z_28 L ys kc x4 μ) := by
  unfold Z_28
  refine J.aload_n (j := 1) hC eL_law_1522 rfl ?_
  refine J.aload_n (j := 0) hC eL_law_1523 rfl ?_
  refine J.iload (j := 4) hC eL_law_1524 rfl ?_
  refine J.iconst hC eL_law_1526 ci_1 ?_
  refine J.iadd hC eL_law_1527 ?_
  refine J.sld hC hs eL_law_1528 ?_
  refine J.aload_n (j := 0) hC eL_law_1529 rfl ?_
  refine J.iload (j := 4) hC eL_law_1530 rfl ?_
  refine J.iconst hC eL_law_1532 ci_2 ?_
  refine J.iadd hC eL_law_1533 ?_
  refine J.sld hC hs eL_law_1534 ?_
  refine J.aload_n (j := 0) hC eL_law_1535 rfl ?_
  refine J.iload (j := 4) hC eL_law_1536 rfl ?_
  refine J.iconst hC eL_law_1538 ci_3 ?_
  refine J.iadd hC eL_law_1539 ?_
  refine J.sld hC hs eL_law_1540 ?_
  refine J.aload_n (j := 0) hC eL_law_1541 rfl ?_
  refine J.iload (j := 4) hC eL_law_1542 rfl ?_
  refine J.iconst hC eL_law_1544 ci_4 ?_
  refine J.iadd hC eL_law_1545 ?_
  refine J.sld hC hs eL_law_1546 ?_
  refine J.callVL (st := []) hC eL_law_1547 kk_0 (by decide) rfl rfl ml_L_149 mv_X10_odds ⟨rfl, rfl, Nat.le_of_ble_eq_true rfl, Nat.le_of_ble_eq_true rfl⟩ (c_X10_odds hC.X (ys (nx (x4 + (1 : Int32)))) (ys (nx (x4 + (2 : Int32)))) (ys (nx (x4 + (3 : Int32)))) (ys (nx (x4 + (4 : Int32)))) μ) rfl rfl (Nat.le_of_ble_eq_true rfl) (fun r_2 μ_1 => ?_)
  refine J.aload_n (j := 2) hC eL_law_1550 rfl ?_
  refine J.aload_n (j := 0) hC eL_law_1551 rfl ?_
  refine J.iload (j := 4) hC eL_law_1552 rfl ?_
  refine J.iconst hC eL_law_1554 ci_1 ?_
  refine J.iadd hC eL_law_1555 ?_
  refine J.sld hC hs eL_law_1556 ?_
  refine J.aload_n (j := 0) hC eL_law_1557 rfl ?_
  refine J.iload (j := 4) hC eL_law_1558 rfl ?_
  refine J.iconst hC eL_law_1560 ci_2 ?_
  refine J.iadd hC eL_law_1561 ?_
  refine J.sld hC hs eL_law_1562 ?_
  refine J.aload_n (j := 0) hC eL_law_1563 rfl ?_
  refine J.iload (j := 4) hC eL_law_1564 rfl ?_
  refine J.iconst hC eL_law_1566 ci_3 ?_
  refine J.iadd hC eL_law_1567 ?_
  refine J.sld hC hs eL_law_1568 ?_
  refine J.aload_n (j := 0) hC eL_law_1569 rfl ?_
  refine J.iload (j := 4) hC eL_law_1570 rfl ?_
  refine J.iconst hC eL_law_1572 ci_4 ?_
  refine J.iadd hC eL_law_1573 ?_
  refine J.sld hC hs eL_law_1574 ?_
  refine J.callVL (st := [.long r_2]) hC eL_law_1575 kk_107 (by decide) rfl rfl ml_L_153 mv_X11_odds ⟨rfl, rfl, Nat.le_of_ble_eq_true rfl, Nat.le_of_ble_eq_true rfl⟩ (c_X11_odds hC.X (ys (nx (x4 + (1 : Int32)))) (ys (nx (x4 + (2 : Int32)))) (ys (nx (x4 + (3 : Int32)))) (ys (nx (x4 + (4 : Int32)))) μ_1) rfl rfl (Nat.le_of_ble_eq_true rfl) (fun r_4 μ_3 => ?_)
  refine J.lcmp hC eL_law_1578 ?_
  refine J.if_eq hC eL_law_1579 (fun _ => ?_) (fun _ => ?_)
  · refine J.sub [0, 1, 2, 3, 4] rfl ?_
    exact hk x4 μ_3
  · exact J.no
theorem eL_law_1584 : DD cL_law 1584 (.aload_n 1) 1 1585 := ⟨by decide +kernel, rfl⟩
theorem eL_law_1585 : DD cL_law 1585 (.aload_n 0) 1 1586 := ⟨by decide +kernel, rfl⟩
theorem eL_law_1586 : DD cL_law 1586 (.iload 4) 2 1588 := ⟨by decide +kernel, rfl⟩
theorem eL_law_1588 : DD cL_law 1588 (.iconst 1) 1 1589 := ⟨by decide +kernel, rfl⟩
theorem eL_law_1589 : DD cL_law 1589 (.iadd) 1 1590 := ⟨by decide +kernel, rfl⟩
theorem eL_law_1590 : DD cL_law 1590 (.iaload) 1 1591 := ⟨by decide +kernel, rfl⟩
theorem eL_law_1591 : DD cL_law 1591 (.aload_n 0) 1 1592 := ⟨by decide +kernel, rfl⟩
theorem eL_law_1592 : DD cL_law 1592 (.iload 4) 2 1594 := ⟨by decide +kernel, rfl⟩
theorem eL_law_1594 : DD cL_law 1594 (.iconst 2) 1 1595 := ⟨by decide +kernel, rfl⟩
theorem eL_law_1595 : DD cL_law 1595 (.iadd) 1 1596 := ⟨by decide +kernel, rfl⟩
theorem eL_law_1596 : DD cL_law 1596 (.iaload) 1 1597 := ⟨by decide +kernel, rfl⟩
theorem eL_law_1597 : DD cL_law 1597 (.aload_n 0) 1 1598 := ⟨by decide +kernel, rfl⟩
theorem eL_law_1598 : DD cL_law 1598 (.iload 4) 2 1600 := ⟨by decide +kernel, rfl⟩
theorem eL_law_1600 : DD cL_law 1600 (.iconst 3) 1 1601 := ⟨by decide +kernel, rfl⟩
theorem eL_law_1601 : DD cL_law 1601 (.iadd) 1 1602 := ⟨by decide +kernel, rfl⟩
theorem eL_law_1602 : DD cL_law 1602 (.iaload) 1 1603 := ⟨by decide +kernel, rfl⟩
theorem eL_law_1603 : DD cL_law 1603 (.invokevirtual 154) 3 1606 := ⟨by decide +kernel, rfl⟩
theorem eL_law_1606 : DD cL_law 1606 (.aload_n 2) 1 1607 := ⟨by decide +kernel, rfl⟩
theorem eL_law_1607 : DD cL_law 1607 (.aload_n 0) 1 1608 := ⟨by decide +kernel, rfl⟩
theorem eL_law_1608 : DD cL_law 1608 (.iload 4) 2 1610 := ⟨by decide +kernel, rfl⟩
theorem eL_law_1610 : DD cL_law 1610 (.iconst 1) 1 1611 := ⟨by decide +kernel, rfl⟩
theorem eL_law_1611 : DD cL_law 1611 (.iadd) 1 1612 := ⟨by decide +kernel, rfl⟩
theorem eL_law_1612 : DD cL_law 1612 (.iaload) 1 1613 := ⟨by decide +kernel, rfl⟩
theorem eL_law_1613 : DD cL_law 1613 (.aload_n 0) 1 1614 := ⟨by decide +kernel, rfl⟩
theorem eL_law_1614 : DD cL_law 1614 (.iload 4) 2 1616 := ⟨by decide +kernel, rfl⟩
theorem eL_law_1616 : DD cL_law 1616 (.iconst 2) 1 1617 := ⟨by decide +kernel, rfl⟩
theorem eL_law_1617 : DD cL_law 1617 (.iadd) 1 1618 := ⟨by decide +kernel, rfl⟩
theorem eL_law_1618 : DD cL_law 1618 (.iaload) 1 1619 := ⟨by decide +kernel, rfl⟩
theorem eL_law_1619 : DD cL_law 1619 (.aload_n 0) 1 1620 := ⟨by decide +kernel, rfl⟩
theorem eL_law_1620 : DD cL_law 1620 (.iload 4) 2 1622 := ⟨by decide +kernel, rfl⟩
theorem eL_law_1622 : DD cL_law 1622 (.iconst 3) 1 1623 := ⟨by decide +kernel, rfl⟩
theorem eL_law_1623 : DD cL_law 1623 (.iadd) 1 1624 := ⟨by decide +kernel, rfl⟩
theorem eL_law_1624 : DD cL_law 1624 (.iaload) 1 1625 := ⟨by decide +kernel, rfl⟩
theorem eL_law_1625 : DD cL_law 1625 (.invokevirtual 157) 3 1628 := ⟨by decide +kernel, rfl⟩
theorem eL_law_1628 : DB cL_law 1628 (.if_icmp .eq 118) (118) 1631 1746 := ⟨by decide +kernel, rfl, by decide⟩
def Z_29 (L : Nat) (ys : Nat → Int32) (kc : Int32 → Mem → Option Unit) (x4 : Int32) (μ : Mem) : Option Unit :=
  gq (inB (x4 + (1 : Int32)) L) (gq (inB (x4 + (2 : Int32)) L) (gq (inB (x4 + (3 : Int32)) L) (bd (G_X10_unit (ys (nx (x4 + (1 : Int32)))) (ys (nx (x4 + (2 : Int32)))) (ys (nx (x4 + (3 : Int32)))) μ) (fun r_2 μ_1 => gq (inB (x4 + (1 : Int32)) L) (gq (inB (x4 + (2 : Int32)) L) (gq (inB (x4 + (3 : Int32)) L) (bd (G_X11_unit (ys (nx (x4 + (1 : Int32)))) (ys (nx (x4 + (2 : Int32)))) (ys (nx (x4 + (3 : Int32)))) μ_1) (fun r_4 μ_3 => if r_2 = r_4 then kc x4 μ_3 else none))))))))
set_option maxHeartbeats 4000000 in
theorem z_29 {C : Cx} (hC : Ok C cL_law 7 RL room_1) {K : Unit → State → Prop} {b L : Nat} {ys : Nat → Int32} (hs : SC C b L ys) (kc : Int32 → Mem → Option Unit) (hk : ∀ (x4 : Int32) (μ : Mem), J C K μ 1746 [(0, .ref b), (1, .ref (xad (cX C) 0)), (2, .ref (xad (cX C) 107)), (3, .ref (xad (cX C) 126)), (4, .int x4)] [] (kc x4 μ)) (x4 : Int32) (μ : Mem) : J C K μ 1584 [(0, .ref b), (1, .ref (xad (cX C) 0)), (2, .ref (xad (cX C) 107)), (3, .ref (xad (cX C) 126)), (4, .int x4)] [] (Z_29 L ys kc x4 μ) := by
  unfold Z_29
  refine J.aload_n (j := 1) hC eL_law_1584 rfl ?_
  refine J.aload_n (j := 0) hC eL_law_1585 rfl ?_
  refine J.iload (j := 4) hC eL_law_1586 rfl ?_
  refine J.iconst hC eL_law_1588 ci_1 ?_
  refine J.iadd hC eL_law_1589 ?_
  refine J.sld hC hs eL_law_1590 ?_
  refine J.aload_n (j := 0) hC eL_law_1591 rfl ?_
  refine J.iload (j := 4) hC eL_law_1592 rfl ?_
  refine J.iconst hC eL_law_1594 ci_2 ?_
  refine J.iadd hC eL_law_1595 ?_
  refine J.sld hC hs eL_law_1596 ?_
  refine J.aload_n (j := 0) hC eL_law_1597 rfl ?_
  refine J.iload (j := 4) hC eL_law_1598 rfl ?_
  refine J.iconst hC eL_law_1600 ci_3 ?_
  refine J.iadd hC eL_law_1601 ?_
  refine J.sld hC hs eL_law_1602 ?_
  refine J.callVI (st := []) hC eL_law_1603 kk_0 (by decide) rfl rfl ml_L_154 mv_X10_unit ⟨rfl, rfl, Nat.le_of_ble_eq_true rfl, Nat.le_of_ble_eq_true rfl⟩ (c_X10_unit hC.X (ys (nx (x4 + (1 : Int32)))) (ys (nx (x4 + (2 : Int32)))) (ys (nx (x4 + (3 : Int32)))) μ) rfl rfl (Nat.le_of_ble_eq_true rfl) (fun r_2 μ_1 => ?_)
  refine J.aload_n (j := 2) hC eL_law_1606 rfl ?_
  refine J.aload_n (j := 0) hC eL_law_1607 rfl ?_
  refine J.iload (j := 4) hC eL_law_1608 rfl ?_
  refine J.iconst hC eL_law_1610 ci_1 ?_
  refine J.iadd hC eL_law_1611 ?_
  refine J.sld hC hs eL_law_1612 ?_
  refine J.aload_n (j := 0) hC eL_law_1613 rfl ?_
  refine J.iload (j := 4) hC eL_law_1614 rfl ?_
  refine J.iconst hC eL_law_1616 ci_2 ?_
  refine J.iadd hC eL_law_1617 ?_
  refine J.sld hC hs eL_law_1618 ?_
  refine J.aload_n (j := 0) hC eL_law_1619 rfl ?_
  refine J.iload (j := 4) hC eL_law_1620 rfl ?_
  refine J.iconst hC eL_law_1622 ci_3 ?_
  refine J.iadd hC eL_law_1623 ?_
  refine J.sld hC hs eL_law_1624 ?_
  refine J.callVI (st := [.int r_2]) hC eL_law_1625 kk_107 (by decide) rfl rfl ml_L_157 mv_X11_unit ⟨rfl, rfl, Nat.le_of_ble_eq_true rfl, Nat.le_of_ble_eq_true rfl⟩ (c_X11_unit hC.X (ys (nx (x4 + (1 : Int32)))) (ys (nx (x4 + (2 : Int32)))) (ys (nx (x4 + (3 : Int32)))) μ_1) rfl rfl (Nat.le_of_ble_eq_true rfl) (fun r_4 μ_3 => ?_)
  refine J.icmp_eq hC eL_law_1628 (fun _ => ?_) (fun _ => ?_)
  · refine J.sub [0, 1, 2, 3, 4] rfl ?_
    exact hk x4 μ_3
  · exact J.no
theorem eL_law_1633 : DD cL_law 1633 (.aload_n 1) 1 1634 := ⟨by decide +kernel, rfl⟩
theorem eL_law_1634 : DD cL_law 1634 (.aload_n 0) 1 1635 := ⟨by decide +kernel, rfl⟩
theorem eL_law_1635 : DD cL_law 1635 (.iload 4) 2 1637 := ⟨by decide +kernel, rfl⟩
theorem eL_law_1637 : DD cL_law 1637 (.iconst 1) 1 1638 := ⟨by decide +kernel, rfl⟩
theorem eL_law_1638 : DD cL_law 1638 (.iadd) 1 1639 := ⟨by decide +kernel, rfl⟩
theorem eL_law_1639 : DD cL_law 1639 (.iaload) 1 1640 := ⟨by decide +kernel, rfl⟩
theorem eL_law_1640 : DD cL_law 1640 (.aload_n 0) 1 1641 := ⟨by decide +kernel, rfl⟩
theorem eL_law_1641 : DD cL_law 1641 (.iload 4) 2 1643 := ⟨by decide +kernel, rfl⟩
theorem eL_law_1643 : DD cL_law 1643 (.iconst 2) 1 1644 := ⟨by decide +kernel, rfl⟩
theorem eL_law_1644 : DD cL_law 1644 (.iadd) 1 1645 := ⟨by decide +kernel, rfl⟩
theorem eL_law_1645 : DD cL_law 1645 (.iaload) 1 1646 := ⟨by decide +kernel, rfl⟩
theorem eL_law_1646 : DD cL_law 1646 (.invokevirtual 158) 3 1649 := ⟨by decide +kernel, rfl⟩
theorem eL_law_1649 : DD cL_law 1649 (.aload_n 2) 1 1650 := ⟨by decide +kernel, rfl⟩
theorem eL_law_1650 : DD cL_law 1650 (.aload_n 0) 1 1651 := ⟨by decide +kernel, rfl⟩
theorem eL_law_1651 : DD cL_law 1651 (.iload 4) 2 1653 := ⟨by decide +kernel, rfl⟩
theorem eL_law_1653 : DD cL_law 1653 (.iconst 1) 1 1654 := ⟨by decide +kernel, rfl⟩
theorem eL_law_1654 : DD cL_law 1654 (.iadd) 1 1655 := ⟨by decide +kernel, rfl⟩
theorem eL_law_1655 : DD cL_law 1655 (.iaload) 1 1656 := ⟨by decide +kernel, rfl⟩
theorem eL_law_1656 : DD cL_law 1656 (.aload_n 0) 1 1657 := ⟨by decide +kernel, rfl⟩
theorem eL_law_1657 : DD cL_law 1657 (.iload 4) 2 1659 := ⟨by decide +kernel, rfl⟩
theorem eL_law_1659 : DD cL_law 1659 (.iconst 2) 1 1660 := ⟨by decide +kernel, rfl⟩
theorem eL_law_1660 : DD cL_law 1660 (.iadd) 1 1661 := ⟨by decide +kernel, rfl⟩
theorem eL_law_1661 : DD cL_law 1661 (.iaload) 1 1662 := ⟨by decide +kernel, rfl⟩
theorem eL_law_1662 : DD cL_law 1662 (.invokevirtual 161) 3 1665 := ⟨by decide +kernel, rfl⟩
theorem eL_law_1665 : DB cL_law 1665 (.if_icmp .eq 81) (81) 1668 1746 := ⟨by decide +kernel, rfl, by decide⟩
def Z_30 (L : Nat) (ys : Nat → Int32) (kc : Int32 → Mem → Option Unit) (x4 : Int32) (μ : Mem) : Option Unit :=
  gq (inB (x4 + (1 : Int32)) L) (gq (inB (x4 + (2 : Int32)) L) (bd (G_X10_shares (ys (nx (x4 + (1 : Int32)))) (ys (nx (x4 + (2 : Int32)))) μ) (fun r_2 μ_1 => gq (inB (x4 + (1 : Int32)) L) (gq (inB (x4 + (2 : Int32)) L) (bd (G_X11_shares (ys (nx (x4 + (1 : Int32)))) (ys (nx (x4 + (2 : Int32)))) μ_1) (fun r_4 μ_3 => if r_2 = r_4 then kc x4 μ_3 else none))))))
set_option maxHeartbeats 4000000 in
theorem z_30 {C : Cx} (hC : Ok C cL_law 7 RL room_1) {K : Unit → State → Prop} {b L : Nat} {ys : Nat → Int32} (hs : SC C b L ys) (kc : Int32 → Mem → Option Unit) (hk : ∀ (x4 : Int32) (μ : Mem), J C K μ 1746 [(0, .ref b), (1, .ref (xad (cX C) 0)), (2, .ref (xad (cX C) 107)), (3, .ref (xad (cX C) 126)), (4, .int x4)] [] (kc x4 μ)) (x4 : Int32) (μ : Mem) : J C K μ 1633 [(0, .ref b), (1, .ref (xad (cX C) 0)), (2, .ref (xad (cX C) 107)), (3, .ref (xad (cX C) 126)), (4, .int x4)] [] (Z_30 L ys kc x4 μ) := by
  unfold Z_30
  refine J.aload_n (j := 1) hC eL_law_1633 rfl ?_
  refine J.aload_n (j := 0) hC eL_law_1634 rfl ?_
  refine J.iload (j := 4) hC eL_law_1635 rfl ?_
  refine J.iconst hC eL_law_1637 ci_1 ?_
  refine J.iadd hC eL_law_1638 ?_
  refine J.sld hC hs eL_law_1639 ?_
  refine J.aload_n (j := 0) hC eL_law_1640 rfl ?_
  refine J.iload (j := 4) hC eL_law_1641 rfl ?_
  refine J.iconst hC eL_law_1643 ci_2 ?_
  refine J.iadd hC eL_law_1644 ?_
  refine J.sld hC hs eL_law_1645 ?_
  refine J.callVI (st := []) hC eL_law_1646 kk_0 (by decide) rfl rfl ml_L_158 mv_X10_shares ⟨rfl, rfl, Nat.le_of_ble_eq_true rfl, Nat.le_of_ble_eq_true rfl⟩ (c_X10_shares hC.X (ys (nx (x4 + (1 : Int32)))) (ys (nx (x4 + (2 : Int32)))) μ) rfl rfl (Nat.le_of_ble_eq_true rfl) (fun r_2 μ_1 => ?_)
  refine J.aload_n (j := 2) hC eL_law_1649 rfl ?_
  refine J.aload_n (j := 0) hC eL_law_1650 rfl ?_
  refine J.iload (j := 4) hC eL_law_1651 rfl ?_
  refine J.iconst hC eL_law_1653 ci_1 ?_
  refine J.iadd hC eL_law_1654 ?_
  refine J.sld hC hs eL_law_1655 ?_
  refine J.aload_n (j := 0) hC eL_law_1656 rfl ?_
  refine J.iload (j := 4) hC eL_law_1657 rfl ?_
  refine J.iconst hC eL_law_1659 ci_2 ?_
  refine J.iadd hC eL_law_1660 ?_
  refine J.sld hC hs eL_law_1661 ?_
  refine J.callVI (st := [.int r_2]) hC eL_law_1662 kk_107 (by decide) rfl rfl ml_L_161 mv_X11_shares ⟨rfl, rfl, Nat.le_of_ble_eq_true rfl, Nat.le_of_ble_eq_true rfl⟩ (c_X11_shares hC.X (ys (nx (x4 + (1 : Int32)))) (ys (nx (x4 + (2 : Int32)))) μ_1) rfl rfl (Nat.le_of_ble_eq_true rfl) (fun r_4 μ_3 => ?_)
  refine J.icmp_eq hC eL_law_1665 (fun _ => ?_) (fun _ => ?_)
  · refine J.sub [0, 1, 2, 3, 4] rfl ?_
    exact hk x4 μ_3
  · exact J.no
