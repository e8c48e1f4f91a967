theorem k_61_17 : Cond.methodLink RL 144 yX11_worth ∈ wsL_law := mr_61 _ (List.mem_of_getElem? (i := 17) rfl)
theorem k_61_18 : Cond.instanceMethod yX11_worth ∈ wsL_law := mr_61 _ (List.mem_of_getElem? (i := 18) rfl)
theorem k_61_19 : Cond.selects RX11 yX11_worth yX11_worth ∈ wsL_law := mr_61 _ (List.mem_of_getElem? (i := 19) rfl)
theorem k_61_20 : Cond.code yX11_worth cX11_worth 5 (some .long) ∈ wsL_law := mr_61 _ (List.mem_of_getElem? (i := 20) rfl)
theorem k_62_14 : Cond.methodLink RL 148 yX11_cost ∈ wsL_law := mr_62 _ (List.mem_of_getElem? (i := 14) rfl)
theorem k_62_15 : Cond.instanceMethod yX11_cost ∈ wsL_law := mr_62 _ (List.mem_of_getElem? (i := 15) rfl)
theorem k_62_16 : Cond.selects RX11 yX11_cost yX11_cost ∈ wsL_law := mr_62 _ (List.mem_of_getElem? (i := 16) rfl)
theorem k_62_17 : Cond.code yX11_cost cX11_cost 6 (some .long) ∈ wsL_law := mr_62 _ (List.mem_of_getElem? (i := 17) rfl)
theorem k_62_3 : Cond.methodLink RL 147 yX12_worth ∈ wsL_law := mr_62 _ (List.mem_of_getElem? (i := 3) rfl)
theorem k_62_4 : Cond.instanceMethod yX12_worth ∈ wsL_law := mr_62 _ (List.mem_of_getElem? (i := 4) rfl)
theorem k_62_5 : Cond.selects RX12 yX12_worth yX12_worth ∈ wsL_law := mr_62 _ (List.mem_of_getElem? (i := 5) rfl)
theorem k_62_6 : Cond.code yX12_worth cX12_worth 5 (some .long) ∈ wsL_law := mr_62 _ (List.mem_of_getElem? (i := 6) rfl)
theorem k_63_10 : Cond.selects RX11 yX11_pressed yX11_pressed ∈ wsL_law := mr_63 _ (List.mem_of_getElem? (i := 10) rfl)
theorem k_63_11 : Cond.code yX11_pressed cX11_pressed 3 (some .long) ∈ wsL_law := mr_63 _ (List.mem_of_getElem? (i := 11) rfl)
theorem k_63_4 : Cond.methodLink RL 152 yX12_cost ∈ wsL_law := mr_63 _ (List.mem_of_getElem? (i := 4) rfl)
theorem k_63_5 : Cond.instanceMethod yX12_cost ∈ wsL_law := mr_63 _ (List.mem_of_getElem? (i := 5) rfl)
theorem k_63_6 : Cond.selects RX12 yX12_cost yX12_cost ∈ wsL_law := mr_63 _ (List.mem_of_getElem? (i := 6) rfl)
theorem k_63_7 : Cond.code yX12_cost cX12_cost 18 (some .long) ∈ wsL_law := mr_63 _ (List.mem_of_getElem? (i := 7) rfl)
theorem k_63_8 : Cond.methodLink RL 153 yX11_pressed ∈ wsL_law := mr_63 _ (List.mem_of_getElem? (i := 8) rfl)
theorem k_63_9 : Cond.instanceMethod yX11_pressed ∈ wsL_law := mr_63 _ (List.mem_of_getElem? (i := 9) rfl)
theorem k_64_0 : Cond.methodLink RL 157 yX12_pressed ∈ wsL_law := mr_64 _ (List.mem_of_getElem? (i := 0) rfl)
theorem k_64_1 : Cond.instanceMethod yX12_pressed ∈ wsL_law := mr_64 _ (List.mem_of_getElem? (i := 1) rfl)
theorem k_64_14 : Cond.methodLink RL 158 yX11_other ∈ wsL_law := mr_64 _ (List.mem_of_getElem? (i := 14) rfl)
theorem k_64_15 : Cond.instanceMethod yX11_other ∈ wsL_law := mr_64 _ (List.mem_of_getElem? (i := 15) rfl)
theorem k_64_16 : Cond.selects RX11 yX11_other yX11_other ∈ wsL_law := mr_64 _ (List.mem_of_getElem? (i := 16) rfl)
theorem k_64_17 : Cond.code yX11_other cX11_other 2 (some .int) ∈ wsL_law := mr_64 _ (List.mem_of_getElem? (i := 17) rfl)
theorem k_64_2 : Cond.selects RX12 yX12_pressed yX12_pressed ∈ wsL_law := mr_64 _ (List.mem_of_getElem? (i := 2) rfl)
theorem k_64_3 : Cond.code yX12_pressed cX12_pressed 3 (some .long) ∈ wsL_law := mr_64 _ (List.mem_of_getElem? (i := 3) rfl)
theorem k_65_10 : Cond.methodLink RL 161 yX12_other ∈ wsL_law := mr_65 _ (List.mem_of_getElem? (i := 10) rfl)
theorem k_65_11 : Cond.instanceMethod yX12_other ∈ wsL_law := mr_65 _ (List.mem_of_getElem? (i := 11) rfl)
theorem k_65_12 : Cond.selects RX12 yX12_other yX12_other ∈ wsL_law := mr_65 _ (List.mem_of_getElem? (i := 12) rfl)
theorem k_65_13 : Cond.code yX12_other cX12_other 9 (some .int) ∈ wsL_law := mr_65 _ (List.mem_of_getElem? (i := 13) rfl)
theorem k_65_14 : Cond.methodLink RL 162 yX11_beside ∈ wsL_law := mr_65 _ (List.mem_of_getElem? (i := 14) rfl)
theorem k_65_15 : Cond.instanceMethod yX11_beside ∈ wsL_law := mr_65 _ (List.mem_of_getElem? (i := 15) rfl)
theorem k_65_16 : Cond.selects RX11 yX11_beside yX11_beside ∈ wsL_law := mr_65 _ (List.mem_of_getElem? (i := 16) rfl)
theorem k_65_17 : Cond.code yX11_beside cX11_beside 3 (some .long) ∈ wsL_law := mr_65 _ (List.mem_of_getElem? (i := 17) rfl)
theorem k_65_23 : Cond.methodLink RL 165 yX12_beside ∈ wsL_law := mr_65 _ (List.mem_of_getElem? (i := 23) rfl)
theorem k_66_0 : Cond.instanceMethod yX12_beside ∈ wsL_law := mr_66 _ (List.mem_of_getElem? (i := 0) rfl)
theorem k_66_1 : Cond.selects RX12 yX12_beside yX12_beside ∈ wsL_law := mr_66 _ (List.mem_of_getElem? (i := 1) rfl)
theorem k_66_12 : Cond.methodLink RL 169 yX12_image ∈ wsL_law := mr_66 _ (List.mem_of_getElem? (i := 12) rfl)
theorem k_66_13 : Cond.instanceMethod yX12_image ∈ wsL_law := mr_66 _ (List.mem_of_getElem? (i := 13) rfl)
theorem k_66_14 : Cond.selects RX12 yX12_image yX12_image ∈ wsL_law := mr_66 _ (List.mem_of_getElem? (i := 14) rfl)
theorem k_66_15 : Cond.code yX12_image cX12_image 1 (some .int) ∈ wsL_law := mr_66 _ (List.mem_of_getElem? (i := 15) rfl)
theorem k_66_2 : Cond.code yX12_beside cX12_beside 10 (some .long) ∈ wsL_law := mr_66 _ (List.mem_of_getElem? (i := 2) rfl)
theorem k_66_21 : Cond.methodLink RL 170 yX11_restore ∈ wsL_law := mr_66 _ (List.mem_of_getElem? (i := 21) rfl)
theorem k_66_22 : Cond.instanceMethod yX11_restore ∈ wsL_law := mr_66 _ (List.mem_of_getElem? (i := 22) rfl)
theorem k_66_23 : Cond.selects RX11 yX11_restore yX11_restore ∈ wsL_law := mr_66 _ (List.mem_of_getElem? (i := 23) rfl)
theorem k_66_3 : Cond.methodLink RL 166 yX11_image ∈ wsL_law := mr_66 _ (List.mem_of_getElem? (i := 3) rfl)
theorem k_66_4 : Cond.instanceMethod yX11_image ∈ wsL_law := mr_66 _ (List.mem_of_getElem? (i := 4) rfl)
theorem k_66_5 : Cond.selects RX11 yX11_image yX11_image ∈ wsL_law := mr_66 _ (List.mem_of_getElem? (i := 5) rfl)
theorem k_66_6 : Cond.code yX11_image cX11_image 2 (some .int) ∈ wsL_law := mr_66 _ (List.mem_of_getElem? (i := 6) rfl)
theorem k_67_0 : Cond.code yX11_restore cX11_restore 2 (some .boolean) ∈ wsL_law := mr_67 _ (List.mem_of_getElem? (i := 0) rfl)
theorem k_67_1 : Cond.methodLink RL 173 yX12_restore ∈ wsL_law := mr_67 _ (List.mem_of_getElem? (i := 1) rfl)
theorem k_67_10 : Cond.instanceMethod yX12_count ∈ wsL_law := mr_67 _ (List.mem_of_getElem? (i := 10) rfl)
theorem k_67_11 : Cond.selects RX12 yX12_count yX12_count ∈ wsL_law := mr_67 _ (List.mem_of_getElem? (i := 11) rfl)
theorem k_67_12 : Cond.code yX12_count cX12_count 2 (some .int) ∈ wsL_law := mr_67 _ (List.mem_of_getElem? (i := 12) rfl)
theorem k_67_2 : Cond.instanceMethod yX12_restore ∈ wsL_law := mr_67 _ (List.mem_of_getElem? (i := 2) rfl)
theorem k_67_3 : Cond.selects RX12 yX12_restore yX12_restore ∈ wsL_law := mr_67 _ (List.mem_of_getElem? (i := 3) rfl)
theorem k_67_4 : Cond.code yX12_restore cX12_restore 2 (some .boolean) ∈ wsL_law := mr_67 _ (List.mem_of_getElem? (i := 4) rfl)
theorem k_67_5 : Cond.methodLink RL 174 yX11_count ∈ wsL_law := mr_67 _ (List.mem_of_getElem? (i := 5) rfl)
theorem k_67_6 : Cond.instanceMethod yX11_count ∈ wsL_law := mr_67 _ (List.mem_of_getElem? (i := 6) rfl)
theorem k_67_7 : Cond.selects RX11 yX11_count yX11_count ∈ wsL_law := mr_67 _ (List.mem_of_getElem? (i := 7) rfl)
theorem k_67_8 : Cond.code yX11_count cX11_count 2 (some .int) ∈ wsL_law := mr_67 _ (List.mem_of_getElem? (i := 8) rfl)
theorem k_67_9 : Cond.methodLink RL 177 yX12_count ∈ wsL_law := mr_67 _ (List.mem_of_getElem? (i := 9) rfl)
theorem dL_law_1453 : decode cL_law 1453 = .ok (.aload_n 1, 1) := by decide +kernel
theorem dL_law_1454 : decode cL_law 1454 = .ok (.aload_n 0, 1) := by decide +kernel
theorem dL_law_1455 : decode cL_law 1455 = .ok (.iload_n 3, 1) := by decide +kernel
theorem dL_law_1456 : decode cL_law 1456 = .ok (.iconst 1, 1) := by decide +kernel
theorem dL_law_1457 : decode cL_law 1457 = .ok (.iadd, 1) := by decide +kernel
theorem dL_law_1458 : decode cL_law 1458 = .ok (.iaload, 1) := by decide +kernel
theorem dL_law_1459 : decode cL_law 1459 = .ok (.aload_n 0, 1) := by decide +kernel
theorem dL_law_1460 : decode cL_law 1460 = .ok (.iload_n 3, 1) := by decide +kernel
theorem dL_law_1461 : decode cL_law 1461 = .ok (.iconst 2, 1) := by decide +kernel
theorem dL_law_1462 : decode cL_law 1462 = .ok (.iadd, 1) := by decide +kernel
theorem dL_law_1463 : decode cL_law 1463 = .ok (.iaload, 1) := by decide +kernel
theorem dL_law_1464 : decode cL_law 1464 = .ok (.aload_n 0, 1) := by decide +kernel
theorem dL_law_1465 : decode cL_law 1465 = .ok (.iload_n 3, 1) := by decide +kernel
theorem dL_law_1466 : decode cL_law 1466 = .ok (.iconst 3, 1) := by decide +kernel
theorem dL_law_1467 : decode cL_law 1467 = .ok (.iadd, 1) := by decide +kernel
theorem dL_law_1468 : decode cL_law 1468 = .ok (.iaload, 1) := by decide +kernel
theorem dL_law_1469 : decode cL_law 1469 = .ok (.aload_n 0, 1) := by decide +kernel
theorem dL_law_1470 : decode cL_law 1470 = .ok (.iload_n 3, 1) := by decide +kernel
theorem dL_law_1471 : decode cL_law 1471 = .ok (.iconst 4, 1) := by decide +kernel
theorem dL_law_1472 : decode cL_law 1472 = .ok (.iadd, 1) := by decide +kernel
theorem dL_law_1473 : decode cL_law 1473 = .ok (.iaload, 1) := by decide +kernel
theorem dL_law_1474 : decode cL_law 1474 = .ok (.invokevirtual 144, 3) := by decide +kernel
theorem dL_law_1477 : decode cL_law 1477 = .ok (.aload_n 2, 1) := by decide +kernel
theorem dL_law_1478 : decode cL_law 1478 = .ok (.aload_n 0, 1) := by decide +kernel
theorem dL_law_1479 : decode cL_law 1479 = .ok (.iload_n 3, 1) := by decide +kernel
theorem dL_law_1480 : decode cL_law 1480 = .ok (.iconst 1, 1) := by decide +kernel
theorem dL_law_1481 : decode cL_law 1481 = .ok (.iadd, 1) := by decide +kernel
theorem dL_law_1482 : decode cL_law 1482 = .ok (.iaload, 1) := by decide +kernel
theorem dL_law_1483 : decode cL_law 1483 = .ok (.aload_n 0, 1) := by decide +kernel
theorem dL_law_1484 : decode cL_law 1484 = .ok (.iload_n 3, 1) := by decide +kernel
theorem dL_law_1485 : decode cL_law 1485 = .ok (.iconst 2, 1) := by decide +kernel
theorem dL_law_1486 : decode cL_law 1486 = .ok (.iadd, 1) := by decide +kernel
theorem dL_law_1487 : decode cL_law 1487 = .ok (.iaload, 1) := by decide +kernel
theorem dL_law_1488 : decode cL_law 1488 = .ok (.aload_n 0, 1) := by decide +kernel
theorem dL_law_1489 : decode cL_law 1489 = .ok (.iload_n 3, 1) := by decide +kernel
theorem dL_law_1490 : decode cL_law 1490 = .ok (.iconst 3, 1) := by decide +kernel
theorem dL_law_1491 : decode cL_law 1491 = .ok (.iadd, 1) := by decide +kernel
theorem dL_law_1492 : decode cL_law 1492 = .ok (.iaload, 1) := by decide +kernel
theorem dL_law_1493 : decode cL_law 1493 = .ok (.aload_n 0, 1) := by decide +kernel
theorem dL_law_1494 : decode cL_law 1494 = .ok (.iload_n 3, 1) := by decide +kernel
theorem dL_law_1495 : decode cL_law 1495 = .ok (.iconst 4, 1) := by decide +kernel
theorem dL_law_1496 : decode cL_law 1496 = .ok (.iadd, 1) := by decide +kernel
theorem dL_law_1497 : decode cL_law 1497 = .ok (.iaload, 1) := by decide +kernel
theorem dL_law_1498 : decode cL_law 1498 = .ok (.invokevirtual 147, 3) := by decide +kernel
theorem dL_law_1501 : decode cL_law 1501 = .ok (.lcmp, 1) := by decide +kernel
theorem dL_law_1502 : decode cL_law 1502 = .ok (.ifCond .eq 219, 3) := by decide +kernel
theorem dL_law_1507 : decode cL_law 1507 = .ok (.aload_n 1, 1) := by decide +kernel
theorem dL_law_1508 : decode cL_law 1508 = .ok (.aload_n 0, 1) := by decide +kernel
theorem dL_law_1509 : decode cL_law 1509 = .ok (.iload_n 3, 1) := by decide +kernel
theorem dL_law_1510 : decode cL_law 1510 = .ok (.iconst 1, 1) := by decide +kernel
theorem dL_law_1511 : decode cL_law 1511 = .ok (.iadd, 1) := by decide +kernel
theorem dL_law_1512 : decode cL_law 1512 = .ok (.iaload, 1) := by decide +kernel
theorem dL_law_1513 : decode cL_law 1513 = .ok (.aload_n 0, 1) := by decide +kernel
theorem dL_law_1514 : decode cL_law 1514 = .ok (.iload_n 3, 1) := by decide +kernel
theorem dL_law_1515 : decode cL_law 1515 = .ok (.iconst 2, 1) := by decide +kernel
theorem dL_law_1516 : decode cL_law 1516 = .ok (.iadd, 1) := by decide +kernel
theorem dL_law_1517 : decode cL_law 1517 = .ok (.iaload, 1) := by decide +kernel
theorem dL_law_1518 : decode cL_law 1518 = .ok (.aload_n 0, 1) := by decide +kernel
theorem dL_law_1519 : decode cL_law 1519 = .ok (.iload_n 3, 1) := by decide +kernel
theorem dL_law_1520 : decode cL_law 1520 = .ok (.iconst 3, 1) := by decide +kernel
theorem dL_law_1521 : decode cL_law 1521 = .ok (.iadd, 1) := by decide +kernel
theorem dL_law_1522 : decode cL_law 1522 = .ok (.iaload, 1) := by decide +kernel
theorem dL_law_1523 : decode cL_law 1523 = .ok (.aload_n 0, 1) := by decide +kernel
theorem dL_law_1524 : decode cL_law 1524 = .ok (.iload_n 3, 1) := by decide +kernel
theorem dL_law_1525 : decode cL_law 1525 = .ok (.iconst 4, 1) := by decide +kernel
theorem dL_law_1526 : decode cL_law 1526 = .ok (.iadd, 1) := by decide +kernel
theorem dL_law_1527 : decode cL_law 1527 = .ok (.iaload, 1) := by decide +kernel
theorem dL_law_1528 : decode cL_law 1528 = .ok (.aload_n 0, 1) := by decide +kernel
theorem dL_law_1529 : decode cL_law 1529 = .ok (.iload_n 3, 1) := by decide +kernel
theorem dL_law_1530 : decode cL_law 1530 = .ok (.iconst 5, 1) := by decide +kernel
theorem dL_law_1531 : decode cL_law 1531 = .ok (.iadd, 1) := by decide +kernel
theorem dL_law_1532 : decode cL_law 1532 = .ok (.iaload, 1) := by decide +kernel
theorem dL_law_1533 : decode cL_law 1533 = .ok (.invokevirtual 148, 3) := by decide +kernel
theorem dL_law_1536 : decode cL_law 1536 = .ok (.aload_n 2, 1) := by decide +kernel
theorem dL_law_1537 : decode cL_law 1537 = .ok (.aload_n 0, 1) := by decide +kernel
theorem dL_law_1538 : decode cL_law 1538 = .ok (.iload_n 3, 1) := by decide +kernel
theorem dL_law_1539 : decode cL_law 1539 = .ok (.iconst 1, 1) := by decide +kernel
theorem dL_law_1540 : decode cL_law 1540 = .ok (.iadd, 1) := by decide +kernel
theorem dL_law_1541 : decode cL_law 1541 = .ok (.iaload, 1) := by decide +kernel
theorem dL_law_1542 : decode cL_law 1542 = .ok (.aload_n 0, 1) := by decide +kernel
theorem dL_law_1543 : decode cL_law 1543 = .ok (.iload_n 3, 1) := by decide +kernel
theorem dL_law_1544 : decode cL_law 1544 = .ok (.iconst 2, 1) := by decide +kernel
theorem dL_law_1545 : decode cL_law 1545 = .ok (.iadd, 1) := by decide +kernel
theorem dL_law_1546 : decode cL_law 1546 = .ok (.iaload, 1) := by decide +kernel
theorem dL_law_1547 : decode cL_law 1547 = .ok (.aload_n 0, 1) := by decide +kernel
theorem dL_law_1548 : decode cL_law 1548 = .ok (.iload_n 3, 1) := by decide +kernel
theorem dL_law_1549 : decode cL_law 1549 = .ok (.iconst 3, 1) := by decide +kernel
theorem dL_law_1550 : decode cL_law 1550 = .ok (.iadd, 1) := by decide +kernel
theorem dL_law_1551 : decode cL_law 1551 = .ok (.iaload, 1) := by decide +kernel
theorem dL_law_1552 : decode cL_law 1552 = .ok (.aload_n 0, 1) := by decide +kernel
theorem dL_law_1553 : decode cL_law 1553 = .ok (.iload_n 3, 1) := by decide +kernel
theorem dL_law_1554 : decode cL_law 1554 = .ok (.iconst 4, 1) := by decide +kernel
theorem dL_law_1555 : decode cL_law 1555 = .ok (.iadd, 1) := by decide +kernel
theorem dL_law_1556 : decode cL_law 1556 = .ok (.iaload, 1) := by decide +kernel
theorem dL_law_1557 : decode cL_law 1557 = .ok (.aload_n 0, 1) := by decide +kernel
theorem dL_law_1558 : decode cL_law 1558 = .ok (.iload_n 3, 1) := by decide +kernel
theorem dL_law_1559 : decode cL_law 1559 = .ok (.iconst 5, 1) := by decide +kernel
theorem dL_law_1560 : decode cL_law 1560 = .ok (.iadd, 1) := by decide +kernel
theorem dL_law_1561 : decode cL_law 1561 = .ok (.iaload, 1) := by decide +kernel
theorem dL_law_1562 : decode cL_law 1562 = .ok (.invokevirtual 152, 3) := by decide +kernel
theorem dL_law_1565 : decode cL_law 1565 = .ok (.lcmp, 1) := by decide +kernel
theorem dL_law_1566 : decode cL_law 1566 = .ok (.ifCond .eq 155, 3) := by decide +kernel
theorem dL_law_1571 : decode cL_law 1571 = .ok (.aload_n 1, 1) := by decide +kernel
theorem dL_law_1572 : decode cL_law 1572 = .ok (.aload_n 0, 1) := by decide +kernel
theorem dL_law_1573 : decode cL_law 1573 = .ok (.iload_n 3, 1) := by decide +kernel
theorem dL_law_1574 : decode cL_law 1574 = .ok (.iconst 1, 1) := by decide +kernel
theorem dL_law_1575 : decode cL_law 1575 = .ok (.iadd, 1) := by decide +kernel
theorem dL_law_1576 : decode cL_law 1576 = .ok (.iaload, 1) := by decide +kernel
theorem dL_law_1577 : decode cL_law 1577 = .ok (.aload_n 0, 1) := by decide +kernel
theorem dL_law_1578 : decode cL_law 1578 = .ok (.iload_n 3, 1) := by decide +kernel
theorem dL_law_1579 : decode cL_law 1579 = .ok (.iconst 2, 1) := by decide +kernel
theorem dL_law_1580 : decode cL_law 1580 = .ok (.iadd, 1) := by decide +kernel
theorem dL_law_1581 : decode cL_law 1581 = .ok (.iaload, 1) := by decide +kernel
theorem dL_law_1582 : decode cL_law 1582 = .ok (.invokevirtual 153, 3) := by decide +kernel
theorem dL_law_1585 : decode cL_law 1585 = .ok (.aload_n 2, 1) := by decide +kernel
theorem dL_law_1586 : decode cL_law 1586 = .ok (.aload_n 0, 1) := by decide +kernel
theorem dL_law_1587 : decode cL_law 1587 = .ok (.iload_n 3, 1) := by decide +kernel
theorem dL_law_1588 : decode cL_law 1588 = .ok (.iconst 1, 1) := by decide +kernel
theorem dL_law_1589 : decode cL_law 1589 = .ok (.iadd, 1) := by decide +kernel
theorem dL_law_1590 : decode cL_law 1590 = .ok (.iaload, 1) := by decide +kernel
theorem dL_law_1591 : decode cL_law 1591 = .ok (.aload_n 0, 1) := by decide +kernel
theorem dL_law_1592 : decode cL_law 1592 = .ok (.iload_n 3, 1) := by decide +kernel
theorem dL_law_1593 : decode cL_law 1593 = .ok (.iconst 2, 1) := by decide +kernel
theorem dL_law_1594 : decode cL_law 1594 = .ok (.iadd, 1) := by decide +kernel
theorem dL_law_1595 : decode cL_law 1595 = .ok (.iaload, 1) := by decide +kernel
theorem dL_law_1596 : decode cL_law 1596 = .ok (.invokevirtual 157, 3) := by decide +kernel
theorem dL_law_1599 : decode cL_law 1599 = .ok (.lcmp, 1) := by decide +kernel
theorem dL_law_1600 : decode cL_law 1600 = .ok (.ifCond .eq 121, 3) := by decide +kernel
theorem dL_law_1605 : decode cL_law 1605 = .ok (.aload_n 1, 1) := by decide +kernel
theorem dL_law_1606 : decode cL_law 1606 = .ok (.aload_n 0, 1) := by decide +kernel
theorem dL_law_1607 : decode cL_law 1607 = .ok (.iload_n 3, 1) := by decide +kernel
theorem dL_law_1608 : decode cL_law 1608 = .ok (.iconst 1, 1) := by decide +kernel
theorem dL_law_1609 : decode cL_law 1609 = .ok (.iadd, 1) := by decide +kernel
theorem dL_law_1610 : decode cL_law 1610 = .ok (.iaload, 1) := by decide +kernel
theorem dL_law_1611 : decode cL_law 1611 = .ok (.invokevirtual 158, 3) := by decide +kernel
theorem dL_law_1614 : decode cL_law 1614 = .ok (.aload_n 2, 1) := by decide +kernel
theorem dL_law_1615 : decode cL_law 1615 = .ok (.aload_n 0, 1) := by decide +kernel
theorem dL_law_1616 : decode cL_law 1616 = .ok (.iload_n 3, 1) := by decide +kernel
theorem dL_law_1617 : decode cL_law 1617 = .ok (.iconst 1, 1) := by decide +kernel
theorem dL_law_1618 : decode cL_law 1618 = .ok (.iadd, 1) := by decide +kernel
theorem dL_law_1619 : decode cL_law 1619 = .ok (.iaload, 1) := by decide +kernel
theorem dL_law_1620 : decode cL_law 1620 = .ok (.invokevirtual 161, 3) := by decide +kernel
theorem dL_law_1623 : decode cL_law 1623 = .ok (.if_icmp .eq 98, 3) := by decide +kernel
theorem dL_law_1628 : decode cL_law 1628 = .ok (.aload_n 1, 1) := by decide +kernel
theorem dL_law_1629 : decode cL_law 1629 = .ok (.aload_n 0, 1) := by decide +kernel
theorem dL_law_1630 : decode cL_law 1630 = .ok (.iload_n 3, 1) := by decide +kernel
theorem dL_law_1631 : decode cL_law 1631 = .ok (.iconst 1, 1) := by decide +kernel
theorem dL_law_1632 : decode cL_law 1632 = .ok (.iadd, 1) := by decide +kernel
theorem dL_law_1633 : decode cL_law 1633 = .ok (.iaload, 1) := by decide +kernel
theorem dL_law_1634 : decode cL_law 1634 = .ok (.aload_n 0, 1) := by decide +kernel
theorem dL_law_1635 : decode cL_law 1635 = .ok (.iload_n 3, 1) := by decide +kernel
theorem dL_law_1636 : decode cL_law 1636 = .ok (.iconst 2, 1) := by decide +kernel
theorem dL_law_1637 : decode cL_law 1637 = .ok (.iadd, 1) := by decide +kernel
theorem dL_law_1638 : decode cL_law 1638 = .ok (.iaload, 1) := by decide +kernel
theorem dL_law_1639 : decode cL_law 1639 = .ok (.invokevirtual 162, 3) := by decide +kernel
theorem dL_law_1642 : decode cL_law 1642 = .ok (.aload_n 2, 1) := by decide +kernel
theorem dL_law_1643 : decode cL_law 1643 = .ok (.aload_n 0, 1) := by decide +kernel
theorem dL_law_1644 : decode cL_law 1644 = .ok (.iload_n 3, 1) := by decide +kernel
theorem dL_law_1645 : decode cL_law 1645 = .ok (.iconst 1, 1) := by decide +kernel
theorem dL_law_1646 : decode cL_law 1646 = .ok (.iadd, 1) := by decide +kernel
theorem dL_law_1647 : decode cL_law 1647 = .ok (.iaload, 1) := by decide +kernel
theorem dL_law_1648 : decode cL_law 1648 = .ok (.aload_n 0, 1) := by decide +kernel
theorem dL_law_1649 : decode cL_law 1649 = .ok (.iload_n 3, 1) := by decide +kernel
theorem dL_law_1650 : decode cL_law 1650 = .ok (.iconst 2, 1) := by decide +kernel
theorem dL_law_1651 : decode cL_law 1651 = .ok (.iadd, 1) := by decide +kernel
theorem dL_law_1652 : decode cL_law 1652 = .ok (.iaload, 1) := by decide +kernel
theorem dL_law_1653 : decode cL_law 1653 = .ok (.invokevirtual 165, 3) := by decide +kernel
theorem dL_law_1656 : decode cL_law 1656 = .ok (.lcmp, 1) := by decide +kernel
theorem dL_law_1657 : decode cL_law 1657 = .ok (.ifCond .eq 64, 3) := by decide +kernel
theorem dL_law_1662 : decode cL_law 1662 = .ok (.aload_n 1, 1) := by decide +kernel
theorem dL_law_1663 : decode cL_law 1663 = .ok (.invokevirtual 166, 3) := by decide +kernel
theorem dL_law_1666 : decode cL_law 1666 = .ok (.aload_n 2, 1) := by decide +kernel
theorem dL_law_1667 : decode cL_law 1667 = .ok (.invokevirtual 169, 3) := by decide +kernel
theorem dL_law_1670 : decode cL_law 1670 = .ok (.if_icmp .eq 51, 3) := by decide +kernel
theorem dL_law_1675 : decode cL_law 1675 = .ok (.aload_n 1, 1) := by decide +kernel
theorem dL_law_1676 : decode cL_law 1676 = .ok (.aload_n 0, 1) := by decide +kernel
theorem dL_law_1677 : decode cL_law 1677 = .ok (.iload_n 3, 1) := by decide +kernel
theorem dL_law_1678 : decode cL_law 1678 = .ok (.iconst 1, 1) := by decide +kernel
theorem dL_law_1679 : decode cL_law 1679 = .ok (.iadd, 1) := by decide +kernel
theorem dL_law_1680 : decode cL_law 1680 = .ok (.iaload, 1) := by decide +kernel
theorem dL_law_1681 : decode cL_law 1681 = .ok (.invokevirtual 170, 3) := by decide +kernel
theorem dL_law_1684 : decode cL_law 1684 = .ok (.aload_n 2, 1) := by decide +kernel
theorem dL_law_1685 : decode cL_law 1685 = .ok (.aload_n 0, 1) := by decide +kernel
theorem dL_law_1686 : decode cL_law 1686 = .ok (.iload_n 3, 1) := by decide +kernel
theorem dL_law_1687 : decode cL_law 1687 = .ok (.iconst 1, 1) := by decide +kernel
theorem dL_law_1688 : decode cL_law 1688 = .ok (.iadd, 1) := by decide +kernel
theorem dL_law_1689 : decode cL_law 1689 = .ok (.iaload, 1) := by decide +kernel
theorem dL_law_1690 : decode cL_law 1690 = .ok (.invokevirtual 173, 3) := by decide +kernel
theorem dL_law_1693 : decode cL_law 1693 = .ok (.if_icmp .eq 28, 3) := by decide +kernel
theorem dL_law_1698 : decode cL_law 1698 = .ok (.aload_n 1, 1) := by decide +kernel
theorem dL_law_1699 : decode cL_law 1699 = .ok (.aload_n 0, 1) := by decide +kernel
theorem dL_law_1700 : decode cL_law 1700 = .ok (.iload_n 3, 1) := by decide +kernel
theorem dL_law_1701 : decode cL_law 1701 = .ok (.iconst 1, 1) := by decide +kernel
theorem dL_law_1702 : decode cL_law 1702 = .ok (.iadd, 1) := by decide +kernel
theorem dL_law_1703 : decode cL_law 1703 = .ok (.iaload, 1) := by decide +kernel
theorem dL_law_1704 : decode cL_law 1704 = .ok (.invokevirtual 174, 3) := by decide +kernel
theorem dL_law_1707 : decode cL_law 1707 = .ok (.aload_n 2, 1) := by decide +kernel
theorem dL_law_1708 : decode cL_law 1708 = .ok (.aload_n 0, 1) := by decide +kernel
theorem dL_law_1709 : decode cL_law 1709 = .ok (.iload_n 3, 1) := by decide +kernel
theorem dL_law_1710 : decode cL_law 1710 = .ok (.iconst 1, 1) := by decide +kernel
theorem dL_law_1711 : decode cL_law 1711 = .ok (.iadd, 1) := by decide +kernel
theorem dL_law_1712 : decode cL_law 1712 = .ok (.iaload, 1) := by decide +kernel
theorem dL_law_1713 : decode cL_law 1713 = .ok (.invokevirtual 177, 3) := by decide +kernel
theorem dL_law_1716 : decode cL_law 1716 = .ok (.if_icmp .eq 5, 3) := by decide +kernel
set_option maxHeartbeats 4000000 in
set_option maxRecDepth 100000 in
theorem law_c30 {p : Program} {e : Env} {s : State} {m : MethodId} {below : List Frame} {meth : Method} {c : Code} {l : Launch} {b : Nat} {xs : Nat → Int32} {D : va_G} {cI cJ cZ cB cO : ClassId} (K0 : LwC p s m meth c b xs D [(cI, .int), (cJ, .long), (cZ, .boolean), (cB, .byte), (cO, .object "LuckLinks$World")]) {u v : Nat → Nat} {H : Heap} {locs : List Loc} {ls : Array Slot} (X : Wd D (fun q : Nat => s.heap.size ≤ q) s (xW cI cJ cZ cB cO u ++ mW cI cJ cZ cB cO v) H locs) (hl : lv_has ls 4 [(3, .int (0 : Int32)), (2, .ref (v 0)), (1, .ref (u 0)), (0, .ref b)]) :
    W p l e room_1 s m #[Value.ref b] below meth c H locs 150 141288 (lw_Z below #[Value.ref b] s) (F0 m 1453 ls []) := by
  have C := K0.1
  have hx := C.1
  have hb := C.2.1
  have hX := K0.2.2.2.1
  have hbl := K0.2.2.2.2
  have hbA : ¬ (fun q : Nat => s.heap.size ≤ q) b := Nat.not_le.mpr hbl
  refine lv_aload_n hx hb dL_law_1453 rfl (lv_at hl 2 rfl) ?_
  refine lv_aload_n hx hb dL_law_1454 rfl (lv_at hl 3 rfl) ?_
  refine lv_iload_n hx hb dL_law_1455 rfl (lv_at hl 0 rfl) ?_
  refine lv_iconst (v := (1 : Int32)) hx hb dL_law_1456 (by decide) ?_
  refine lv_iadd hx hb dL_law_1457 ?_
  refine x_eqi (show (0 : Int32) + (1 : Int32) = (1 : Int32) from by decide +kernel) ?_
  refine va_sld hx hb hX hbl hbA X.2.2.1 (i := (1 : Int32)) (vp_in_nI (n := 1) (by omega) (by omega)) dL_law_1458 ?_
  refine x_eqi (show xs ((1 : Int32).toNatClampNeg) = xs 1 from rfl) ?_
  refine lv_aload_n hx hb dL_law_1459 rfl (lv_at hl 3 rfl) ?_
  refine lv_iload_n hx hb dL_law_1460 rfl (lv_at hl 0 rfl) ?_
  refine lv_iconst (v := (2 : Int32)) hx hb dL_law_1461 (by decide) ?_
  refine lv_iadd hx hb dL_law_1462 ?_
  refine x_eqi (show (0 : Int32) + (2 : Int32) = (2 : Int32) from by decide +kernel) ?_
  refine va_sld hx hb hX hbl hbA X.2.2.1 (i := (2 : Int32)) (vp_in_nI (n := 2) (by omega) (by omega)) dL_law_1463 ?_
  refine x_eqi (show xs ((2 : Int32).toNatClampNeg) = xs 2 from rfl) ?_
  refine lv_aload_n hx hb dL_law_1464 rfl (lv_at hl 3 rfl) ?_
  refine lv_iload_n hx hb dL_law_1465 rfl (lv_at hl 0 rfl) ?_
  refine lv_iconst (v := (3 : Int32)) hx hb dL_law_1466 (by decide) ?_
  refine lv_iadd hx hb dL_law_1467 ?_
  refine x_eqi (show (0 : Int32) + (3 : Int32) = (3 : Int32) from by decide +kernel) ?_
  refine va_sld hx hb hX hbl hbA X.2.2.1 (i := (3 : Int32)) (vp_in_nI (n := 3) (by omega) (by omega)) dL_law_1468 ?_
  refine x_eqi (show xs ((3 : Int32).toNatClampNeg) = xs 3 from rfl) ?_
  refine lv_aload_n hx hb dL_law_1469 rfl (lv_at hl 3 rfl) ?_
  refine lv_iload_n hx hb dL_law_1470 rfl (lv_at hl 0 rfl) ?_
  refine lv_iconst (v := (4 : Int32)) hx hb dL_law_1471 (by decide) ?_
  refine lv_iadd hx hb dL_law_1472 ?_
  refine x_eqi (show (0 : Int32) + (4 : Int32) = (4 : Int32) from by decide +kernel) ?_
  refine va_sld hx hb hX hbl hbA X.2.2.1 (i := (4 : Int32)) (vp_in_nI (n := 4) (by omega) (by omega)) dL_law_1473 ?_
  refine x_eqi (show xs ((4 : Int32).toNatClampNeg) = xs 4 from rfl) ?_
  refine x_cVl (own := RL) (wr := [((v 0), .inr (12, (mF v))), ((v 1), .inl (cI, 4, .inl (fun _ => (0 : Int32))))]) (As := [.int (xs 1), .int (xs 2), .int (xs 3), .int (xs 4)]) C X hl.1 (cx_worth l D cI cJ cZ cB cO u (xs 1) (xs 2) (xs 3) (xs 4)) [0, 97, 1, 7, 67] [98, 99] ⟨rfl, rfl, by decide, by decide, by decide⟩ (qb := 0) rfl rfl k_61_17 k_61_18 k_61_19 k_1_2 k_61_20 (n := 4) (by decide +kernel) ⟨Nat.le_of_ble_eq_true rfl, Nat.le_of_ble_eq_true rfl⟩ rfl rfl (Nat.le_of_ble_eq_true rfl) dL_law_1474 ⟨Nat.le_of_ble_eq_true rfl, Nat.le_of_ble_eq_true rfl⟩ (fun r_2 u_1 H locs w_3 X => ?_)
  have X : Wd D (fun q : Nat => s.heap.size ≤ q) s [((v 0), .inr (12, (mF v))), ((v 1), .inl (cI, 4, .inl (fun _ => (0 : Int32))))] H locs := X
  refine W.widen (k := 150) (n := 141288) (Nat.le_of_ble_eq_true rfl) (Nat.le_of_ble_eq_true rfl) ?_
  obtain ⟨rfl, fw_3⟩ : r_2 = (-1000000000 : Int64) ∧ True := w_3
  refine lv_aload_n hx hb dL_law_1477 rfl (lv_at hl 1 rfl) ?_
  refine lv_aload_n hx hb dL_law_1478 rfl (lv_at hl 3 rfl) ?_
  refine lv_iload_n hx hb dL_law_1479 rfl (lv_at hl 0 rfl) ?_
  refine lv_iconst (v := (1 : Int32)) hx hb dL_law_1480 (by decide) ?_
  refine lv_iadd hx hb dL_law_1481 ?_
  refine x_eqi (show (0 : Int32) + (1 : Int32) = (1 : Int32) from by decide +kernel) ?_
  refine va_sld hx hb hX hbl hbA X.2.2.1 (i := (1 : Int32)) (vp_in_nI (n := 1) (by omega) (by omega)) dL_law_1482 ?_
  refine x_eqi (show xs ((1 : Int32).toNatClampNeg) = xs 1 from rfl) ?_
  refine lv_aload_n hx hb dL_law_1483 rfl (lv_at hl 3 rfl) ?_
  refine lv_iload_n hx hb dL_law_1484 rfl (lv_at hl 0 rfl) ?_
  refine lv_iconst (v := (2 : Int32)) hx hb dL_law_1485 (by decide) ?_
  refine lv_iadd hx hb dL_law_1486 ?_
  refine x_eqi (show (0 : Int32) + (2 : Int32) = (2 : Int32) from by decide +kernel) ?_
  refine va_sld hx hb hX hbl hbA X.2.2.1 (i := (2 : Int32)) (vp_in_nI (n := 2) (by omega) (by omega)) dL_law_1487 ?_
  refine x_eqi (show xs ((2 : Int32).toNatClampNeg) = xs 2 from rfl) ?_
  refine lv_aload_n hx hb dL_law_1488 rfl (lv_at hl 3 rfl) ?_
  refine lv_iload_n hx hb dL_law_1489 rfl (lv_at hl 0 rfl) ?_
  refine lv_iconst (v := (3 : Int32)) hx hb dL_law_1490 (by decide) ?_
  refine lv_iadd hx hb dL_law_1491 ?_
  refine x_eqi (show (0 : Int32) + (3 : Int32) = (3 : Int32) from by decide +kernel) ?_
  refine va_sld hx hb hX hbl hbA X.2.2.1 (i := (3 : Int32)) (vp_in_nI (n := 3) (by omega) (by omega)) dL_law_1492 ?_
  refine x_eqi (show xs ((3 : Int32).toNatClampNeg) = xs 3 from rfl) ?_
  refine lv_aload_n hx hb dL_law_1493 rfl (lv_at hl 3 rfl) ?_
  refine lv_iload_n hx hb dL_law_1494 rfl (lv_at hl 0 rfl) ?_
  refine lv_iconst (v := (4 : Int32)) hx hb dL_law_1495 (by decide) ?_
  refine lv_iadd hx hb dL_law_1496 ?_
  refine x_eqi (show (0 : Int32) + (4 : Int32) = (4 : Int32) from by decide +kernel) ?_
  refine va_sld hx hb hX hbl hbA X.2.2.1 (i := (4 : Int32)) (vp_in_nI (n := 4) (by omega) (by omega)) dL_law_1497 ?_
  refine x_eqi (show xs ((4 : Int32).toNatClampNeg) = xs 4 from rfl) ?_
  refine x_cVl (own := RL) (wr := []) (As := [.int (xs 1), .int (xs 2), .int (xs 3), .int (xs 4)]) C X hl.1 (cm_worth l D cI cJ cZ cB cO v (xs 1) (xs 2) (xs 3) (xs 4)) [0, 1] [] ⟨rfl, rfl, by decide, by decide, by decide⟩ (qb := 0) rfl rfl k_62_3 k_62_4 k_62_5 k_1_5 k_62_6 (n := 4) (by decide +kernel) ⟨Nat.le_of_ble_eq_true rfl, Nat.le_of_ble_eq_true rfl⟩ rfl rfl (Nat.le_of_ble_eq_true rfl) dL_law_1498 ⟨Nat.le_of_ble_eq_true rfl, Nat.le_of_ble_eq_true rfl⟩ (fun r_5 u_4 H locs w_6 X => ?_)
  have X : Wd D (fun q : Nat => s.heap.size ≤ q) s [] H locs := X
  refine W.widen (k := 150) (n := 141288) (Nat.le_of_ble_eq_true rfl) (Nat.le_of_ble_eq_true rfl) ?_
  obtain ⟨rfl, fw_6⟩ : r_5 = (-1000000000 : Int64) ∧ True := w_6
  refine W.lcmp hx hb dL_law_1501 ?_
  refine x_eqi (show lg_cmp (-1000000000 : Int64) (-1000000000 : Int64) = (0 : Int32) from by decide) ?_
  refine lv_if_eq (tgt := 1721) hx hb dL_law_1502 (by decide) (fun _ => ?_) (fun c0 => absurd (by decide) c0)
  exact law_tail K0 X hl (Nat.le_of_ble_eq_true rfl) (Nat.le_of_ble_eq_true rfl)
set_option maxHeartbeats 4000000 in
set_option maxRecDepth 100000 in
theorem law_c31 {p : Program} {e : Env} {s : State} {m : MethodId} {below : List Frame} {meth : Method} {c : Code} {l : Launch} {b : Nat} {xs : Nat → Int32} {D : va_G} {cI cJ cZ cB cO : ClassId} (K0 : LwC p s m meth c b xs D [(cI, .int), (cJ, .long), (cZ, .boolean), (cB, .byte), (cO, .object "LuckLinks$World")]) {u v : Nat → Nat} {H : Heap} {locs : List Loc} {ls : Array Slot} (X : Wd D (fun q : Nat => s.heap.size ≤ q) s (xW cI cJ cZ cB cO u ++ mW cI cJ cZ cB cO v) H locs) (hl : lv_has ls 4 [(3, .int (0 : Int32)), (2, .ref (v 0)), (1, .ref (u 0)), (0, .ref b)]) :
    W p l e room_1 s m #[Value.ref b] below meth c H locs 150 141288 (lw_Z below #[Value.ref b] s) (F0 m 1507 ls []) := by
  have C := K0.1
  have hx := C.1
  have hb := C.2.1
  have hX := K0.2.2.2.1
  have hbl := K0.2.2.2.2
  have hbA : ¬ (fun q : Nat => s.heap.size ≤ q) b := Nat.not_le.mpr hbl
  refine lv_aload_n hx hb dL_law_1507 rfl (lv_at hl 2 rfl) ?_
  refine lv_aload_n hx hb dL_law_1508 rfl (lv_at hl 3 rfl) ?_
  refine lv_iload_n hx hb dL_law_1509 rfl (lv_at hl 0 rfl) ?_
  refine lv_iconst (v := (1 : Int32)) hx hb dL_law_1510 (by decide) ?_
  refine lv_iadd hx hb dL_law_1511 ?_
  refine x_eqi (show (0 : Int32) + (1 : Int32) = (1 : Int32) from by decide +kernel) ?_
  refine va_sld hx hb hX hbl hbA X.2.2.1 (i := (1 : Int32)) (vp_in_nI (n := 1) (by omega) (by omega)) dL_law_1512 ?_
  refine x_eqi (show xs ((1 : Int32).toNatClampNeg) = xs 1 from rfl) ?_
  refine lv_aload_n hx hb dL_law_1513 rfl (lv_at hl 3 rfl) ?_
  refine lv_iload_n hx hb dL_law_1514 rfl (lv_at hl 0 rfl) ?_
  refine lv_iconst (v := (2 : Int32)) hx hb dL_law_1515 (by decide) ?_
  refine lv_iadd hx hb dL_law_1516 ?_
  refine x_eqi (show (0 : Int32) + (2 : Int32) = (2 : Int32) from by decide +kernel) ?_
  refine va_sld hx hb hX hbl hbA X.2.2.1 (i := (2 : Int32)) (vp_in_nI (n := 2) (by omega) (by omega)) dL_law_1517 ?_
  refine x_eqi (show xs ((2 : Int32).toNatClampNeg) = xs 2 from rfl) ?_
  refine lv_aload_n hx hb dL_law_1518 rfl (lv_at hl 3 rfl) ?_
  refine lv_iload_n hx hb dL_law_1519 rfl (lv_at hl 0 rfl) ?_
  refine lv_iconst (v := (3 : Int32)) hx hb dL_law_1520 (by decide) ?_
  refine lv_iadd hx hb dL_law_1521 ?_
  refine x_eqi (show (0 : Int32) + (3 : Int32) = (3 : Int32) from by decide +kernel) ?_
  refine va_sld hx hb hX hbl hbA X.2.2.1 (i := (3 : Int32)) (vp_in_nI (n := 3) (by omega) (by omega)) dL_law_1522 ?_
  refine x_eqi (show xs ((3 : Int32).toNatClampNeg) = xs 3 from rfl) ?_
  refine lv_aload_n hx hb dL_law_1523 rfl (lv_at hl 3 rfl) ?_
  refine lv_iload_n hx hb dL_law_1524 rfl (lv_at hl 0 rfl) ?_
  refine lv_iconst (v := (4 : Int32)) hx hb dL_law_1525 (by decide) ?_
  refine lv_iadd hx hb dL_law_1526 ?_
  refine x_eqi (show (0 : Int32) + (4 : Int32) = (4 : Int32) from by decide +kernel) ?_
  refine va_sld hx hb hX hbl hbA X.2.2.1 (i := (4 : Int32)) (vp_in_nI (n := 4) (by omega) (by omega)) dL_law_1527 ?_
  refine x_eqi (show xs ((4 : Int32).toNatClampNeg) = xs 4 from rfl) ?_
  refine lv_aload_n hx hb dL_law_1528 rfl (lv_at hl 3 rfl) ?_
  refine lv_iload_n hx hb dL_law_1529 rfl (lv_at hl 0 rfl) ?_
  refine lv_iconst (v := (5 : Int32)) hx hb dL_law_1530 (by decide) ?_
  refine lv_iadd hx hb dL_law_1531 ?_
  refine x_eqi (show (0 : Int32) + (5 : Int32) = (5 : Int32) from by decide +kernel) ?_
  refine va_sld hx hb hX hbl hbA X.2.2.1 (i := (5 : Int32)) (vp_in_nI (n := 5) (by omega) (by omega)) dL_law_1532 ?_
  refine x_eqi (show xs ((5 : Int32).toNatClampNeg) = xs 5 from rfl) ?_
  refine x_cVl (own := RL) (wr := [((v 0), .inr (12, (mF v))), ((v 1), .inl (cI, 4, .inl (fun _ => (0 : Int32))))]) (As := [.int (xs 1), .int (xs 2), .int (xs 3), .int (xs 4), .int (xs 5)]) C X hl.1 (cx_cost l D cI cJ cZ cB cO u (xs 1) (xs 2) (xs 3) (xs 4) (xs 5)) [0, 1] [98, 99] ⟨rfl, rfl, by decide, by decide, by decide⟩ (qb := 0) rfl rfl k_62_14 k_62_15 k_62_16 k_1_2 k_62_17 (n := 5) (by decide +kernel) ⟨Nat.le_of_ble_eq_true rfl, Nat.le_of_ble_eq_true rfl⟩ rfl rfl (Nat.le_of_ble_eq_true rfl) dL_law_1533 ⟨Nat.le_of_ble_eq_true rfl, Nat.le_of_ble_eq_true rfl⟩ (fun r_2 u_1 H locs w_3 X => ?_)
  have X : Wd D (fun q : Nat => s.heap.size ≤ q) s [((v 0), .inr (12, (mF v))), ((v 1), .inl (cI, 4, .inl (fun _ => (0 : Int32))))] H locs := X
  refine W.widen (k := 150) (n := 141288) (Nat.le_of_ble_eq_true rfl) (Nat.le_of_ble_eq_true rfl) ?_
  obtain ⟨rfl, fw_3⟩ : r_2 = (-1000000000 : Int64) ∧ True := w_3
  refine lv_aload_n hx hb dL_law_1536 rfl (lv_at hl 1 rfl) ?_
  refine lv_aload_n hx hb dL_law_1537 rfl (lv_at hl 3 rfl) ?_
  refine lv_iload_n hx hb dL_law_1538 rfl (lv_at hl 0 rfl) ?_
  refine lv_iconst (v := (1 : Int32)) hx hb dL_law_1539 (by decide) ?_
  refine lv_iadd hx hb dL_law_1540 ?_
  refine x_eqi (show (0 : Int32) + (1 : Int32) = (1 : Int32) from by decide +kernel) ?_
  refine va_sld hx hb hX hbl hbA X.2.2.1 (i := (1 : Int32)) (vp_in_nI (n := 1) (by omega) (by omega)) dL_law_1541 ?_
  refine x_eqi (show xs ((1 : Int32).toNatClampNeg) = xs 1 from rfl) ?_
  refine lv_aload_n hx hb dL_law_1542 rfl (lv_at hl 3 rfl) ?_
  refine lv_iload_n hx hb dL_law_1543 rfl (lv_at hl 0 rfl) ?_
  refine lv_iconst (v := (2 : Int32)) hx hb dL_law_1544 (by decide) ?_
  refine lv_iadd hx hb dL_law_1545 ?_
  refine x_eqi (show (0 : Int32) + (2 : Int32) = (2 : Int32) from by decide +kernel) ?_
  refine va_sld hx hb hX hbl hbA X.2.2.1 (i := (2 : Int32)) (vp_in_nI (n := 2) (by omega) (by omega)) dL_law_1546 ?_
  refine x_eqi (show xs ((2 : Int32).toNatClampNeg) = xs 2 from rfl) ?_
  refine lv_aload_n hx hb dL_law_1547 rfl (lv_at hl 3 rfl) ?_
  refine lv_iload_n hx hb dL_law_1548 rfl (lv_at hl 0 rfl) ?_
  refine lv_iconst (v := (3 : Int32)) hx hb dL_law_1549 (by decide) ?_
  refine lv_iadd hx hb dL_law_1550 ?_
  refine x_eqi (show (0 : Int32) + (3 : Int32) = (3 : Int32) from by decide +kernel) ?_
  refine va_sld hx hb hX hbl hbA X.2.2.1 (i := (3 : Int32)) (vp_in_nI (n := 3) (by omega) (by omega)) dL_law_1551 ?_
  refine x_eqi (show xs ((3 : Int32).toNatClampNeg) = xs 3 from rfl) ?_
  refine lv_aload_n hx hb dL_law_1552 rfl (lv_at hl 3 rfl) ?_
  refine lv_iload_n hx hb dL_law_1553 rfl (lv_at hl 0 rfl) ?_
  refine lv_iconst (v := (4 : Int32)) hx hb dL_law_1554 (by decide) ?_
  refine lv_iadd hx hb dL_law_1555 ?_
  refine x_eqi (show (0 : Int32) + (4 : Int32) = (4 : Int32) from by decide +kernel) ?_
  refine va_sld hx hb hX hbl hbA X.2.2.1 (i := (4 : Int32)) (vp_in_nI (n := 4) (by omega) (by omega)) dL_law_1556 ?_
  refine x_eqi (show xs ((4 : Int32).toNatClampNeg) = xs 4 from rfl) ?_
  refine lv_aload_n hx hb dL_law_1557 rfl (lv_at hl 3 rfl) ?_
  refine lv_iload_n hx hb dL_law_1558 rfl (lv_at hl 0 rfl) ?_
  refine lv_iconst (v := (5 : Int32)) hx hb dL_law_1559 (by decide) ?_
  refine lv_iadd hx hb dL_law_1560 ?_
  refine x_eqi (show (0 : Int32) + (5 : Int32) = (5 : Int32) from by decide +kernel) ?_
  refine va_sld hx hb hX hbl hbA X.2.2.1 (i := (5 : Int32)) (vp_in_nI (n := 5) (by omega) (by omega)) dL_law_1561 ?_
  refine x_eqi (show xs ((5 : Int32).toNatClampNeg) = xs 5 from rfl) ?_
  refine x_cVl (own := RL) (wr := []) (As := [.int (xs 1), .int (xs 2), .int (xs 3), .int (xs 4), .int (xs 5)]) C X hl.1 (cm_cost l D cI cJ cZ cB cO v (xs 1) (xs 2) (xs 3) (xs 4) (xs 5)) [0, 1] [] ⟨rfl, rfl, by decide, by decide, by decide⟩ (qb := 0) rfl rfl k_63_4 k_63_5 k_63_6 k_1_5 k_63_7 (n := 5) (by decide +kernel) ⟨Nat.le_of_ble_eq_true rfl, Nat.le_of_ble_eq_true rfl⟩ rfl rfl (Nat.le_of_ble_eq_true rfl) dL_law_1562 ⟨Nat.le_of_ble_eq_true rfl, Nat.le_of_ble_eq_true rfl⟩ (fun r_5 u_4 H locs w_6 X => ?_)
  have X : Wd D (fun q : Nat => s.heap.size ≤ q) s [] H locs := X
  refine W.widen (k := 150) (n := 141288) (Nat.le_of_ble_eq_true rfl) (Nat.le_of_ble_eq_true rfl) ?_
  obtain ⟨rfl, fw_6⟩ : r_5 = (-1000000000 : Int64) ∧ True := w_6
  refine W.lcmp hx hb dL_law_1565 ?_
  refine x_eqi (show lg_cmp (-1000000000 : Int64) (-1000000000 : Int64) = (0 : Int32) from by decide) ?_
  refine lv_if_eq (tgt := 1721) hx hb dL_law_1566 (by decide) (fun _ => ?_) (fun c0 => absurd (by decide) c0)
  exact law_tail K0 X hl (Nat.le_of_ble_eq_true rfl) (Nat.le_of_ble_eq_true rfl)
set_option maxHeartbeats 4000000 in
set_option maxRecDepth 100000 in
theorem law_c32 {p : Program} {e : Env} {s : State} {m : MethodId} {below : List Frame} {meth : Method} {c : Code} {l : Launch} {b : Nat} {xs : Nat → Int32} {D : va_G} {cI cJ cZ cB cO : ClassId} (K0 : LwC p s m meth c b xs D [(cI, .int), (cJ, .long), (cZ, .boolean), (cB, .byte), (cO, .object "LuckLinks$World")]) {u v : Nat → Nat} {H : Heap} {locs : List Loc} {ls : Array Slot} (X : Wd D (fun q : Nat => s.heap.size ≤ q) s (xW cI cJ cZ cB cO u ++ mW cI cJ cZ cB cO v) H locs) (hl : lv_has ls 4 [(3, .int (0 : Int32)), (2, .ref (v 0)), (1, .ref (u 0)), (0, .ref b)]) :
    W p l e room_1 s m #[Value.ref b] below meth c H locs 150 141288 (lw_Z below #[Value.ref b] s) (F0 m 1571 ls []) := by
  have C := K0.1
  have hx := C.1
  have hb := C.2.1
  have hX := K0.2.2.2.1
  have hbl := K0.2.2.2.2
  have hbA : ¬ (fun q : Nat => s.heap.size ≤ q) b := Nat.not_le.mpr hbl
  refine lv_aload_n hx hb dL_law_1571 rfl (lv_at hl 2 rfl) ?_
  refine lv_aload_n hx hb dL_law_1572 rfl (lv_at hl 3 rfl) ?_
  refine lv_iload_n hx hb dL_law_1573 rfl (lv_at hl 0 rfl) ?_
  refine lv_iconst (v := (1 : Int32)) hx hb dL_law_1574 (by decide) ?_
  refine lv_iadd hx hb dL_law_1575 ?_
  refine x_eqi (show (0 : Int32) + (1 : Int32) = (1 : Int32) from by decide +kernel) ?_
  refine va_sld hx hb hX hbl hbA X.2.2.1 (i := (1 : Int32)) (vp_in_nI (n := 1) (by omega) (by omega)) dL_law_1576 ?_
  refine x_eqi (show xs ((1 : Int32).toNatClampNeg) = xs 1 from rfl) ?_
  refine lv_aload_n hx hb dL_law_1577 rfl (lv_at hl 3 rfl) ?_
  refine lv_iload_n hx hb dL_law_1578 rfl (lv_at hl 0 rfl) ?_
  refine lv_iconst (v := (2 : Int32)) hx hb dL_law_1579 (by decide) ?_
  refine lv_iadd hx hb dL_law_1580 ?_
  refine x_eqi (show (0 : Int32) + (2 : Int32) = (2 : Int32) from by decide +kernel) ?_
  refine va_sld hx hb hX hbl hbA X.2.2.1 (i := (2 : Int32)) (vp_in_nI (n := 2) (by omega) (by omega)) dL_law_1581 ?_
  refine x_eqi (show xs ((2 : Int32).toNatClampNeg) = xs 2 from rfl) ?_
  refine x_cVl (own := RL) (wr := [((v 0), .inr (12, (mF v))), ((v 1), .inl (cI, 4, .inl (fun _ => (0 : Int32))))]) (As := [.int (xs 1), .int (xs 2)]) C X hl.1 (cx_pressed l D cI cJ cZ cB cO u (xs 1) (xs 2)) [0, 1] [98, 99] ⟨rfl, rfl, by decide, by decide, by decide⟩ (qb := 0) rfl rfl k_63_8 k_63_9 k_63_10 k_1_2 k_63_11 (n := 2) (by decide +kernel) ⟨Nat.le_of_ble_eq_true rfl, Nat.le_of_ble_eq_true rfl⟩ rfl rfl (Nat.le_of_ble_eq_true rfl) dL_law_1582 ⟨Nat.le_of_ble_eq_true rfl, Nat.le_of_ble_eq_true rfl⟩ (fun r_2 u_1 H locs w_3 X => ?_)
  have X : Wd D (fun q : Nat => s.heap.size ≤ q) s [((v 0), .inr (12, (mF v))), ((v 1), .inl (cI, 4, .inl (fun _ => (0 : Int32))))] H locs := X
  refine W.widen (k := 150) (n := 141288) (Nat.le_of_ble_eq_true rfl) (Nat.le_of_ble_eq_true rfl) ?_
  obtain ⟨rfl, fw_3⟩ : r_2 = (-1 : Int64) ∧ True := w_3
  refine lv_aload_n hx hb dL_law_1585 rfl (lv_at hl 1 rfl) ?_
  refine lv_aload_n hx hb dL_law_1586 rfl (lv_at hl 3 rfl) ?_
  refine lv_iload_n hx hb dL_law_1587 rfl (lv_at hl 0 rfl) ?_
  refine lv_iconst (v := (1 : Int32)) hx hb dL_law_1588 (by decide) ?_
  refine lv_iadd hx hb dL_law_1589 ?_
  refine x_eqi (show (0 : Int32) + (1 : Int32) = (1 : Int32) from by decide +kernel) ?_
  refine va_sld hx hb hX hbl hbA X.2.2.1 (i := (1 : Int32)) (vp_in_nI (n := 1) (by omega) (by omega)) dL_law_1590 ?_
  refine x_eqi (show xs ((1 : Int32).toNatClampNeg) = xs 1 from rfl) ?_
  refine lv_aload_n hx hb dL_law_1591 rfl (lv_at hl 3 rfl) ?_
  refine lv_iload_n hx hb dL_law_1592 rfl (lv_at hl 0 rfl) ?_
  refine lv_iconst (v := (2 : Int32)) hx hb dL_law_1593 (by decide) ?_
  refine lv_iadd hx hb dL_law_1594 ?_
  refine x_eqi (show (0 : Int32) + (2 : Int32) = (2 : Int32) from by decide +kernel) ?_
  refine va_sld hx hb hX hbl hbA X.2.2.1 (i := (2 : Int32)) (vp_in_nI (n := 2) (by omega) (by omega)) dL_law_1595 ?_
  refine x_eqi (show xs ((2 : Int32).toNatClampNeg) = xs 2 from rfl) ?_
  refine x_cVl (own := RL) (wr := []) (As := [.int (xs 1), .int (xs 2)]) C X hl.1 (cm_pressed l D cI cJ cZ cB cO v (xs 1) (xs 2)) [0, 1] [] ⟨rfl, rfl, by decide, by decide, by decide⟩ (qb := 0) rfl rfl k_64_0 k_64_1 k_64_2 k_1_5 k_64_3 (n := 2) (by decide +kernel) ⟨Nat.le_of_ble_eq_true rfl, Nat.le_of_ble_eq_true rfl⟩ rfl rfl (Nat.le_of_ble_eq_true rfl) dL_law_1596 ⟨Nat.le_of_ble_eq_true rfl, Nat.le_of_ble_eq_true rfl⟩ (fun r_5 u_4 H locs w_6 X => ?_)
  have X : Wd D (fun q : Nat => s.heap.size ≤ q) s [] H locs := X
  refine W.widen (k := 150) (n := 141288) (Nat.le_of_ble_eq_true rfl) (Nat.le_of_ble_eq_true rfl) ?_
  obtain ⟨rfl, fw_6⟩ : r_5 = (-1 : Int64) ∧ True := w_6
  refine W.lcmp hx hb dL_law_1599 ?_
  refine x_eqi (show lg_cmp (-1 : Int64) (-1 : Int64) = (0 : Int32) from by decide) ?_
  refine lv_if_eq (tgt := 1721) hx hb dL_law_1600 (by decide) (fun _ => ?_) (fun c0 => absurd (by decide) c0)
  exact law_tail K0 X hl (Nat.le_of_ble_eq_true rfl) (Nat.le_of_ble_eq_true rfl)
set_option maxHeartbeats 4000000 in
set_option maxRecDepth 100000 in
theorem law_c33 {p : Program} {e : Env} {s : State} {m : MethodId} {below : List Frame} {meth : Method} {c : Code} {l : Launch} {b : Nat} {xs : Nat → Int32} {D : va_G} {cI cJ cZ cB cO : ClassId} (K0 : LwC p s m meth c b xs D [(cI, .int), (cJ, .long), (cZ, .boolean), (cB, .byte), (cO, .object "LuckLinks$World")]) {u v : Nat → Nat} {H : Heap} {locs : List Loc} {ls : Array Slot} (X : Wd D (fun q : Nat => s.heap.size ≤ q) s (xW cI cJ cZ cB cO u ++ mW cI cJ cZ cB cO v) H locs) (hl : lv_has ls 4 [(3, .int (0 : Int32)), (2, .ref (v 0)), (1, .ref (u 0)), (0, .ref b)]) :
    W p l e room_1 s m #[Value.ref b] below meth c H locs 150 141288 (lw_Z below #[Value.ref b] s) (F0 m 1605 ls []) := by
  have C := K0.1
  have hx := C.1
  have hb := C.2.1
  have hX := K0.2.2.2.1
  have hbl := K0.2.2.2.2
  have hbA : ¬ (fun q : Nat => s.heap.size ≤ q) b := Nat.not_le.mpr hbl
  refine lv_aload_n hx hb dL_law_1605 rfl (lv_at hl 2 rfl) ?_
  refine lv_aload_n hx hb dL_law_1606 rfl (lv_at hl 3 rfl) ?_
  refine lv_iload_n hx hb dL_law_1607 rfl (lv_at hl 0 rfl) ?_
  refine lv_iconst (v := (1 : Int32)) hx hb dL_law_1608 (by decide) ?_
  refine lv_iadd hx hb dL_law_1609 ?_
  refine x_eqi (show (0 : Int32) + (1 : Int32) = (1 : Int32) from by decide +kernel) ?_
  refine va_sld hx hb hX hbl hbA X.2.2.1 (i := (1 : Int32)) (vp_in_nI (n := 1) (by omega) (by omega)) dL_law_1610 ?_
  refine x_eqi (show xs ((1 : Int32).toNatClampNeg) = xs 1 from rfl) ?_
  refine x_cV (own := RL) (wr := [((v 0), .inr (12, (mF v))), ((v 1), .inl (cI, 4, .inl (fun _ => (0 : Int32))))]) (As := [.int (xs 1)]) C X hl.1 (cx_other l D cI cJ cZ cB cO u (xs 1)) [0, 97, 1] [98, 99] ⟨rfl, rfl, by decide, by decide, by decide⟩ (qb := 0) rfl rfl k_64_14 k_64_15 k_64_16 k_1_2 k_64_17 (n := 1) (by decide +kernel) ⟨Nat.le_of_ble_eq_true rfl, Nat.le_of_ble_eq_true rfl⟩ rfl rfl (Nat.le_of_ble_eq_true rfl) dL_law_1611 ⟨Nat.le_of_ble_eq_true rfl, Nat.le_of_ble_eq_true rfl⟩ (fun r_2 u_1 H locs w_3 X => ?_)
  have X : Wd D (fun q : Nat => s.heap.size ≤ q) s [((v 0), .inr (12, (mF v))), ((v 1), .inl (cI, 4, .inl (fun _ => (0 : Int32))))] H locs := X
  refine W.widen (k := 150) (n := 141288) (Nat.le_of_ble_eq_true rfl) (Nat.le_of_ble_eq_true rfl) ?_
  obtain ⟨rfl, fw_3⟩ : r_2 = (-1 : Int32) ∧ True := w_3
  refine lv_aload_n hx hb dL_law_1614 rfl (lv_at hl 1 rfl) ?_
  refine lv_aload_n hx hb dL_law_1615 rfl (lv_at hl 3 rfl) ?_
  refine lv_iload_n hx hb dL_law_1616 rfl (lv_at hl 0 rfl) ?_
  refine lv_iconst (v := (1 : Int32)) hx hb dL_law_1617 (by decide) ?_
  refine lv_iadd hx hb dL_law_1618 ?_
  refine x_eqi (show (0 : Int32) + (1 : Int32) = (1 : Int32) from by decide +kernel) ?_
  refine va_sld hx hb hX hbl hbA X.2.2.1 (i := (1 : Int32)) (vp_in_nI (n := 1) (by omega) (by omega)) dL_law_1619 ?_
  refine x_eqi (show xs ((1 : Int32).toNatClampNeg) = xs 1 from rfl) ?_
  refine x_cV (own := RL) (wr := []) (As := [.int (xs 1)]) C X hl.1 (cm_other l D cI cJ cZ cB cO v (xs 1)) [0, 1] [] ⟨rfl, rfl, by decide, by decide, by decide⟩ (qb := 0) rfl rfl k_65_10 k_65_11 k_65_12 k_1_5 k_65_13 (n := 1) (by decide +kernel) ⟨Nat.le_of_ble_eq_true rfl, Nat.le_of_ble_eq_true rfl⟩ rfl rfl (Nat.le_of_ble_eq_true rfl) dL_law_1620 ⟨Nat.le_of_ble_eq_true rfl, Nat.le_of_ble_eq_true rfl⟩ (fun r_5 u_4 H locs w_6 X => ?_)
  have X : Wd D (fun q : Nat => s.heap.size ≤ q) s [] H locs := X
  refine W.widen (k := 150) (n := 141288) (Nat.le_of_ble_eq_true rfl) (Nat.le_of_ble_eq_true rfl) ?_
  obtain ⟨rfl, fw_6⟩ : r_5 = (-1 : Int32) ∧ True := w_6
  refine lv_icmp_eq (tgt := 1721) hx hb dL_law_1623 (by decide) (fun _ => ?_) (fun c0 => absurd (by decide) c0)
  exact law_tail K0 X hl (Nat.le_of_ble_eq_true rfl) (Nat.le_of_ble_eq_true rfl)
set_option maxHeartbeats 4000000 in
set_option maxRecDepth 100000 in
theorem law_c34 {p : Program} {e : Env} {s : State} {m : MethodId} {below : List Frame} {meth : Method} {c : Code} {l : Launch} {b : Nat} {xs : Nat → Int32} {D : va_G} {cI cJ cZ cB cO : ClassId} (K0 : LwC p s m meth c b xs D [(cI, .int), (cJ, .long), (cZ, .boolean), (cB, .byte), (cO, .object "LuckLinks$World")]) {u v : Nat → Nat} {H : Heap} {locs : List Loc} {ls : Array Slot} (X : Wd D (fun q : Nat => s.heap.size ≤ q) s (xW cI cJ cZ cB cO u ++ mW cI cJ cZ cB cO v) H locs) (hl : lv_has ls 4 [(3, .int (0 : Int32)), (2, .ref (v 0)), (1, .ref (u 0)), (0, .ref b)]) :
    W p l e room_1 s m #[Value.ref b] below meth c H locs 150 141288 (lw_Z below #[Value.ref b] s) (F0 m 1628 ls []) := by
  have C := K0.1
  have hx := C.1
  have hb := C.2.1
  have hX := K0.2.2.2.1
  have hbl := K0.2.2.2.2
  have hbA : ¬ (fun q : Nat => s.heap.size ≤ q) b := Nat.not_le.mpr hbl
  refine lv_aload_n hx hb dL_law_1628 rfl (lv_at hl 2 rfl) ?_
  refine lv_aload_n hx hb dL_law_1629 rfl (lv_at hl 3 rfl) ?_
  refine lv_iload_n hx hb dL_law_1630 rfl (lv_at hl 0 rfl) ?_
  refine lv_iconst (v := (1 : Int32)) hx hb dL_law_1631 (by decide) ?_
  refine lv_iadd hx hb dL_law_1632 ?_
  refine x_eqi (show (0 : Int32) + (1 : Int32) = (1 : Int32) from by decide +kernel) ?_
  refine va_sld hx hb hX hbl hbA X.2.2.1 (i := (1 : Int32)) (vp_in_nI (n := 1) (by omega) (by omega)) dL_law_1633 ?_
  refine x_eqi (show xs ((1 : Int32).toNatClampNeg) = xs 1 from rfl) ?_
  refine lv_aload_n hx hb dL_law_1634 rfl (lv_at hl 3 rfl) ?_
  refine lv_iload_n hx hb dL_law_1635 rfl (lv_at hl 0 rfl) ?_
  refine lv_iconst (v := (2 : Int32)) hx hb dL_law_1636 (by decide) ?_
  refine lv_iadd hx hb dL_law_1637 ?_
  refine x_eqi (show (0 : Int32) + (2 : Int32) = (2 : Int32) from by decide +kernel) ?_
  refine va_sld hx hb hX hbl hbA X.2.2.1 (i := (2 : Int32)) (vp_in_nI (n := 2) (by omega) (by omega)) dL_law_1638 ?_
  refine x_eqi (show xs ((2 : Int32).toNatClampNeg) = xs 2 from rfl) ?_
  refine x_cVl (own := RL) (wr := [((v 0), .inr (12, (mF v))), ((v 1), .inl (cI, 4, .inl (fun _ => (0 : Int32))))]) (As := [.int (xs 1), .int (xs 2)]) C X hl.1 (cx_beside l D cI cJ cZ cB cO u (xs 1) (xs 2)) [0, 1] [98, 99] ⟨rfl, rfl, by decide, by decide, by decide⟩ (qb := 0) rfl rfl k_65_14 k_65_15 k_65_16 k_1_2 k_65_17 (n := 2) (by decide +kernel) ⟨Nat.le_of_ble_eq_true rfl, Nat.le_of_ble_eq_true rfl⟩ rfl rfl (Nat.le_of_ble_eq_true rfl) dL_law_1639 ⟨Nat.le_of_ble_eq_true rfl, Nat.le_of_ble_eq_true rfl⟩ (fun r_2 u_1 H locs w_3 X => ?_)
  have X : Wd D (fun q : Nat => s.heap.size ≤ q) s [((v 0), .inr (12, (mF v))), ((v 1), .inl (cI, 4, .inl (fun _ => (0 : Int32))))] H locs := X
  refine W.widen (k := 150) (n := 141288) (Nat.le_of_ble_eq_true rfl) (Nat.le_of_ble_eq_true rfl) ?_
  obtain ⟨rfl, fw_3⟩ : r_2 = (-1000000000000 : Int64) ∧ True := w_3
  refine lv_aload_n hx hb dL_law_1642 rfl (lv_at hl 1 rfl) ?_
  refine lv_aload_n hx hb dL_law_1643 rfl (lv_at hl 3 rfl) ?_
  refine lv_iload_n hx hb dL_law_1644 rfl (lv_at hl 0 rfl) ?_
  refine lv_iconst (v := (1 : Int32)) hx hb dL_law_1645 (by decide) ?_
  refine lv_iadd hx hb dL_law_1646 ?_
  refine x_eqi (show (0 : Int32) + (1 : Int32) = (1 : Int32) from by decide +kernel) ?_
  refine va_sld hx hb hX hbl hbA X.2.2.1 (i := (1 : Int32)) (vp_in_nI (n := 1) (by omega) (by omega)) dL_law_1647 ?_
  refine x_eqi (show xs ((1 : Int32).toNatClampNeg) = xs 1 from rfl) ?_
  refine lv_aload_n hx hb dL_law_1648 rfl (lv_at hl 3 rfl) ?_
  refine lv_iload_n hx hb dL_law_1649 rfl (lv_at hl 0 rfl) ?_
  refine lv_iconst (v := (2 : Int32)) hx hb dL_law_1650 (by decide) ?_
  refine lv_iadd hx hb dL_law_1651 ?_
  refine x_eqi (show (0 : Int32) + (2 : Int32) = (2 : Int32) from by decide +kernel) ?_
  refine va_sld hx hb hX hbl hbA X.2.2.1 (i := (2 : Int32)) (vp_in_nI (n := 2) (by omega) (by omega)) dL_law_1652 ?_
  refine x_eqi (show xs ((2 : Int32).toNatClampNeg) = xs 2 from rfl) ?_
  refine x_cVl (own := RL) (wr := []) (As := [.int (xs 1), .int (xs 2)]) C X hl.1 (cm_beside l D cI cJ cZ cB cO v (xs 1) (xs 2)) [0, 1] [] ⟨rfl, rfl, by decide, by decide, by decide⟩ (qb := 0) rfl rfl k_65_23 k_66_0 k_66_1 k_1_5 k_66_2 (n := 2) (by decide +kernel) ⟨Nat.le_of_ble_eq_true rfl, Nat.le_of_ble_eq_true rfl⟩ rfl rfl (Nat.le_of_ble_eq_true rfl) dL_law_1653 ⟨Nat.le_of_ble_eq_true rfl, Nat.le_of_ble_eq_true rfl⟩ (fun r_5 u_4 H locs w_6 X => ?_)
  have X : Wd D (fun q : Nat => s.heap.size ≤ q) s [] H locs := X
  refine W.widen (k := 150) (n := 141288) (Nat.le_of_ble_eq_true rfl) (Nat.le_of_ble_eq_true rfl) ?_
  obtain ⟨rfl, fw_6⟩ : r_5 = (-1000000000000 : Int64) ∧ True := w_6
  refine W.lcmp hx hb dL_law_1656 ?_
  refine x_eqi (show lg_cmp (-1000000000000 : Int64) (-1000000000000 : Int64) = (0 : Int32) from by decide) ?_
  refine lv_if_eq (tgt := 1721) hx hb dL_law_1657 (by decide) (fun _ => ?_) (fun c0 => absurd (by decide) c0)
  exact law_tail K0 X hl (Nat.le_of_ble_eq_true rfl) (Nat.le_of_ble_eq_true rfl)
set_option maxHeartbeats 4000000 in
set_option maxRecDepth 100000 in
theorem law_c35 {p : Program} {e : Env} {s : State} {m : MethodId} {below : List Frame} {meth : Method} {c : Code} {l : Launch} {b : Nat} {xs : Nat → Int32} {D : va_G} {cI cJ cZ cB cO : ClassId} (K0 : LwC p s m meth c b xs D [(cI, .int), (cJ, .long), (cZ, .boolean), (cB, .byte), (cO, .object "LuckLinks$World")]) {u v : Nat → Nat} {H : Heap} {locs : List Loc} {ls : Array Slot} (X : Wd D (fun q : Nat => s.heap.size ≤ q) s (xW cI cJ cZ cB cO u ++ mW cI cJ cZ cB cO v) H locs) (hl : lv_has ls 4 [(3, .int (0 : Int32)), (2, .ref (v 0)), (1, .ref (u 0)), (0, .ref b)]) :
    W p l e room_1 s m #[Value.ref b] below meth c H locs 150 141288 (lw_Z below #[Value.ref b] s) (F0 m 1662 ls []) := by
  have C := K0.1
  have hx := C.1
  have hb := C.2.1
  have hX := K0.2.2.2.1
  have hbl := K0.2.2.2.2
  have hbA : ¬ (fun q : Nat => s.heap.size ≤ q) b := Nat.not_le.mpr hbl
  refine lv_aload_n hx hb dL_law_1662 rfl (lv_at hl 2 rfl) ?_
  refine x_cV (own := RL) (wr := [((v 0), .inr (12, (mF v))), ((v 1), .inl (cI, 4, .inl (fun _ => (0 : Int32)))), ((v 2), .inl (cI, 4, .inl (fun _ => (0 : Int32)))), ((v 3), .inl (cI, 4, .inl (fun _ => (0 : Int32)))), ((v 4), .inl (cJ, 4, .inr (.inl (vp_updL (fun _ => (0 : Int64)) (0) ((1 : Int64)))))), ((v 5), .inl (cI, 320, .inl (fun _ => (0 : Int32)))), ((v 6), .inl (cI, 96, .inl (fun _ => (0 : Int32)))), ((v 7), .inl (cI, 160, .inl (wk0))), ((v 8), .inl (cZ, 12800, .inl (fun _ => (0 : Int32)))), ((v 9), .inl (cZ, 3200, .inl (fun _ => (0 : Int32)))), ((v 10), .inl (cI, 12800, .inl (fun _ => (0 : Int32)))), ((v 11), .inl (cI, 51200, .inl (fun _ => (0 : Int32)))), ((v 12), .inl (cI, 3200, .inl (fun _ => (0 : Int32))))]) (As := []) C X hl.1 (cx_image l D cI cJ cZ cB cO u) [0, 1, 2, 3, 4, 5, 6, 7, 8, 9, 10] [98, 99, 100, 101, 102, 103, 104, 105, 106, 107, 108, 109, 110] ⟨rfl, rfl, by decide, by decide, by decide⟩ (qb := 0) rfl rfl k_66_3 k_66_4 k_66_5 k_1_2 k_66_6 (n := 0) (by decide +kernel) ⟨Nat.le_of_ble_eq_true rfl, Nat.le_of_ble_eq_true rfl⟩ rfl rfl (Nat.le_of_ble_eq_true rfl) dL_law_1663 ⟨Nat.le_of_ble_eq_true rfl, Nat.le_of_ble_eq_true rfl⟩ (fun r_2 u_1 H locs w_3 X => ?_)
  have X : Wd D (fun q : Nat => s.heap.size ≤ q) s [((v 0), .inr (12, (mF v))), ((v 1), .inl (cI, 4, .inl (fun _ => (0 : Int32)))), ((v 2), .inl (cI, 4, .inl (fun _ => (0 : Int32)))), ((v 3), .inl (cI, 4, .inl (fun _ => (0 : Int32)))), ((v 4), .inl (cJ, 4, .inr (.inl (vp_updL (fun _ => (0 : Int64)) (0) ((1 : Int64)))))), ((v 5), .inl (cI, 320, .inl (fun _ => (0 : Int32)))), ((v 6), .inl (cI, 96, .inl (fun _ => (0 : Int32)))), ((v 7), .inl (cI, 160, .inl (wk0))), ((v 8), .inl (cZ, 12800, .inl (fun _ => (0 : Int32)))), ((v 9), .inl (cZ, 3200, .inl (fun _ => (0 : Int32)))), ((v 10), .inl (cI, 12800, .inl (fun _ => (0 : Int32)))), ((v 11), .inl (cI, 51200, .inl (fun _ => (0 : Int32)))), ((v 12), .inl (cI, 3200, .inl (fun _ => (0 : Int32))))] H locs := X
  refine W.widen (k := 159) (n := 162404) (Nat.le_of_ble_eq_true rfl) (Nat.le_of_ble_eq_true rfl) ?_
  obtain ⟨rfl, fw_3⟩ : r_2 = (0 : Int32) ∧ True := w_3
  refine lv_aload_n hx hb dL_law_1666 rfl (lv_at hl 1 rfl) ?_
  refine x_cV (own := RL) (wr := []) (As := []) C X hl.1 (cm_image l D cI cJ cZ cB cO v) [0, 1, 2, 3, 4, 5, 6, 7, 8, 9, 10, 11, 12] [] ⟨rfl, rfl, by decide, by decide, by decide⟩ (qb := 0) rfl rfl k_66_12 k_66_13 k_66_14 k_1_5 k_66_15 (n := 0) (by decide +kernel) ⟨Nat.le_of_ble_eq_true rfl, Nat.le_of_ble_eq_true rfl⟩ rfl rfl (Nat.le_of_ble_eq_true rfl) dL_law_1667 ⟨Nat.le_of_ble_eq_true rfl, Nat.le_of_ble_eq_true rfl⟩ (fun r_5 u_4 H locs w_6 X => ?_)
  have X : Wd D (fun q : Nat => s.heap.size ≤ q) s [] H locs := X
  refine W.widen (k := 159) (n := 162404) (Nat.le_of_ble_eq_true rfl) (Nat.le_of_ble_eq_true rfl) ?_
  obtain ⟨rfl, fw_6⟩ : r_5 = (0 : Int32) ∧ True := w_6
  refine lv_icmp_eq (tgt := 1721) hx hb dL_law_1670 (by decide) (fun _ => ?_) (fun c0 => absurd (by decide) c0)
  exact law_tail K0 X hl (Nat.le_of_ble_eq_true rfl) (Nat.le_of_ble_eq_true rfl)
set_option maxHeartbeats 4000000 in
set_option maxRecDepth 100000 in
theorem law_c36 {p : Program} {e : Env} {s : State} {m : MethodId} {below : List Frame} {meth : Method} {c : Code} {l : Launch} {b : Nat} {xs : Nat → Int32} {D : va_G} {cI cJ cZ cB cO : ClassId} (K0 : LwC p s m meth c b xs D [(cI, .int), (cJ, .long), (cZ, .boolean), (cB, .byte), (cO, .object "LuckLinks$World")]) {u v : Nat → Nat} {H : Heap} {locs : List Loc} {ls : Array Slot} (X : Wd D (fun q : Nat => s.heap.size ≤ q) s (xW cI cJ cZ cB cO u ++ mW cI cJ cZ cB cO v) H locs) (hl : lv_has ls 4 [(3, .int (0 : Int32)), (2, .ref (v 0)), (1, .ref (u 0)), (0, .ref b)]) :
    W p l e room_1 s m #[Value.ref b] below meth c H locs 150 141288 (lw_Z below #[Value.ref b] s) (F0 m 1675 ls []) := by
  have C := K0.1
  have hx := C.1
  have hb := C.2.1
  have hX := K0.2.2.2.1
  have hbl := K0.2.2.2.2
  have hbA : ¬ (fun q : Nat => s.heap.size ≤ q) b := Nat.not_le.mpr hbl
  refine lv_aload_n hx hb dL_law_1675 rfl (lv_at hl 2 rfl) ?_
  refine lv_aload_n hx hb dL_law_1676 rfl (lv_at hl 3 rfl) ?_
  refine lv_iload_n hx hb dL_law_1677 rfl (lv_at hl 0 rfl) ?_
  refine lv_iconst (v := (1 : Int32)) hx hb dL_law_1678 (by decide) ?_
  refine lv_iadd hx hb dL_law_1679 ?_
  refine x_eqi (show (0 : Int32) + (1 : Int32) = (1 : Int32) from by decide +kernel) ?_
  refine va_sld hx hb hX hbl hbA X.2.2.1 (i := (1 : Int32)) (vp_in_nI (n := 1) (by omega) (by omega)) dL_law_1680 ?_
  refine x_eqi (show xs ((1 : Int32).toNatClampNeg) = xs 1 from rfl) ?_
  refine x_cV (own := RL) (wr := [((v 0), .inr (12, (mF v))), ((v 13), .inl (cI, 3, .inl (fun _ => (0 : Int32))))]) (As := [.int (xs 1)]) C X hl.1 (cx_restore l D cI cJ cZ cB cO u (xs 1)) [0, 66] [98, 111] ⟨rfl, rfl, by decide, by decide, by decide⟩ (qb := 0) rfl rfl k_66_21 k_66_22 k_66_23 k_1_2 k_67_0 (n := 1) (by decide +kernel) ⟨Nat.le_of_ble_eq_true rfl, Nat.le_of_ble_eq_true rfl⟩ rfl rfl (Nat.le_of_ble_eq_true rfl) dL_law_1681 ⟨Nat.le_of_ble_eq_true rfl, Nat.le_of_ble_eq_true rfl⟩ (fun r_2 u_1 H locs w_3 X => ?_)
  have X : Wd D (fun q : Nat => s.heap.size ≤ q) s [((v 0), .inr (12, (mF v))), ((v 13), .inl (cI, 3, .inl (fun _ => (0 : Int32))))] H locs := X
  refine W.widen (k := 150) (n := 141288) (Nat.le_of_ble_eq_true rfl) (Nat.le_of_ble_eq_true rfl) ?_
  obtain ⟨rfl, fw_3⟩ : r_2 = (0 : Int32) ∧ True := w_3
  refine lv_aload_n hx hb dL_law_1684 rfl (lv_at hl 1 rfl) ?_
  refine lv_aload_n hx hb dL_law_1685 rfl (lv_at hl 3 rfl) ?_
  refine lv_iload_n hx hb dL_law_1686 rfl (lv_at hl 0 rfl) ?_
  refine lv_iconst (v := (1 : Int32)) hx hb dL_law_1687 (by decide) ?_
  refine lv_iadd hx hb dL_law_1688 ?_
  refine x_eqi (show (0 : Int32) + (1 : Int32) = (1 : Int32) from by decide +kernel) ?_
  refine va_sld hx hb hX hbl hbA X.2.2.1 (i := (1 : Int32)) (vp_in_nI (n := 1) (by omega) (by omega)) dL_law_1689 ?_
  refine x_eqi (show xs ((1 : Int32).toNatClampNeg) = xs 1 from rfl) ?_
  refine x_cV (own := RL) (wr := []) (As := [.int (xs 1)]) C X hl.1 (cm_restore l D cI cJ cZ cB cO v (xs 1)) [0, 1] [] ⟨rfl, rfl, by decide, by decide, by decide⟩ (qb := 0) rfl rfl k_67_1 k_67_2 k_67_3 k_1_5 k_67_4 (n := 1) (by decide +kernel) ⟨Nat.le_of_ble_eq_true rfl, Nat.le_of_ble_eq_true rfl⟩ rfl rfl (Nat.le_of_ble_eq_true rfl) dL_law_1690 ⟨Nat.le_of_ble_eq_true rfl, Nat.le_of_ble_eq_true rfl⟩ (fun r_5 u_4 H locs w_6 X => ?_)
  have X : Wd D (fun q : Nat => s.heap.size ≤ q) s [] H locs := X
  refine W.widen (k := 150) (n := 141288) (Nat.le_of_ble_eq_true rfl) (Nat.le_of_ble_eq_true rfl) ?_
  obtain ⟨rfl, fw_6⟩ : r_5 = (0 : Int32) ∧ True := w_6
  refine lv_icmp_eq (tgt := 1721) hx hb dL_law_1693 (by decide) (fun _ => ?_) (fun c0 => absurd (by decide) c0)
  exact law_tail K0 X hl (Nat.le_of_ble_eq_true rfl) (Nat.le_of_ble_eq_true rfl)
set_option maxHeartbeats 4000000 in
set_option maxRecDepth 100000 in
theorem law_c37 {p : Program} {e : Env} {s : State} {m : MethodId} {below : List Frame} {meth : Method} {c : Code} {l : Launch} {b : Nat} {xs : Nat → Int32} {D : va_G} {cI cJ cZ cB cO : ClassId} (K0 : LwC p s m meth c b xs D [(cI, .int), (cJ, .long), (cZ, .boolean), (cB, .byte), (cO, .object "LuckLinks$World")]) {u v : Nat → Nat} {H : Heap} {locs : List Loc} {ls : Array Slot} (X : Wd D (fun q : Nat => s.heap.size ≤ q) s (xW cI cJ cZ cB cO u ++ mW cI cJ cZ cB cO v) H locs) (hl : lv_has ls 4 [(3, .int (0 : Int32)), (2, .ref (v 0)), (1, .ref (u 0)), (0, .ref b)]) :
    W p l e room_1 s m #[Value.ref b] below meth c H locs 150 141288 (lw_Z below #[Value.ref b] s) (F0 m 1698 ls []) := by
  have C := K0.1
  have hx := C.1
  have hb := C.2.1
  have hX := K0.2.2.2.1
  have hbl := K0.2.2.2.2
  have hbA : ¬ (fun q : Nat => s.heap.size ≤ q) b := Nat.not_le.mpr hbl
  refine lv_aload_n hx hb dL_law_1698 rfl (lv_at hl 2 rfl) ?_
  refine lv_aload_n hx hb dL_law_1699 rfl (lv_at hl 3 rfl) ?_
  refine lv_iload_n hx hb dL_law_1700 rfl (lv_at hl 0 rfl) ?_
  refine lv_iconst (v := (1 : Int32)) hx hb dL_law_1701 (by decide) ?_
  refine lv_iadd hx hb dL_law_1702 ?_
  refine x_eqi (show (0 : Int32) + (1 : Int32) = (1 : Int32) from by decide +kernel) ?_
  refine va_sld hx hb hX hbl hbA X.2.2.1 (i := (1 : Int32)) (vp_in_nI (n := 1) (by omega) (by omega)) dL_law_1703 ?_
  refine x_eqi (show xs ((1 : Int32).toNatClampNeg) = xs 1 from rfl) ?_
  refine x_cV (own := RL) (wr := [((v 0), .inr (12, (mF v))), ((v 1), .inl (cI, 4, .inl (fun _ => (0 : Int32)))), ((v 2), .inl (cI, 4, .inl (fun _ => (0 : Int32)))), ((v 3), .inl (cI, 4, .inl (fun _ => (0 : Int32)))), ((v 7), .inl (cI, 160, .inl (wk0))), ((v 13), .inl (cI, 3, .inl (fun _ => (0 : Int32))))]) (As := [.int (xs 1)]) C X hl.1 (cx_count l D cI cJ cZ cB cO u (xs 1)) [0, 1, 4, 66] [98, 99, 100, 101, 105, 111] ⟨rfl, rfl, by decide, by decide, by decide⟩ (qb := 0) rfl rfl k_67_5 k_67_6 k_67_7 k_1_2 k_67_8 (n := 1) (by decide +kernel) ⟨Nat.le_of_ble_eq_true rfl, Nat.le_of_ble_eq_true rfl⟩ rfl rfl (Nat.le_of_ble_eq_true rfl) dL_law_1704 ⟨Nat.le_of_ble_eq_true rfl, Nat.le_of_ble_eq_true rfl⟩ (fun r_2 u_1 H locs w_3 X => ?_)
  have X : Wd D (fun q : Nat => s.heap.size ≤ q) s [((v 0), .inr (12, (mF v))), ((v 1), .inl (cI, 4, .inl (fun _ => (0 : Int32)))), ((v 2), .inl (cI, 4, .inl (fun _ => (0 : Int32)))), ((v 3), .inl (cI, 4, .inl (fun _ => (0 : Int32)))), ((v 7), .inl (cI, 160, .inl (wk0))), ((v 13), .inl (cI, 3, .inl (fun _ => (0 : Int32))))] H locs := X
  refine W.widen (k := 150) (n := 141288) (Nat.le_of_ble_eq_true rfl) (Nat.le_of_ble_eq_true rfl) ?_
  obtain ⟨rfl, fw_3⟩ | ⟨rfl, fw_3⟩ : (r_2 = (0 : Int32) ∧ (0 ≤ (xs 1).toInt ∧ (xs 1).toInt ≤ 7)) ∨ (r_2 = (-1 : Int32) ∧ ((xs 1).toInt < 0 ∨ 7 < (xs 1).toInt)) := w_3
  · refine lv_aload_n hx hb dL_law_1707 rfl (lv_at hl 1 rfl) ?_
    refine lv_aload_n hx hb dL_law_1708 rfl (lv_at hl 3 rfl) ?_
    refine lv_iload_n hx hb dL_law_1709 rfl (lv_at hl 0 rfl) ?_
    refine lv_iconst (v := (1 : Int32)) hx hb dL_law_1710 (by decide) ?_
    refine lv_iadd hx hb dL_law_1711 ?_
    refine x_eqi (show (0 : Int32) + (1 : Int32) = (1 : Int32) from by decide +kernel) ?_
    refine va_sld hx hb hX hbl hbA X.2.2.1 (i := (1 : Int32)) (vp_in_nI (n := 1) (by omega) (by omega)) dL_law_1712 ?_
    refine x_eqi (show xs ((1 : Int32).toNatClampNeg) = xs 1 from rfl) ?_
    refine x_cV (own := RL) (wr := []) (As := [.int (xs 1)]) C X hl.1 (cm_count l D cI cJ cZ cB cO v (xs 1)) [0, 1, 2, 3, 4, 5] [] ⟨rfl, rfl, by decide, by decide, by decide⟩ (qb := 0) rfl rfl k_67_9 k_67_10 k_67_11 k_1_5 k_67_12 (n := 1) (by decide +kernel) ⟨Nat.le_of_ble_eq_true rfl, Nat.le_of_ble_eq_true rfl⟩ rfl rfl (Nat.le_of_ble_eq_true rfl) dL_law_1713 ⟨Nat.le_of_ble_eq_true rfl, Nat.le_of_ble_eq_true rfl⟩ (fun r_5 u_4 H locs w_6 X => ?_)
    have X : Wd D (fun q : Nat => s.heap.size ≤ q) s [] H locs := X
    refine W.widen (k := 150) (n := 141288) (Nat.le_of_ble_eq_true rfl) (Nat.le_of_ble_eq_true rfl) ?_
    obtain ⟨rfl, fw_6⟩ | ⟨rfl, fw_6⟩ : (r_5 = (0 : Int32) ∧ (0 ≤ (xs 1).toInt ∧ (xs 1).toInt ≤ 7)) ∨ (r_5 = (-1 : Int32) ∧ ((xs 1).toInt < 0 ∨ 7 < (xs 1).toInt)) := w_6
    · refine lv_icmp_eq (tgt := 1721) hx hb dL_law_1716 (by decide) (fun _ => ?_) (fun c0 => absurd (by decide) c0)
      exact law_tail K0 X hl (Nat.le_of_ble_eq_true rfl) (Nat.le_of_ble_eq_true rfl)
    · exfalso; omega
  · refine lv_aload_n hx hb dL_law_1707 rfl (lv_at hl 1 rfl) ?_
    refine lv_aload_n hx hb dL_law_1708 rfl (lv_at hl 3 rfl) ?_
    refine lv_iload_n hx hb dL_law_1709 rfl (lv_at hl 0 rfl) ?_
    refine lv_iconst (v := (1 : Int32)) hx hb dL_law_1710 (by decide) ?_
    refine lv_iadd hx hb dL_law_1711 ?_
    refine x_eqi (show (0 : Int32) + (1 : Int32) = (1 : Int32) from by decide +kernel) ?_
    refine va_sld hx hb hX hbl hbA X.2.2.1 (i := (1 : Int32)) (vp_in_nI (n := 1) (by omega) (by omega)) dL_law_1712 ?_
    refine x_eqi (show xs ((1 : Int32).toNatClampNeg) = xs 1 from rfl) ?_
    refine x_cV (own := RL) (wr := []) (As := [.int (xs 1)]) C X hl.1 (cm_count l D cI cJ cZ cB cO v (xs 1)) [0, 1, 2, 3, 4, 5] [] ⟨rfl, rfl, by decide, by decide, by decide⟩ (qb := 0) rfl rfl k_67_9 k_67_10 k_67_11 k_1_5 k_67_12 (n := 1) (by decide +kernel) ⟨Nat.le_of_ble_eq_true rfl, Nat.le_of_ble_eq_true rfl⟩ rfl rfl (Nat.le_of_ble_eq_true rfl) dL_law_1713 ⟨Nat.le_of_ble_eq_true rfl, Nat.le_of_ble_eq_true rfl⟩ (fun r_8 u_7 H locs w_9 X => ?_)
    have X : Wd D (fun q : Nat => s.heap.size ≤ q) s [] H locs := X
    refine W.widen (k := 150) (n := 141288) (Nat.le_of_ble_eq_true rfl) (Nat.le_of_ble_eq_true rfl) ?_
    obtain ⟨rfl, fw_9⟩ | ⟨rfl, fw_9⟩ : (r_8 = (0 : Int32) ∧ (0 ≤ (xs 1).toInt ∧ (xs 1).toInt ≤ 7)) ∨ (r_8 = (-1 : Int32) ∧ ((xs 1).toInt < 0 ∨ 7 < (xs 1).toInt)) := w_9
    · exfalso; omega
    · refine lv_icmp_eq (tgt := 1721) hx hb dL_law_1716 (by decide) (fun _ => ?_) (fun c0 => absurd (by decide) c0)
      exact law_tail K0 X hl (Nat.le_of_ble_eq_true rfl) (Nat.le_of_ble_eq_true rfl)
