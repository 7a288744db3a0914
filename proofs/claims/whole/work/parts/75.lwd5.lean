/-! The law: decode rows. -/
theorem dL_law_1367 : decode code 1367 = .ok (.lshl, 1) := by decide +kernel
theorem dL_law_1368 : decode code 1368 = .ok (.aload_n 0, 1) := by decide +kernel
theorem dL_law_1369 : decode code 1369 = .ok (.iload_n 3, 1) := by decide +kernel
theorem dL_law_1370 : decode code 1370 = .ok (.iconst 4, 1) := by decide +kernel
theorem dL_law_1371 : decode code 1371 = .ok (.iadd, 1) := by decide +kernel
theorem dL_law_1372 : decode code 1372 = .ok (.iaload, 1) := by decide +kernel
theorem dL_law_1373 : decode code 1373 = .ok (.i2l, 1) := by decide +kernel
theorem dL_law_1374 : decode code 1374 = .ok (.ldc2_w 166, 3) := by decide +kernel
theorem dL_law_1377 : decode code 1377 = .ok (.land, 1) := by decide +kernel
theorem dL_law_1378 : decode code 1378 = .ok (.lor, 1) := by decide +kernel
theorem dL_law_1379 : decode code 1379 = .ok (.invokevirtual 168, 3) := by decide +kernel
theorem dL_law_1382 : decode code 1382 = .ok (.aload_n 2, 1) := by decide +kernel
theorem dL_law_1383 : decode code 1383 = .ok (.aload_n 0, 1) := by decide +kernel
theorem dL_law_1384 : decode code 1384 = .ok (.iload_n 3, 1) := by decide +kernel
theorem dL_law_1385 : decode code 1385 = .ok (.iconst 1, 1) := by decide +kernel
theorem dL_law_1386 : decode code 1386 = .ok (.iadd, 1) := by decide +kernel
theorem dL_law_1387 : decode code 1387 = .ok (.iaload, 1) := by decide +kernel
theorem dL_law_1388 : decode code 1388 = .ok (.aload_n 0, 1) := by decide +kernel
theorem dL_law_1389 : decode code 1389 = .ok (.iload_n 3, 1) := by decide +kernel
theorem dL_law_1390 : decode code 1390 = .ok (.iconst 2, 1) := by decide +kernel
theorem dL_law_1391 : decode code 1391 = .ok (.iadd, 1) := by decide +kernel
theorem dL_law_1392 : decode code 1392 = .ok (.iaload, 1) := by decide +kernel
theorem dL_law_1393 : decode code 1393 = .ok (.aload_n 0, 1) := by decide +kernel
theorem dL_law_1394 : decode code 1394 = .ok (.iload_n 3, 1) := by decide +kernel
theorem dL_law_1395 : decode code 1395 = .ok (.iconst 3, 1) := by decide +kernel
theorem dL_law_1396 : decode code 1396 = .ok (.iadd, 1) := by decide +kernel
theorem dL_law_1397 : decode code 1397 = .ok (.iaload, 1) := by decide +kernel
theorem dL_law_1398 : decode code 1398 = .ok (.i2l, 1) := by decide +kernel
theorem dL_law_1399 : decode code 1399 = .ok (.bipush 32, 2) := by decide +kernel
theorem dL_law_1401 : decode code 1401 = .ok (.lshl, 1) := by decide +kernel
theorem dL_law_1402 : decode code 1402 = .ok (.aload_n 0, 1) := by decide +kernel
theorem dL_law_1403 : decode code 1403 = .ok (.iload_n 3, 1) := by decide +kernel
theorem dL_law_1404 : decode code 1404 = .ok (.iconst 4, 1) := by decide +kernel
theorem dL_law_1405 : decode code 1405 = .ok (.iadd, 1) := by decide +kernel
theorem dL_law_1406 : decode code 1406 = .ok (.iaload, 1) := by decide +kernel
theorem dL_law_1407 : decode code 1407 = .ok (.i2l, 1) := by decide +kernel
theorem dL_law_1408 : decode code 1408 = .ok (.ldc2_w 166, 3) := by decide +kernel
theorem dL_law_1411 : decode code 1411 = .ok (.land, 1) := by decide +kernel
theorem dL_law_1412 : decode code 1412 = .ok (.lor, 1) := by decide +kernel
theorem dL_law_1413 : decode code 1413 = .ok (.invokevirtual 172, 3) := by decide +kernel
theorem dL_law_1416 : decode code 1416 = .ok (.if_icmp .eq 158, 3) := by decide +kernel
theorem dL_law_1419 : decode code 1419 = .ok (.iconst 0, 1) := by decide +kernel
theorem dL_law_1420 : decode code 1420 = .ok (.ireturn, 1) := by decide +kernel
theorem dL_law_1421 : decode code 1421 = .ok (.aload_n 1, 1) := by decide +kernel
theorem dL_law_1422 : decode code 1422 = .ok (.aload_n 0, 1) := by decide +kernel
theorem dL_law_1423 : decode code 1423 = .ok (.iload_n 3, 1) := by decide +kernel
theorem dL_law_1424 : decode code 1424 = .ok (.iconst 1, 1) := by decide +kernel
theorem dL_law_1425 : decode code 1425 = .ok (.iadd, 1) := by decide +kernel
theorem dL_law_1426 : decode code 1426 = .ok (.iaload, 1) := by decide +kernel
theorem dL_law_1427 : decode code 1427 = .ok (.aload_n 0, 1) := by decide +kernel
theorem dL_law_1428 : decode code 1428 = .ok (.iload_n 3, 1) := by decide +kernel
theorem dL_law_1429 : decode code 1429 = .ok (.iconst 2, 1) := by decide +kernel
theorem dL_law_1430 : decode code 1430 = .ok (.iadd, 1) := by decide +kernel
theorem dL_law_1431 : decode code 1431 = .ok (.iaload, 1) := by decide +kernel
theorem dL_law_1432 : decode code 1432 = .ok (.invokevirtual 173, 3) := by decide +kernel
theorem dL_law_1435 : decode code 1435 = .ok (.aload_n 2, 1) := by decide +kernel
theorem dL_law_1436 : decode code 1436 = .ok (.aload_n 0, 1) := by decide +kernel
theorem dL_law_1437 : decode code 1437 = .ok (.iload_n 3, 1) := by decide +kernel
theorem dL_law_1438 : decode code 1438 = .ok (.iconst 1, 1) := by decide +kernel
theorem dL_law_1439 : decode code 1439 = .ok (.iadd, 1) := by decide +kernel
theorem dL_law_1440 : decode code 1440 = .ok (.iaload, 1) := by decide +kernel
theorem dL_law_1441 : decode code 1441 = .ok (.aload_n 0, 1) := by decide +kernel
theorem dL_law_1442 : decode code 1442 = .ok (.iload_n 3, 1) := by decide +kernel
theorem dL_law_1443 : decode code 1443 = .ok (.iconst 2, 1) := by decide +kernel
theorem dL_law_1444 : decode code 1444 = .ok (.iadd, 1) := by decide +kernel
theorem dL_law_1445 : decode code 1445 = .ok (.iaload, 1) := by decide +kernel
theorem dL_law_1446 : decode code 1446 = .ok (.invokevirtual 177, 3) := by decide +kernel
theorem dL_law_1449 : decode code 1449 = .ok (.lcmp, 1) := by decide +kernel
theorem dL_law_1450 : decode code 1450 = .ok (.ifCond .eq 124, 3) := by decide +kernel
theorem dL_law_1453 : decode code 1453 = .ok (.iconst 0, 1) := by decide +kernel
theorem dL_law_1454 : decode code 1454 = .ok (.ireturn, 1) := by decide +kernel
theorem dL_law_1455 : decode code 1455 = .ok (.aload_n 1, 1) := by decide +kernel
theorem dL_law_1456 : decode code 1456 = .ok (.aload_n 0, 1) := by decide +kernel
theorem dL_law_1457 : decode code 1457 = .ok (.iload_n 3, 1) := by decide +kernel
theorem dL_law_1458 : decode code 1458 = .ok (.iconst 1, 1) := by decide +kernel
theorem dL_law_1459 : decode code 1459 = .ok (.iadd, 1) := by decide +kernel
theorem dL_law_1460 : decode code 1460 = .ok (.iaload, 1) := by decide +kernel
theorem dL_law_1461 : decode code 1461 = .ok (.aload_n 0, 1) := by decide +kernel
theorem dL_law_1462 : decode code 1462 = .ok (.iload_n 3, 1) := by decide +kernel
theorem dL_law_1463 : decode code 1463 = .ok (.iconst 2, 1) := by decide +kernel
theorem dL_law_1464 : decode code 1464 = .ok (.iadd, 1) := by decide +kernel
theorem dL_law_1465 : decode code 1465 = .ok (.iaload, 1) := by decide +kernel
theorem dL_law_1466 : decode code 1466 = .ok (.aload_n 0, 1) := by decide +kernel
theorem dL_law_1467 : decode code 1467 = .ok (.iload_n 3, 1) := by decide +kernel
theorem dL_law_1468 : decode code 1468 = .ok (.iconst 3, 1) := by decide +kernel
theorem dL_law_1469 : decode code 1469 = .ok (.iadd, 1) := by decide +kernel
theorem dL_law_1470 : decode code 1470 = .ok (.iaload, 1) := by decide +kernel
theorem dL_law_1471 : decode code 1471 = .ok (.aload_n 0, 1) := by decide +kernel
theorem dL_law_1472 : decode code 1472 = .ok (.iload_n 3, 1) := by decide +kernel
theorem dL_law_1473 : decode code 1473 = .ok (.iconst 4, 1) := by decide +kernel
theorem dL_law_1474 : decode code 1474 = .ok (.iadd, 1) := by decide +kernel
theorem dL_law_1475 : decode code 1475 = .ok (.iaload, 1) := by decide +kernel
theorem dL_law_1476 : decode code 1476 = .ok (.aload_n 0, 1) := by decide +kernel
theorem dL_law_1477 : decode code 1477 = .ok (.iload_n 3, 1) := by decide +kernel
theorem dL_law_1478 : decode code 1478 = .ok (.iconst 5, 1) := by decide +kernel
theorem dL_law_1479 : decode code 1479 = .ok (.iadd, 1) := by decide +kernel
theorem dL_law_1480 : decode code 1480 = .ok (.iaload, 1) := by decide +kernel
theorem dL_law_1481 : decode code 1481 = .ok (.invokevirtual 178, 3) := by decide +kernel
theorem dL_law_1484 : decode code 1484 = .ok (.aload_n 2, 1) := by decide +kernel
theorem dL_law_1485 : decode code 1485 = .ok (.aload_n 0, 1) := by decide +kernel
theorem dL_law_1486 : decode code 1486 = .ok (.iload_n 3, 1) := by decide +kernel
theorem dL_law_1487 : decode code 1487 = .ok (.iconst 1, 1) := by decide +kernel
theorem dL_law_1488 : decode code 1488 = .ok (.iadd, 1) := by decide +kernel
theorem dL_law_1489 : decode code 1489 = .ok (.iaload, 1) := by decide +kernel
theorem dL_law_1490 : decode code 1490 = .ok (.aload_n 0, 1) := by decide +kernel
theorem dL_law_1491 : decode code 1491 = .ok (.iload_n 3, 1) := by decide +kernel
theorem dL_law_1492 : decode code 1492 = .ok (.iconst 2, 1) := by decide +kernel
theorem dL_law_1493 : decode code 1493 = .ok (.iadd, 1) := by decide +kernel
theorem dL_law_1494 : decode code 1494 = .ok (.iaload, 1) := by decide +kernel
theorem dL_law_1495 : decode code 1495 = .ok (.aload_n 0, 1) := by decide +kernel
theorem dL_law_1496 : decode code 1496 = .ok (.iload_n 3, 1) := by decide +kernel
theorem dL_law_1497 : decode code 1497 = .ok (.iconst 3, 1) := by decide +kernel
theorem dL_law_1498 : decode code 1498 = .ok (.iadd, 1) := by decide +kernel
theorem dL_law_1499 : decode code 1499 = .ok (.iaload, 1) := by decide +kernel
theorem dL_law_1500 : decode code 1500 = .ok (.aload_n 0, 1) := by decide +kernel
theorem dL_law_1501 : decode code 1501 = .ok (.iload_n 3, 1) := by decide +kernel
theorem dL_law_1502 : decode code 1502 = .ok (.iconst 4, 1) := by decide +kernel
theorem dL_law_1503 : decode code 1503 = .ok (.iadd, 1) := by decide +kernel
theorem dL_law_1504 : decode code 1504 = .ok (.iaload, 1) := by decide +kernel
theorem dL_law_1505 : decode code 1505 = .ok (.aload_n 0, 1) := by decide +kernel
theorem dL_law_1506 : decode code 1506 = .ok (.iload_n 3, 1) := by decide +kernel
theorem dL_law_1507 : decode code 1507 = .ok (.iconst 5, 1) := by decide +kernel
theorem dL_law_1508 : decode code 1508 = .ok (.iadd, 1) := by decide +kernel
theorem dL_law_1509 : decode code 1509 = .ok (.iaload, 1) := by decide +kernel
theorem dL_law_1510 : decode code 1510 = .ok (.invokevirtual 182, 3) := by decide +kernel
theorem dL_law_1513 : decode code 1513 = .ok (.if_icmp .eq 61, 3) := by decide +kernel
theorem dL_law_1516 : decode code 1516 = .ok (.iconst 0, 1) := by decide +kernel
theorem dL_law_1517 : decode code 1517 = .ok (.ireturn, 1) := by decide +kernel
theorem dL_law_1518 : decode code 1518 = .ok (.aload_n 1, 1) := by decide +kernel
theorem dL_law_1519 : decode code 1519 = .ok (.aload_n 0, 1) := by decide +kernel
theorem dL_law_1520 : decode code 1520 = .ok (.iload_n 3, 1) := by decide +kernel
theorem dL_law_1521 : decode code 1521 = .ok (.iconst 1, 1) := by decide +kernel
theorem dL_law_1522 : decode code 1522 = .ok (.iadd, 1) := by decide +kernel
theorem dL_law_1523 : decode code 1523 = .ok (.iaload, 1) := by decide +kernel
theorem dL_law_1524 : decode code 1524 = .ok (.aload_n 0, 1) := by decide +kernel
theorem dL_law_1525 : decode code 1525 = .ok (.iload_n 3, 1) := by decide +kernel
theorem dL_law_1526 : decode code 1526 = .ok (.iconst 2, 1) := by decide +kernel
theorem dL_law_1527 : decode code 1527 = .ok (.iadd, 1) := by decide +kernel
theorem dL_law_1528 : decode code 1528 = .ok (.iaload, 1) := by decide +kernel
theorem dL_law_1529 : decode code 1529 = .ok (.invokevirtual 183, 3) := by decide +kernel
theorem dL_law_1532 : decode code 1532 = .ok (.aload_n 2, 1) := by decide +kernel
theorem dL_law_1533 : decode code 1533 = .ok (.aload_n 0, 1) := by decide +kernel
theorem dL_law_1534 : decode code 1534 = .ok (.iload_n 3, 1) := by decide +kernel
theorem dL_law_1535 : decode code 1535 = .ok (.iconst 1, 1) := by decide +kernel
theorem dL_law_1536 : decode code 1536 = .ok (.iadd, 1) := by decide +kernel
theorem dL_law_1537 : decode code 1537 = .ok (.iaload, 1) := by decide +kernel
theorem dL_law_1538 : decode code 1538 = .ok (.aload_n 0, 1) := by decide +kernel
theorem dL_law_1539 : decode code 1539 = .ok (.iload_n 3, 1) := by decide +kernel
theorem dL_law_1540 : decode code 1540 = .ok (.iconst 2, 1) := by decide +kernel
theorem dL_law_1541 : decode code 1541 = .ok (.iadd, 1) := by decide +kernel
theorem dL_law_1542 : decode code 1542 = .ok (.iaload, 1) := by decide +kernel
theorem dL_law_1543 : decode code 1543 = .ok (.invokevirtual 186, 3) := by decide +kernel
theorem dL_law_1546 : decode code 1546 = .ok (.if_icmp .eq 28, 3) := by decide +kernel
theorem dL_law_1549 : decode code 1549 = .ok (.iconst 0, 1) := by decide +kernel
theorem dL_law_1550 : decode code 1550 = .ok (.ireturn, 1) := by decide +kernel
theorem dL_law_1551 : decode code 1551 = .ok (.aload_n 1, 1) := by decide +kernel
theorem dL_law_1552 : decode code 1552 = .ok (.aload_n 0, 1) := by decide +kernel
theorem dL_law_1553 : decode code 1553 = .ok (.iload_n 3, 1) := by decide +kernel
theorem dL_law_1554 : decode code 1554 = .ok (.iconst 1, 1) := by decide +kernel
theorem dL_law_1555 : decode code 1555 = .ok (.iadd, 1) := by decide +kernel
theorem dL_law_1556 : decode code 1556 = .ok (.iaload, 1) := by decide +kernel
theorem dL_law_1557 : decode code 1557 = .ok (.invokevirtual 187, 3) := by decide +kernel
theorem dL_law_1560 : decode code 1560 = .ok (.aload_n 2, 1) := by decide +kernel
theorem dL_law_1561 : decode code 1561 = .ok (.aload_n 0, 1) := by decide +kernel
theorem dL_law_1562 : decode code 1562 = .ok (.iload_n 3, 1) := by decide +kernel
theorem dL_law_1563 : decode code 1563 = .ok (.iconst 1, 1) := by decide +kernel
theorem dL_law_1564 : decode code 1564 = .ok (.iadd, 1) := by decide +kernel
theorem dL_law_1565 : decode code 1565 = .ok (.iaload, 1) := by decide +kernel
theorem dL_law_1566 : decode code 1566 = .ok (.invokevirtual 190, 3) := by decide +kernel
theorem dL_law_1569 : decode code 1569 = .ok (.if_icmp .eq 5, 3) := by decide +kernel
theorem dL_law_1572 : decode code 1572 = .ok (.iconst 0, 1) := by decide +kernel
theorem dL_law_1573 : decode code 1573 = .ok (.ireturn, 1) := by decide +kernel
theorem dL_law_1574 : decode code 1574 = .ok (.iinc 3 6, 3) := by decide +kernel
theorem dL_law_1577 : decode code 1577 = .ok (.goto (-1559), 3) := by decide +kernel
theorem dL_law_1580 : decode code 1580 = .ok (.iconst 1, 1) := by decide +kernel
theorem dL_law_1581 : decode code 1581 = .ok (.ireturn, 1) := by decide +kernel
