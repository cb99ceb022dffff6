/-! the law's instructions (printed by wip/gen/g99d.py) -/
theorem dl_1338 : decode code 1338 = .ok (.aload_n 0, 1) := by decide +kernel
theorem dl_1339 : decode code 1339 = .ok (.iload_n 3, 1) := by decide +kernel
theorem dl_1340 : decode code 1340 = .ok (.iconst 1, 1) := by decide +kernel
theorem dl_1341 : decode code 1341 = .ok (.iadd, 1) := by decide +kernel
theorem dl_1342 : decode code 1342 = .ok (.iaload, 1) := by decide +kernel
theorem dl_1343 : decode code 1343 = .ok (.aload_n 0, 1) := by decide +kernel
theorem dl_1344 : decode code 1344 = .ok (.iload_n 3, 1) := by decide +kernel
theorem dl_1345 : decode code 1345 = .ok (.iconst 2, 1) := by decide +kernel
theorem dl_1346 : decode code 1346 = .ok (.iadd, 1) := by decide +kernel
theorem dl_1347 : decode code 1347 = .ok (.iaload, 1) := by decide +kernel
theorem dl_1348 : decode code 1348 = .ok (.invokevirtual 171, 3) := by decide +kernel
theorem dl_1351 : decode code 1351 = .ok (.aload_n 2, 1) := by decide +kernel
theorem dl_1352 : decode code 1352 = .ok (.aload_n 0, 1) := by decide +kernel
theorem dl_1353 : decode code 1353 = .ok (.iload_n 3, 1) := by decide +kernel
theorem dl_1354 : decode code 1354 = .ok (.iconst 1, 1) := by decide +kernel
theorem dl_1355 : decode code 1355 = .ok (.iadd, 1) := by decide +kernel
theorem dl_1356 : decode code 1356 = .ok (.iaload, 1) := by decide +kernel
theorem dl_1357 : decode code 1357 = .ok (.aload_n 0, 1) := by decide +kernel
theorem dl_1358 : decode code 1358 = .ok (.iload_n 3, 1) := by decide +kernel
theorem dl_1359 : decode code 1359 = .ok (.iconst 2, 1) := by decide +kernel
theorem dl_1360 : decode code 1360 = .ok (.iadd, 1) := by decide +kernel
theorem dl_1361 : decode code 1361 = .ok (.iaload, 1) := by decide +kernel
theorem dl_1362 : decode code 1362 = .ok (.invokevirtual 174, 3) := by decide +kernel
theorem dl_1365 : decode code 1365 = .ok (.if_icmp .eq 186, 3) := by decide +kernel
theorem dl_1368 : decode code 1368 = .ok (.iconst 0, 1) := by decide +kernel
theorem dl_1369 : decode code 1369 = .ok (.ireturn, 1) := by decide +kernel
theorem dl_1370 : decode code 1370 = .ok (.aload_n 1, 1) := by decide +kernel
theorem dl_1371 : decode code 1371 = .ok (.invokevirtual 175, 3) := by decide +kernel
theorem dl_1374 : decode code 1374 = .ok (.aload_n 2, 1) := by decide +kernel
theorem dl_1375 : decode code 1375 = .ok (.invokevirtual 178, 3) := by decide +kernel
theorem dl_1378 : decode code 1378 = .ok (.if_icmp .eq 173, 3) := by decide +kernel
theorem dl_1381 : decode code 1381 = .ok (.iconst 0, 1) := by decide +kernel
theorem dl_1382 : decode code 1382 = .ok (.ireturn, 1) := by decide +kernel
theorem dl_1383 : decode code 1383 = .ok (.aload_n 1, 1) := by decide +kernel
theorem dl_1384 : decode code 1384 = .ok (.aload_n 0, 1) := by decide +kernel
theorem dl_1385 : decode code 1385 = .ok (.iload_n 3, 1) := by decide +kernel
theorem dl_1386 : decode code 1386 = .ok (.iconst 1, 1) := by decide +kernel
theorem dl_1387 : decode code 1387 = .ok (.iadd, 1) := by decide +kernel
theorem dl_1388 : decode code 1388 = .ok (.iaload, 1) := by decide +kernel
theorem dl_1389 : decode code 1389 = .ok (.aload_n 0, 1) := by decide +kernel
theorem dl_1390 : decode code 1390 = .ok (.iload_n 3, 1) := by decide +kernel
theorem dl_1391 : decode code 1391 = .ok (.iconst 2, 1) := by decide +kernel
theorem dl_1392 : decode code 1392 = .ok (.iadd, 1) := by decide +kernel
theorem dl_1393 : decode code 1393 = .ok (.iaload, 1) := by decide +kernel
theorem dl_1394 : decode code 1394 = .ok (.invokevirtual 179, 3) := by decide +kernel
theorem dl_1397 : decode code 1397 = .ok (.aload_n 2, 1) := by decide +kernel
theorem dl_1398 : decode code 1398 = .ok (.aload_n 0, 1) := by decide +kernel
theorem dl_1399 : decode code 1399 = .ok (.iload_n 3, 1) := by decide +kernel
theorem dl_1400 : decode code 1400 = .ok (.iconst 1, 1) := by decide +kernel
theorem dl_1401 : decode code 1401 = .ok (.iadd, 1) := by decide +kernel
theorem dl_1402 : decode code 1402 = .ok (.iaload, 1) := by decide +kernel
theorem dl_1403 : decode code 1403 = .ok (.aload_n 0, 1) := by decide +kernel
theorem dl_1404 : decode code 1404 = .ok (.iload_n 3, 1) := by decide +kernel
theorem dl_1405 : decode code 1405 = .ok (.iconst 2, 1) := by decide +kernel
theorem dl_1406 : decode code 1406 = .ok (.iadd, 1) := by decide +kernel
theorem dl_1407 : decode code 1407 = .ok (.iaload, 1) := by decide +kernel
theorem dl_1408 : decode code 1408 = .ok (.invokevirtual 182, 3) := by decide +kernel
theorem dl_1411 : decode code 1411 = .ok (.if_icmp .eq 140, 3) := by decide +kernel
theorem dl_1414 : decode code 1414 = .ok (.iconst 0, 1) := by decide +kernel
theorem dl_1415 : decode code 1415 = .ok (.ireturn, 1) := by decide +kernel
theorem dl_1416 : decode code 1416 = .ok (.aload_n 1, 1) := by decide +kernel
theorem dl_1417 : decode code 1417 = .ok (.aload_n 0, 1) := by decide +kernel
theorem dl_1418 : decode code 1418 = .ok (.iload_n 3, 1) := by decide +kernel
theorem dl_1419 : decode code 1419 = .ok (.iconst 1, 1) := by decide +kernel
theorem dl_1420 : decode code 1420 = .ok (.iadd, 1) := by decide +kernel
theorem dl_1421 : decode code 1421 = .ok (.iaload, 1) := by decide +kernel
theorem dl_1422 : decode code 1422 = .ok (.aload_n 0, 1) := by decide +kernel
theorem dl_1423 : decode code 1423 = .ok (.iload_n 3, 1) := by decide +kernel
theorem dl_1424 : decode code 1424 = .ok (.iconst 2, 1) := by decide +kernel
theorem dl_1425 : decode code 1425 = .ok (.iadd, 1) := by decide +kernel
theorem dl_1426 : decode code 1426 = .ok (.iaload, 1) := by decide +kernel
theorem dl_1427 : decode code 1427 = .ok (.invokevirtual 183, 3) := by decide +kernel
theorem dl_1430 : decode code 1430 = .ok (.aload_n 2, 1) := by decide +kernel
theorem dl_1431 : decode code 1431 = .ok (.aload_n 0, 1) := by decide +kernel
theorem dl_1432 : decode code 1432 = .ok (.iload_n 3, 1) := by decide +kernel
theorem dl_1433 : decode code 1433 = .ok (.iconst 1, 1) := by decide +kernel
theorem dl_1434 : decode code 1434 = .ok (.iadd, 1) := by decide +kernel
theorem dl_1435 : decode code 1435 = .ok (.iaload, 1) := by decide +kernel
theorem dl_1436 : decode code 1436 = .ok (.aload_n 0, 1) := by decide +kernel
theorem dl_1437 : decode code 1437 = .ok (.iload_n 3, 1) := by decide +kernel
theorem dl_1438 : decode code 1438 = .ok (.iconst 2, 1) := by decide +kernel
theorem dl_1439 : decode code 1439 = .ok (.iadd, 1) := by decide +kernel
theorem dl_1440 : decode code 1440 = .ok (.iaload, 1) := by decide +kernel
theorem dl_1441 : decode code 1441 = .ok (.invokevirtual 186, 3) := by decide +kernel
theorem dl_1444 : decode code 1444 = .ok (.if_icmp .eq 107, 3) := by decide +kernel
theorem dl_1447 : decode code 1447 = .ok (.iconst 0, 1) := by decide +kernel
theorem dl_1448 : decode code 1448 = .ok (.ireturn, 1) := by decide +kernel
theorem dl_1449 : decode code 1449 = .ok (.aload_n 1, 1) := by decide +kernel
theorem dl_1450 : decode code 1450 = .ok (.aload_n 0, 1) := by decide +kernel
theorem dl_1451 : decode code 1451 = .ok (.iload_n 3, 1) := by decide +kernel
theorem dl_1452 : decode code 1452 = .ok (.iconst 1, 1) := by decide +kernel
theorem dl_1453 : decode code 1453 = .ok (.iadd, 1) := by decide +kernel
theorem dl_1454 : decode code 1454 = .ok (.iaload, 1) := by decide +kernel
theorem dl_1455 : decode code 1455 = .ok (.aload_n 0, 1) := by decide +kernel
theorem dl_1456 : decode code 1456 = .ok (.iload_n 3, 1) := by decide +kernel
theorem dl_1457 : decode code 1457 = .ok (.iconst 2, 1) := by decide +kernel
theorem dl_1458 : decode code 1458 = .ok (.iadd, 1) := by decide +kernel
theorem dl_1459 : decode code 1459 = .ok (.iaload, 1) := by decide +kernel
theorem dl_1460 : decode code 1460 = .ok (.invokevirtual 187, 3) := by decide +kernel
theorem dl_1463 : decode code 1463 = .ok (.aload_n 2, 1) := by decide +kernel
theorem dl_1464 : decode code 1464 = .ok (.aload_n 0, 1) := by decide +kernel
theorem dl_1465 : decode code 1465 = .ok (.iload_n 3, 1) := by decide +kernel
theorem dl_1466 : decode code 1466 = .ok (.iconst 1, 1) := by decide +kernel
theorem dl_1467 : decode code 1467 = .ok (.iadd, 1) := by decide +kernel
theorem dl_1468 : decode code 1468 = .ok (.iaload, 1) := by decide +kernel
theorem dl_1469 : decode code 1469 = .ok (.aload_n 0, 1) := by decide +kernel
theorem dl_1470 : decode code 1470 = .ok (.iload_n 3, 1) := by decide +kernel
theorem dl_1471 : decode code 1471 = .ok (.iconst 2, 1) := by decide +kernel
theorem dl_1472 : decode code 1472 = .ok (.iadd, 1) := by decide +kernel
theorem dl_1473 : decode code 1473 = .ok (.iaload, 1) := by decide +kernel
theorem dl_1474 : decode code 1474 = .ok (.invokevirtual 190, 3) := by decide +kernel
theorem dl_1477 : decode code 1477 = .ok (.if_icmp .eq 74, 3) := by decide +kernel
theorem dl_1480 : decode code 1480 = .ok (.iconst 0, 1) := by decide +kernel
theorem dl_1481 : decode code 1481 = .ok (.ireturn, 1) := by decide +kernel
theorem dl_1482 : decode code 1482 = .ok (.aload_n 1, 1) := by decide +kernel
theorem dl_1483 : decode code 1483 = .ok (.aload_n 0, 1) := by decide +kernel
theorem dl_1484 : decode code 1484 = .ok (.iload_n 3, 1) := by decide +kernel
theorem dl_1485 : decode code 1485 = .ok (.iconst 1, 1) := by decide +kernel
theorem dl_1486 : decode code 1486 = .ok (.iadd, 1) := by decide +kernel
theorem dl_1487 : decode code 1487 = .ok (.iaload, 1) := by decide +kernel
theorem dl_1488 : decode code 1488 = .ok (.aload_n 0, 1) := by decide +kernel
theorem dl_1489 : decode code 1489 = .ok (.iload_n 3, 1) := by decide +kernel
theorem dl_1490 : decode code 1490 = .ok (.iconst 2, 1) := by decide +kernel
theorem dl_1491 : decode code 1491 = .ok (.iadd, 1) := by decide +kernel
theorem dl_1492 : decode code 1492 = .ok (.iaload, 1) := by decide +kernel
theorem dl_1493 : decode code 1493 = .ok (.invokevirtual 191, 3) := by decide +kernel
theorem dl_1496 : decode code 1496 = .ok (.aload_n 2, 1) := by decide +kernel
theorem dl_1497 : decode code 1497 = .ok (.aload_n 0, 1) := by decide +kernel
theorem dl_1498 : decode code 1498 = .ok (.iload_n 3, 1) := by decide +kernel
theorem dl_1499 : decode code 1499 = .ok (.iconst 1, 1) := by decide +kernel
theorem dl_1500 : decode code 1500 = .ok (.iadd, 1) := by decide +kernel
theorem dl_1501 : decode code 1501 = .ok (.iaload, 1) := by decide +kernel
theorem dl_1502 : decode code 1502 = .ok (.aload_n 0, 1) := by decide +kernel
theorem dl_1503 : decode code 1503 = .ok (.iload_n 3, 1) := by decide +kernel
theorem dl_1504 : decode code 1504 = .ok (.iconst 2, 1) := by decide +kernel
theorem dl_1505 : decode code 1505 = .ok (.iadd, 1) := by decide +kernel
theorem dl_1506 : decode code 1506 = .ok (.iaload, 1) := by decide +kernel
theorem dl_1507 : decode code 1507 = .ok (.invokevirtual 194, 3) := by decide +kernel
theorem dl_1510 : decode code 1510 = .ok (.if_icmp .eq 41, 3) := by decide +kernel
theorem dl_1513 : decode code 1513 = .ok (.iconst 0, 1) := by decide +kernel
theorem dl_1514 : decode code 1514 = .ok (.ireturn, 1) := by decide +kernel
theorem dl_1515 : decode code 1515 = .ok (.aload_n 1, 1) := by decide +kernel
theorem dl_1516 : decode code 1516 = .ok (.aload_n 0, 1) := by decide +kernel
theorem dl_1517 : decode code 1517 = .ok (.iload_n 3, 1) := by decide +kernel
theorem dl_1518 : decode code 1518 = .ok (.iconst 1, 1) := by decide +kernel
theorem dl_1519 : decode code 1519 = .ok (.iadd, 1) := by decide +kernel
theorem dl_1520 : decode code 1520 = .ok (.iaload, 1) := by decide +kernel
theorem dl_1521 : decode code 1521 = .ok (.invokevirtual 195, 3) := by decide +kernel
theorem dl_1524 : decode code 1524 = .ok (.aload_n 2, 1) := by decide +kernel
theorem dl_1525 : decode code 1525 = .ok (.aload_n 0, 1) := by decide +kernel
theorem dl_1526 : decode code 1526 = .ok (.iload_n 3, 1) := by decide +kernel
theorem dl_1527 : decode code 1527 = .ok (.iconst 1, 1) := by decide +kernel
theorem dl_1528 : decode code 1528 = .ok (.iadd, 1) := by decide +kernel
theorem dl_1529 : decode code 1529 = .ok (.iaload, 1) := by decide +kernel
theorem dl_1530 : decode code 1530 = .ok (.invokevirtual 198, 3) := by decide +kernel
theorem dl_1533 : decode code 1533 = .ok (.if_icmp .eq 18, 3) := by decide +kernel
theorem dl_1536 : decode code 1536 = .ok (.iconst 0, 1) := by decide +kernel
theorem dl_1537 : decode code 1537 = .ok (.ireturn, 1) := by decide +kernel
theorem dl_1538 : decode code 1538 = .ok (.aload_n 1, 1) := by decide +kernel
theorem dl_1539 : decode code 1539 = .ok (.invokevirtual 199, 3) := by decide +kernel
theorem dl_1542 : decode code 1542 = .ok (.aload_n 2, 1) := by decide +kernel
theorem dl_1543 : decode code 1543 = .ok (.invokevirtual 202, 3) := by decide +kernel
theorem dl_1546 : decode code 1546 = .ok (.if_icmp .eq 5, 3) := by decide +kernel
theorem dl_1549 : decode code 1549 = .ok (.iconst 0, 1) := by decide +kernel
theorem dl_1550 : decode code 1550 = .ok (.ireturn, 1) := by decide +kernel
theorem dl_1551 : decode code 1551 = .ok (.iinc 3 6, 3) := by decide +kernel
theorem dl_1554 : decode code 1554 = .ok (.goto (-1536), 3) := by decide +kernel
theorem dl_1557 : decode code 1557 = .ok (.iconst 1, 1) := by decide +kernel
theorem dl_1558 : decode code 1558 = .ok (.ireturn, 1) := by decide +kernel
