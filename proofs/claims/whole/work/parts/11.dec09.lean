theorem dL_law_1310 : decode cL_law 1310 = .ok (.goto 4, 3) := by decide +kernel
theorem dL_law_1313 : decode cL_law 1313 = .ok (.iconst 0, 1) := by decide +kernel
theorem dL_law_1314 : decode cL_law 1314 = .ok (.invokevirtual 137, 3) := by decide +kernel
theorem dL_law_1317 : decode cL_law 1317 = .ok (.if_icmp .eq 161, 3) := by decide +kernel
theorem dL_law_1320 : decode cL_law 1320 = .ok (.iconst 0, 1) := by decide +kernel
theorem dL_law_1321 : decode cL_law 1321 = .ok (.ireturn, 1) := by decide +kernel
theorem dL_law_1322 : decode cL_law 1322 = .ok (.aload_n 1, 1) := by decide +kernel
theorem dL_law_1323 : decode cL_law 1323 = .ok (.aload_n 0, 1) := by decide +kernel
theorem dL_law_1324 : decode cL_law 1324 = .ok (.iload 4, 2) := by decide +kernel
theorem dL_law_1326 : decode cL_law 1326 = .ok (.iconst 1, 1) := by decide +kernel
theorem dL_law_1327 : decode cL_law 1327 = .ok (.iadd, 1) := by decide +kernel
theorem dL_law_1328 : decode cL_law 1328 = .ok (.iaload, 1) := by decide +kernel
theorem dL_law_1329 : decode cL_law 1329 = .ok (.aload_n 0, 1) := by decide +kernel
theorem dL_law_1330 : decode cL_law 1330 = .ok (.iload 4, 2) := by decide +kernel
theorem dL_law_1332 : decode cL_law 1332 = .ok (.iconst 2, 1) := by decide +kernel
theorem dL_law_1333 : decode cL_law 1333 = .ok (.iadd, 1) := by decide +kernel
theorem dL_law_1334 : decode cL_law 1334 = .ok (.iaload, 1) := by decide +kernel
theorem dL_law_1335 : decode cL_law 1335 = .ok (.aload_n 0, 1) := by decide +kernel
theorem dL_law_1336 : decode cL_law 1336 = .ok (.iload 4, 2) := by decide +kernel
theorem dL_law_1338 : decode cL_law 1338 = .ok (.iconst 3, 1) := by decide +kernel
theorem dL_law_1339 : decode cL_law 1339 = .ok (.iadd, 1) := by decide +kernel
theorem dL_law_1340 : decode cL_law 1340 = .ok (.iaload, 1) := by decide +kernel
theorem dL_law_1341 : decode cL_law 1341 = .ok (.ifCond .eq 7, 3) := by decide +kernel
theorem dL_law_1344 : decode cL_law 1344 = .ok (.iconst 1, 1) := by decide +kernel
theorem dL_law_1345 : decode cL_law 1345 = .ok (.goto 4, 3) := by decide +kernel
theorem dL_law_1348 : decode cL_law 1348 = .ok (.iconst 0, 1) := by decide +kernel
theorem dL_law_1349 : decode cL_law 1349 = .ok (.invokevirtual 138, 3) := by decide +kernel
theorem dL_law_1352 : decode cL_law 1352 = .ok (.aload_n 2, 1) := by decide +kernel
theorem dL_law_1353 : decode cL_law 1353 = .ok (.aload_n 0, 1) := by decide +kernel
theorem dL_law_1354 : decode cL_law 1354 = .ok (.iload 4, 2) := by decide +kernel
theorem dL_law_1356 : decode cL_law 1356 = .ok (.iconst 1, 1) := by decide +kernel
theorem dL_law_1357 : decode cL_law 1357 = .ok (.iadd, 1) := by decide +kernel
theorem dL_law_1358 : decode cL_law 1358 = .ok (.iaload, 1) := by decide +kernel
theorem dL_law_1359 : decode cL_law 1359 = .ok (.aload_n 0, 1) := by decide +kernel
theorem dL_law_1360 : decode cL_law 1360 = .ok (.iload 4, 2) := by decide +kernel
theorem dL_law_1362 : decode cL_law 1362 = .ok (.iconst 2, 1) := by decide +kernel
theorem dL_law_1363 : decode cL_law 1363 = .ok (.iadd, 1) := by decide +kernel
theorem dL_law_1364 : decode cL_law 1364 = .ok (.iaload, 1) := by decide +kernel
theorem dL_law_1365 : decode cL_law 1365 = .ok (.aload_n 0, 1) := by decide +kernel
theorem dL_law_1366 : decode cL_law 1366 = .ok (.iload 4, 2) := by decide +kernel
theorem dL_law_1368 : decode cL_law 1368 = .ok (.iconst 3, 1) := by decide +kernel
theorem dL_law_1369 : decode cL_law 1369 = .ok (.iadd, 1) := by decide +kernel
theorem dL_law_1370 : decode cL_law 1370 = .ok (.iaload, 1) := by decide +kernel
theorem dL_law_1371 : decode cL_law 1371 = .ok (.ifCond .eq 7, 3) := by decide +kernel
theorem dL_law_1374 : decode cL_law 1374 = .ok (.iconst 1, 1) := by decide +kernel
theorem dL_law_1375 : decode cL_law 1375 = .ok (.goto 4, 3) := by decide +kernel
theorem dL_law_1378 : decode cL_law 1378 = .ok (.iconst 0, 1) := by decide +kernel
theorem dL_law_1379 : decode cL_law 1379 = .ok (.invokevirtual 142, 3) := by decide +kernel
theorem dL_law_1382 : decode cL_law 1382 = .ok (.if_icmp .eq 96, 3) := by decide +kernel
theorem dL_law_1385 : decode cL_law 1385 = .ok (.iconst 0, 1) := by decide +kernel
theorem dL_law_1386 : decode cL_law 1386 = .ok (.ireturn, 1) := by decide +kernel
theorem dL_law_1387 : decode cL_law 1387 = .ok (.aload_n 1, 1) := by decide +kernel
theorem dL_law_1388 : decode cL_law 1388 = .ok (.aload_n 0, 1) := by decide +kernel
theorem dL_law_1389 : decode cL_law 1389 = .ok (.iload 4, 2) := by decide +kernel
theorem dL_law_1391 : decode cL_law 1391 = .ok (.iconst 1, 1) := by decide +kernel
theorem dL_law_1392 : decode cL_law 1392 = .ok (.iadd, 1) := by decide +kernel
theorem dL_law_1393 : decode cL_law 1393 = .ok (.iaload, 1) := by decide +kernel
theorem dL_law_1394 : decode cL_law 1394 = .ok (.aload_n 0, 1) := by decide +kernel
theorem dL_law_1395 : decode cL_law 1395 = .ok (.iload 4, 2) := by decide +kernel
theorem dL_law_1397 : decode cL_law 1397 = .ok (.iconst 2, 1) := by decide +kernel
theorem dL_law_1398 : decode cL_law 1398 = .ok (.iadd, 1) := by decide +kernel
theorem dL_law_1399 : decode cL_law 1399 = .ok (.iaload, 1) := by decide +kernel
theorem dL_law_1400 : decode cL_law 1400 = .ok (.aload_n 0, 1) := by decide +kernel
theorem dL_law_1401 : decode cL_law 1401 = .ok (.iload 4, 2) := by decide +kernel
theorem dL_law_1403 : decode cL_law 1403 = .ok (.iconst 3, 1) := by decide +kernel
theorem dL_law_1404 : decode cL_law 1404 = .ok (.iadd, 1) := by decide +kernel
theorem dL_law_1405 : decode cL_law 1405 = .ok (.iaload, 1) := by decide +kernel
theorem dL_law_1406 : decode cL_law 1406 = .ok (.ifCond .eq 7, 3) := by decide +kernel
theorem dL_law_1409 : decode cL_law 1409 = .ok (.iconst 1, 1) := by decide +kernel
theorem dL_law_1410 : decode cL_law 1410 = .ok (.goto 4, 3) := by decide +kernel
theorem dL_law_1413 : decode cL_law 1413 = .ok (.iconst 0, 1) := by decide +kernel
theorem dL_law_1414 : decode cL_law 1414 = .ok (.invokevirtual 143, 3) := by decide +kernel
theorem dL_law_1417 : decode cL_law 1417 = .ok (.aload_n 2, 1) := by decide +kernel
theorem dL_law_1418 : decode cL_law 1418 = .ok (.aload_n 0, 1) := by decide +kernel
theorem dL_law_1419 : decode cL_law 1419 = .ok (.iload 4, 2) := by decide +kernel
theorem dL_law_1421 : decode cL_law 1421 = .ok (.iconst 1, 1) := by decide +kernel
theorem dL_law_1422 : decode cL_law 1422 = .ok (.iadd, 1) := by decide +kernel
theorem dL_law_1423 : decode cL_law 1423 = .ok (.iaload, 1) := by decide +kernel
theorem dL_law_1424 : decode cL_law 1424 = .ok (.aload_n 0, 1) := by decide +kernel
theorem dL_law_1425 : decode cL_law 1425 = .ok (.iload 4, 2) := by decide +kernel
theorem dL_law_1427 : decode cL_law 1427 = .ok (.iconst 2, 1) := by decide +kernel
theorem dL_law_1428 : decode cL_law 1428 = .ok (.iadd, 1) := by decide +kernel
theorem dL_law_1429 : decode cL_law 1429 = .ok (.iaload, 1) := by decide +kernel
theorem dL_law_1430 : decode cL_law 1430 = .ok (.aload_n 0, 1) := by decide +kernel
theorem dL_law_1431 : decode cL_law 1431 = .ok (.iload 4, 2) := by decide +kernel
theorem dL_law_1433 : decode cL_law 1433 = .ok (.iconst 3, 1) := by decide +kernel
theorem dL_law_1434 : decode cL_law 1434 = .ok (.iadd, 1) := by decide +kernel
theorem dL_law_1435 : decode cL_law 1435 = .ok (.iaload, 1) := by decide +kernel
theorem dL_law_1436 : decode cL_law 1436 = .ok (.ifCond .eq 7, 3) := by decide +kernel
theorem dL_law_1439 : decode cL_law 1439 = .ok (.iconst 1, 1) := by decide +kernel
theorem dL_law_1440 : decode cL_law 1440 = .ok (.goto 4, 3) := by decide +kernel
theorem dL_law_1443 : decode cL_law 1443 = .ok (.iconst 0, 1) := by decide +kernel
theorem dL_law_1444 : decode cL_law 1444 = .ok (.invokevirtual 146, 3) := by decide +kernel
theorem dL_law_1447 : decode cL_law 1447 = .ok (.if_icmp .eq 31, 3) := by decide +kernel
theorem dL_law_1450 : decode cL_law 1450 = .ok (.iconst 0, 1) := by decide +kernel
theorem dL_law_1451 : decode cL_law 1451 = .ok (.ireturn, 1) := by decide +kernel
theorem dL_law_1452 : decode cL_law 1452 = .ok (.aload_n 1, 1) := by decide +kernel
theorem dL_law_1453 : decode cL_law 1453 = .ok (.invokevirtual 147, 3) := by decide +kernel
theorem dL_law_1456 : decode cL_law 1456 = .ok (.aload_n 2, 1) := by decide +kernel
theorem dL_law_1457 : decode cL_law 1457 = .ok (.invokevirtual 150, 3) := by decide +kernel
theorem dL_law_1460 : decode cL_law 1460 = .ok (.if_icmp .eq 18, 3) := by decide +kernel
theorem dL_law_1463 : decode cL_law 1463 = .ok (.iconst 0, 1) := by decide +kernel
theorem dL_law_1464 : decode cL_law 1464 = .ok (.ireturn, 1) := by decide +kernel
theorem dL_law_1465 : decode cL_law 1465 = .ok (.aload_n 1, 1) := by decide +kernel
theorem dL_law_1466 : decode cL_law 1466 = .ok (.invokevirtual 151, 3) := by decide +kernel
theorem dL_law_1469 : decode cL_law 1469 = .ok (.aload_n 2, 1) := by decide +kernel
theorem dL_law_1470 : decode cL_law 1470 = .ok (.invokevirtual 154, 3) := by decide +kernel
theorem dL_law_1473 : decode cL_law 1473 = .ok (.if_icmp .eq 5, 3) := by decide +kernel
theorem dL_law_1476 : decode cL_law 1476 = .ok (.iconst 0, 1) := by decide +kernel
theorem dL_law_1477 : decode cL_law 1477 = .ok (.ireturn, 1) := by decide +kernel
theorem dL_law_1478 : decode cL_law 1478 = .ok (.iinc 4 6, 3) := by decide +kernel
theorem dL_law_1481 : decode cL_law 1481 = .ok (.goto (-1458), 3) := by decide +kernel
theorem dL_law_1484 : decode cL_law 1484 = .ok (.iconst 1, 1) := by decide +kernel
theorem dL_law_1485 : decode cL_law 1485 = .ok (.ireturn, 1) := by decide +kernel
