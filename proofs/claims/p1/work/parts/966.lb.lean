theorem iL_law_1352 : xl_D mL_law 1352 (.iaload) 1 1353 := ⟨by decide +kernel, rfl⟩
theorem iL_law_1353 : xl_Ca mL_law 1353 mX3_keep 1356 := ⟨176, by decide +kernel, rfl, lL_176, Nat.le_of_ble_eq_true rfl, Nat.le_of_ble_eq_true rfl⟩
theorem iL_law_1356 : xl_J mL_law 1356 (fun o => .if_icmp .eq o) 1359 1466 := ⟨110, by decide +kernel, rfl, rfl⟩
theorem iL_law_1359 : xl_D mL_law 1359 (.iconst 0) 1 1360 := ⟨by decide +kernel, rfl⟩
theorem iL_law_1360 : xl_D mL_law 1360 (.ireturn) 1 1361 := ⟨by decide +kernel, rfl⟩
theorem iL_law_1361 : xl_D mL_law 1361 (.aload_n 1) 1 1362 := ⟨by decide +kernel, rfl⟩
theorem iL_law_1362 : xl_D mL_law 1362 (.aload_n 0) 1 1363 := ⟨by decide +kernel, rfl⟩
theorem iL_law_1363 : xl_D mL_law 1363 (.iload 4) 2 1365 := ⟨by decide +kernel, rfl⟩
theorem iL_law_1365 : xl_D mL_law 1365 (.iconst 1) 1 1366 := ⟨by decide +kernel, rfl⟩
theorem iL_law_1366 : xl_D mL_law 1366 (.iadd) 1 1367 := ⟨by decide +kernel, rfl⟩
theorem iL_law_1367 : xl_D mL_law 1367 (.iaload) 1 1368 := ⟨by decide +kernel, rfl⟩
theorem iL_law_1368 : xl_Ca mL_law 1368 mX2_back 1371 := ⟨177, by decide +kernel, rfl, lL_177, Nat.le_of_ble_eq_true rfl, Nat.le_of_ble_eq_true rfl⟩
theorem iL_law_1371 : xl_D mL_law 1371 (.aload_n 2) 1 1372 := ⟨by decide +kernel, rfl⟩
theorem iL_law_1372 : xl_D mL_law 1372 (.aload_n 0) 1 1373 := ⟨by decide +kernel, rfl⟩
theorem iL_law_1373 : xl_D mL_law 1373 (.iload 4) 2 1375 := ⟨by decide +kernel, rfl⟩
theorem iL_law_1375 : xl_D mL_law 1375 (.iconst 1) 1 1376 := ⟨by decide +kernel, rfl⟩
theorem iL_law_1376 : xl_D mL_law 1376 (.iadd) 1 1377 := ⟨by decide +kernel, rfl⟩
theorem iL_law_1377 : xl_D mL_law 1377 (.iaload) 1 1378 := ⟨by decide +kernel, rfl⟩
theorem iL_law_1378 : xl_Ca mL_law 1378 mX3_back 1381 := ⟨180, by decide +kernel, rfl, lL_180, Nat.le_of_ble_eq_true rfl, Nat.le_of_ble_eq_true rfl⟩
theorem iL_law_1381 : xl_J mL_law 1381 (fun o => .if_icmp .eq o) 1384 1466 := ⟨85, by decide +kernel, rfl, rfl⟩
theorem iL_law_1384 : xl_D mL_law 1384 (.iconst 0) 1 1385 := ⟨by decide +kernel, rfl⟩
theorem iL_law_1385 : xl_D mL_law 1385 (.ireturn) 1 1386 := ⟨by decide +kernel, rfl⟩
theorem iL_law_1386 : xl_D mL_law 1386 (.aload_n 1) 1 1387 := ⟨by decide +kernel, rfl⟩
theorem iL_law_1387 : xl_D mL_law 1387 (.aload_n 0) 1 1388 := ⟨by decide +kernel, rfl⟩
theorem iL_law_1388 : xl_D mL_law 1388 (.iload 4) 2 1390 := ⟨by decide +kernel, rfl⟩
theorem iL_law_1390 : xl_D mL_law 1390 (.iconst 1) 1 1391 := ⟨by decide +kernel, rfl⟩
theorem iL_law_1391 : xl_D mL_law 1391 (.iadd) 1 1392 := ⟨by decide +kernel, rfl⟩
theorem iL_law_1392 : xl_D mL_law 1392 (.iaload) 1 1393 := ⟨by decide +kernel, rfl⟩
theorem iL_law_1393 : xl_Ca mL_law 1393 mX2_count 1396 := ⟨181, by decide +kernel, rfl, lL_181, Nat.le_of_ble_eq_true rfl, Nat.le_of_ble_eq_true rfl⟩
theorem iL_law_1396 : xl_D mL_law 1396 (.aload_n 2) 1 1397 := ⟨by decide +kernel, rfl⟩
theorem iL_law_1397 : xl_D mL_law 1397 (.aload_n 0) 1 1398 := ⟨by decide +kernel, rfl⟩
theorem iL_law_1398 : xl_D mL_law 1398 (.iload 4) 2 1400 := ⟨by decide +kernel, rfl⟩
theorem iL_law_1400 : xl_D mL_law 1400 (.iconst 1) 1 1401 := ⟨by decide +kernel, rfl⟩
theorem iL_law_1401 : xl_D mL_law 1401 (.iadd) 1 1402 := ⟨by decide +kernel, rfl⟩
theorem iL_law_1402 : xl_D mL_law 1402 (.iaload) 1 1403 := ⟨by decide +kernel, rfl⟩
theorem iL_law_1403 : xl_Ca mL_law 1403 mX3_count 1406 := ⟨184, by decide +kernel, rfl, lL_184, Nat.le_of_ble_eq_true rfl, Nat.le_of_ble_eq_true rfl⟩
theorem iL_law_1406 : xl_J mL_law 1406 (fun o => .if_icmp .eq o) 1409 1466 := ⟨60, by decide +kernel, rfl, rfl⟩
theorem iL_law_1409 : xl_D mL_law 1409 (.iconst 0) 1 1410 := ⟨by decide +kernel, rfl⟩
theorem iL_law_1410 : xl_D mL_law 1410 (.ireturn) 1 1411 := ⟨by decide +kernel, rfl⟩
theorem iL_law_1411 : xl_D mL_law 1411 (.aload_n 1) 1 1412 := ⟨by decide +kernel, rfl⟩
theorem iL_law_1412 : xl_D mL_law 1412 (.aload_n 0) 1 1413 := ⟨by decide +kernel, rfl⟩
theorem iL_law_1413 : xl_D mL_law 1413 (.iload 4) 2 1415 := ⟨by decide +kernel, rfl⟩
theorem iL_law_1415 : xl_D mL_law 1415 (.iconst 1) 1 1416 := ⟨by decide +kernel, rfl⟩
theorem iL_law_1416 : xl_D mL_law 1416 (.iadd) 1 1417 := ⟨by decide +kernel, rfl⟩
theorem iL_law_1417 : xl_D mL_law 1417 (.iaload) 1 1418 := ⟨by decide +kernel, rfl⟩
theorem iL_law_1418 : xl_D mL_law 1418 (.aload_n 3) 1 1419 := ⟨by decide +kernel, rfl⟩
theorem iL_law_1419 : xl_Cs mL_law 1419 mL_row 1422 := ⟨185, by decide +kernel, rfl, lL_185, Nat.le_of_ble_eq_true rfl, Nat.le_of_ble_eq_true rfl⟩
theorem iL_law_1422 : xl_D mL_law 1422 (.istore 5) 2 1424 := ⟨by decide +kernel, rfl⟩
theorem iL_law_1424 : xl_D mL_law 1424 (.aload_n 2) 1 1425 := ⟨by decide +kernel, rfl⟩
theorem iL_law_1425 : xl_D mL_law 1425 (.aload_n 0) 1 1426 := ⟨by decide +kernel, rfl⟩
theorem iL_law_1426 : xl_D mL_law 1426 (.iload 4) 2 1428 := ⟨by decide +kernel, rfl⟩
theorem iL_law_1428 : xl_D mL_law 1428 (.iconst 1) 1 1429 := ⟨by decide +kernel, rfl⟩
theorem iL_law_1429 : xl_D mL_law 1429 (.iadd) 1 1430 := ⟨by decide +kernel, rfl⟩
theorem iL_law_1430 : xl_D mL_law 1430 (.iaload) 1 1431 := ⟨by decide +kernel, rfl⟩
theorem iL_law_1431 : xl_Ca mL_law 1431 mX3_row 1434 := ⟨188, by decide +kernel, rfl, lL_188, Nat.le_of_ble_eq_true rfl, Nat.le_of_ble_eq_true rfl⟩
theorem iL_law_1434 : xl_D mL_law 1434 (.lstore 6) 2 1436 := ⟨by decide +kernel, rfl⟩
theorem iL_law_1436 : xl_D mL_law 1436 (.aload_n 2) 1 1437 := ⟨by decide +kernel, rfl⟩
theorem iL_law_1437 : xl_Ca mL_law 1437 mX3_thrown 1440 := ⟨77, by decide +kernel, rfl, lL_77, Nat.le_of_ble_eq_true rfl, Nat.le_of_ble_eq_true rfl⟩
theorem iL_law_1440 : xl_D mL_law 1440 (.iload 5) 2 1442 := ⟨by decide +kernel, rfl⟩
theorem iL_law_1442 : xl_J mL_law 1442 (fun o => .if_icmp .eq o) 1445 1447 := ⟨5, by decide +kernel, rfl, rfl⟩
theorem iL_law_1445 : xl_D mL_law 1445 (.iconst 0) 1 1446 := ⟨by decide +kernel, rfl⟩
theorem iL_law_1446 : xl_D mL_law 1446 (.ireturn) 1 1447 := ⟨by decide +kernel, rfl⟩
theorem iL_law_1447 : xl_D mL_law 1447 (.iload 5) 2 1449 := ⟨by decide +kernel, rfl⟩
theorem iL_law_1449 : xl_J mL_law 1449 (fun o => .ifCond .ne o) 1452 1463 := ⟨14, by decide +kernel, rfl, rfl⟩
theorem iL_law_1452 : xl_D mL_law 1452 (.aload_n 3) 1 1453 := ⟨by decide +kernel, rfl⟩
theorem iL_law_1453 : xl_D mL_law 1453 (.iconst 0) 1 1454 := ⟨by decide +kernel, rfl⟩
theorem iL_law_1454 : xl_D mL_law 1454 (.laload) 1 1455 := ⟨by decide +kernel, rfl⟩
theorem iL_law_1455 : xl_D mL_law 1455 (.lload 6) 2 1457 := ⟨by decide +kernel, rfl⟩
theorem iL_law_1457 : xl_D mL_law 1457 (.lcmp) 1 1458 := ⟨by decide +kernel, rfl⟩
theorem iL_law_1458 : xl_J mL_law 1458 (fun o => .ifCond .eq o) 1461 1463 := ⟨5, by decide +kernel, rfl, rfl⟩
theorem iL_law_1461 : xl_D mL_law 1461 (.iconst 0) 1 1462 := ⟨by decide +kernel, rfl⟩
theorem iL_law_1462 : xl_D mL_law 1462 (.ireturn) 1 1463 := ⟨by decide +kernel, rfl⟩
theorem iL_law_1463 : xl_J mL_law 1463 (fun o => .goto o) 1466 1466 := ⟨3, by decide +kernel, rfl, rfl⟩
theorem iL_law_1466 : xl_D mL_law 1466 (.iinc 4 5) 3 1469 := ⟨by decide +kernel, rfl⟩
theorem iL_law_1469 : xl_J mL_law 1469 (fun o => .goto o) 1472 23 := ⟨-1446, by decide +kernel, rfl, rfl⟩
theorem iL_law_1472 : xl_D mL_law 1472 (.iconst 1) 1 1473 := ⟨by decide +kernel, rfl⟩
theorem iL_law_1473 : xl_D mL_law 1473 (.ireturn) 1 1474 := ⟨by decide +kernel, rfl⟩
