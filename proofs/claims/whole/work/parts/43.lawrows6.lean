/-! the law: what its instructions are -/
theorem dd_L_law_1275 : decode Y_L_law.2.1 1275 = .ok (.invokestatic 178, 3) := by decide +kernel
theorem dd_L_law_1278 : decode Y_L_law.2.1 1278 = .ok (.istore 5, 2) := by decide +kernel
theorem dd_L_law_1280 : decode Y_L_law.2.1 1280 = .ok (.aload_n 2, 1) := by decide +kernel
theorem dd_L_law_1281 : decode Y_L_law.2.1 1281 = .ok (.aload_n 0, 1) := by decide +kernel
theorem dd_L_law_1282 : decode Y_L_law.2.1 1282 = .ok (.iload 4, 2) := by decide +kernel
theorem dd_L_law_1284 : decode Y_L_law.2.1 1284 = .ok (.iconst 1, 1) := by decide +kernel
theorem dd_L_law_1285 : decode Y_L_law.2.1 1285 = .ok (.iadd, 1) := by decide +kernel
theorem dd_L_law_1286 : decode Y_L_law.2.1 1286 = .ok (.iaload, 1) := by decide +kernel
theorem dd_L_law_1287 : decode Y_L_law.2.1 1287 = .ok (.aload_n 0, 1) := by decide +kernel
theorem dd_L_law_1288 : decode Y_L_law.2.1 1288 = .ok (.iload 4, 2) := by decide +kernel
theorem dd_L_law_1290 : decode Y_L_law.2.1 1290 = .ok (.iconst 2, 1) := by decide +kernel
theorem dd_L_law_1291 : decode Y_L_law.2.1 1291 = .ok (.iadd, 1) := by decide +kernel
theorem dd_L_law_1292 : decode Y_L_law.2.1 1292 = .ok (.iaload, 1) := by decide +kernel
theorem dd_L_law_1293 : decode Y_L_law.2.1 1293 = .ok (.aload_n 0, 1) := by decide +kernel
theorem dd_L_law_1294 : decode Y_L_law.2.1 1294 = .ok (.iload 4, 2) := by decide +kernel
theorem dd_L_law_1296 : decode Y_L_law.2.1 1296 = .ok (.iconst 3, 1) := by decide +kernel
theorem dd_L_law_1297 : decode Y_L_law.2.1 1297 = .ok (.iadd, 1) := by decide +kernel
theorem dd_L_law_1298 : decode Y_L_law.2.1 1298 = .ok (.iaload, 1) := by decide +kernel
theorem dd_L_law_1299 : decode Y_L_law.2.1 1299 = .ok (.invokevirtual 180, 3) := by decide +kernel
theorem dd_L_law_1302 : decode Y_L_law.2.1 1302 = .ok (.istore 6, 2) := by decide +kernel
theorem dd_L_law_1304 : decode Y_L_law.2.1 1304 = .ok (.aload_n 2, 1) := by decide +kernel
theorem dd_L_law_1305 : decode Y_L_law.2.1 1305 = .ok (.invokevirtual 117, 3) := by decide +kernel
theorem dd_L_law_1308 : decode Y_L_law.2.1 1308 = .ok (.iload 5, 2) := by decide +kernel
theorem dd_L_law_1310 : decode Y_L_law.2.1 1310 = .ok (.if_icmp .eq 5, 3) := by decide +kernel
theorem dd_L_law_1313 : decode Y_L_law.2.1 1313 = .ok (.iconst 0, 1) := by decide +kernel
theorem dd_L_law_1314 : decode Y_L_law.2.1 1314 = .ok (.ireturn, 1) := by decide +kernel
theorem dd_L_law_1315 : decode Y_L_law.2.1 1315 = .ok (.iload 5, 2) := by decide +kernel
theorem dd_L_law_1317 : decode Y_L_law.2.1 1317 = .ok (.ifCond .ne 15, 3) := by decide +kernel
theorem dd_L_law_1320 : decode Y_L_law.2.1 1320 = .ok (.aload_n 3, 1) := by decide +kernel
theorem dd_L_law_1321 : decode Y_L_law.2.1 1321 = .ok (.iconst 0, 1) := by decide +kernel
theorem dd_L_law_1322 : decode Y_L_law.2.1 1322 = .ok (.laload, 1) := by decide +kernel
theorem dd_L_law_1323 : decode Y_L_law.2.1 1323 = .ok (.iload 6, 2) := by decide +kernel
theorem dd_L_law_1325 : decode Y_L_law.2.1 1325 = .ok (.i2l, 1) := by decide +kernel
theorem dd_L_law_1326 : decode Y_L_law.2.1 1326 = .ok (.lcmp, 1) := by decide +kernel
theorem dd_L_law_1327 : decode Y_L_law.2.1 1327 = .ok (.ifCond .eq 5, 3) := by decide +kernel
theorem dd_L_law_1330 : decode Y_L_law.2.1 1330 = .ok (.iconst 0, 1) := by decide +kernel
theorem dd_L_law_1331 : decode Y_L_law.2.1 1331 = .ok (.ireturn, 1) := by decide +kernel
theorem dd_L_law_1332 : decode Y_L_law.2.1 1332 = .ok (.goto 929, 3) := by decide +kernel
theorem dd_L_law_1335 : decode Y_L_law.2.1 1335 = .ok (.aload_n 1, 1) := by decide +kernel
theorem dd_L_law_1336 : decode Y_L_law.2.1 1336 = .ok (.aload_n 0, 1) := by decide +kernel
theorem dd_L_law_1337 : decode Y_L_law.2.1 1337 = .ok (.iload 4, 2) := by decide +kernel
theorem dd_L_law_1339 : decode Y_L_law.2.1 1339 = .ok (.iconst 1, 1) := by decide +kernel
theorem dd_L_law_1340 : decode Y_L_law.2.1 1340 = .ok (.iadd, 1) := by decide +kernel
theorem dd_L_law_1341 : decode Y_L_law.2.1 1341 = .ok (.iaload, 1) := by decide +kernel
theorem dd_L_law_1342 : decode Y_L_law.2.1 1342 = .ok (.aload_n 0, 1) := by decide +kernel
theorem dd_L_law_1343 : decode Y_L_law.2.1 1343 = .ok (.iload 4, 2) := by decide +kernel
theorem dd_L_law_1345 : decode Y_L_law.2.1 1345 = .ok (.iconst 2, 1) := by decide +kernel
theorem dd_L_law_1346 : decode Y_L_law.2.1 1346 = .ok (.iadd, 1) := by decide +kernel
theorem dd_L_law_1347 : decode Y_L_law.2.1 1347 = .ok (.iaload, 1) := by decide +kernel
theorem dd_L_law_1348 : decode Y_L_law.2.1 1348 = .ok (.aload_n 3, 1) := by decide +kernel
theorem dd_L_law_1349 : decode Y_L_law.2.1 1349 = .ok (.invokestatic 181, 3) := by decide +kernel
theorem dd_L_law_1352 : decode Y_L_law.2.1 1352 = .ok (.istore 5, 2) := by decide +kernel
theorem dd_L_law_1354 : decode Y_L_law.2.1 1354 = .ok (.aload_n 2, 1) := by decide +kernel
theorem dd_L_law_1355 : decode Y_L_law.2.1 1355 = .ok (.aload_n 0, 1) := by decide +kernel
theorem dd_L_law_1356 : decode Y_L_law.2.1 1356 = .ok (.iload 4, 2) := by decide +kernel
theorem dd_L_law_1358 : decode Y_L_law.2.1 1358 = .ok (.iconst 1, 1) := by decide +kernel
theorem dd_L_law_1359 : decode Y_L_law.2.1 1359 = .ok (.iadd, 1) := by decide +kernel
theorem dd_L_law_1360 : decode Y_L_law.2.1 1360 = .ok (.iaload, 1) := by decide +kernel
theorem dd_L_law_1361 : decode Y_L_law.2.1 1361 = .ok (.aload_n 0, 1) := by decide +kernel
theorem dd_L_law_1362 : decode Y_L_law.2.1 1362 = .ok (.iload 4, 2) := by decide +kernel
theorem dd_L_law_1364 : decode Y_L_law.2.1 1364 = .ok (.iconst 2, 1) := by decide +kernel
theorem dd_L_law_1365 : decode Y_L_law.2.1 1365 = .ok (.iadd, 1) := by decide +kernel
theorem dd_L_law_1366 : decode Y_L_law.2.1 1366 = .ok (.iaload, 1) := by decide +kernel
theorem dd_L_law_1367 : decode Y_L_law.2.1 1367 = .ok (.invokevirtual 183, 3) := by decide +kernel
theorem dd_L_law_1370 : decode Y_L_law.2.1 1370 = .ok (.istore 6, 2) := by decide +kernel
theorem dd_L_law_1372 : decode Y_L_law.2.1 1372 = .ok (.aload_n 2, 1) := by decide +kernel
theorem dd_L_law_1373 : decode Y_L_law.2.1 1373 = .ok (.invokevirtual 117, 3) := by decide +kernel
theorem dd_L_law_1376 : decode Y_L_law.2.1 1376 = .ok (.iload 5, 2) := by decide +kernel
theorem dd_L_law_1378 : decode Y_L_law.2.1 1378 = .ok (.if_icmp .eq 5, 3) := by decide +kernel
theorem dd_L_law_1381 : decode Y_L_law.2.1 1381 = .ok (.iconst 0, 1) := by decide +kernel
theorem dd_L_law_1382 : decode Y_L_law.2.1 1382 = .ok (.ireturn, 1) := by decide +kernel
theorem dd_L_law_1383 : decode Y_L_law.2.1 1383 = .ok (.iload 5, 2) := by decide +kernel
theorem dd_L_law_1385 : decode Y_L_law.2.1 1385 = .ok (.ifCond .ne 22, 3) := by decide +kernel
theorem dd_L_law_1388 : decode Y_L_law.2.1 1388 = .ok (.aload_n 3, 1) := by decide +kernel
theorem dd_L_law_1389 : decode Y_L_law.2.1 1389 = .ok (.iconst 0, 1) := by decide +kernel
theorem dd_L_law_1390 : decode Y_L_law.2.1 1390 = .ok (.laload, 1) := by decide +kernel
theorem dd_L_law_1391 : decode Y_L_law.2.1 1391 = .ok (.iload 6, 2) := by decide +kernel
theorem dd_L_law_1393 : decode Y_L_law.2.1 1393 = .ok (.ifCond .eq 7, 3) := by decide +kernel
theorem dd_L_law_1396 : decode Y_L_law.2.1 1396 = .ok (.lconst 1, 1) := by decide +kernel
theorem dd_L_law_1397 : decode Y_L_law.2.1 1397 = .ok (.goto 4, 3) := by decide +kernel
theorem dd_L_law_1400 : decode Y_L_law.2.1 1400 = .ok (.lconst 0, 1) := by decide +kernel
theorem dd_L_law_1401 : decode Y_L_law.2.1 1401 = .ok (.lcmp, 1) := by decide +kernel
theorem dd_L_law_1402 : decode Y_L_law.2.1 1402 = .ok (.ifCond .eq 5, 3) := by decide +kernel
theorem dd_L_law_1405 : decode Y_L_law.2.1 1405 = .ok (.iconst 0, 1) := by decide +kernel
theorem dd_L_law_1406 : decode Y_L_law.2.1 1406 = .ok (.ireturn, 1) := by decide +kernel
theorem dd_L_law_1407 : decode Y_L_law.2.1 1407 = .ok (.goto 854, 3) := by decide +kernel
theorem dd_L_law_1410 : decode Y_L_law.2.1 1410 = .ok (.aload_n 1, 1) := by decide +kernel
theorem dd_L_law_1411 : decode Y_L_law.2.1 1411 = .ok (.aload_n 0, 1) := by decide +kernel
theorem dd_L_law_1412 : decode Y_L_law.2.1 1412 = .ok (.iload 4, 2) := by decide +kernel
theorem dd_L_law_1414 : decode Y_L_law.2.1 1414 = .ok (.iconst 1, 1) := by decide +kernel
theorem dd_L_law_1415 : decode Y_L_law.2.1 1415 = .ok (.iadd, 1) := by decide +kernel
theorem dd_L_law_1416 : decode Y_L_law.2.1 1416 = .ok (.iaload, 1) := by decide +kernel
theorem dd_L_law_1417 : decode Y_L_law.2.1 1417 = .ok (.aload_n 0, 1) := by decide +kernel
theorem dd_L_law_1418 : decode Y_L_law.2.1 1418 = .ok (.iload 4, 2) := by decide +kernel
theorem dd_L_law_1420 : decode Y_L_law.2.1 1420 = .ok (.iconst 2, 1) := by decide +kernel
theorem dd_L_law_1421 : decode Y_L_law.2.1 1421 = .ok (.iadd, 1) := by decide +kernel
theorem dd_L_law_1422 : decode Y_L_law.2.1 1422 = .ok (.iaload, 1) := by decide +kernel
theorem dd_L_law_1423 : decode Y_L_law.2.1 1423 = .ok (.aload_n 3, 1) := by decide +kernel
theorem dd_L_law_1424 : decode Y_L_law.2.1 1424 = .ok (.invokestatic 184, 3) := by decide +kernel
theorem dd_L_law_1427 : decode Y_L_law.2.1 1427 = .ok (.istore 5, 2) := by decide +kernel
theorem dd_L_law_1429 : decode Y_L_law.2.1 1429 = .ok (.aload_n 2, 1) := by decide +kernel
theorem dd_L_law_1430 : decode Y_L_law.2.1 1430 = .ok (.aload_n 0, 1) := by decide +kernel
theorem dd_L_law_1431 : decode Y_L_law.2.1 1431 = .ok (.iload 4, 2) := by decide +kernel
theorem dd_L_law_1433 : decode Y_L_law.2.1 1433 = .ok (.iconst 1, 1) := by decide +kernel
theorem dd_L_law_1434 : decode Y_L_law.2.1 1434 = .ok (.iadd, 1) := by decide +kernel
theorem dd_L_law_1435 : decode Y_L_law.2.1 1435 = .ok (.iaload, 1) := by decide +kernel
theorem dd_L_law_1436 : decode Y_L_law.2.1 1436 = .ok (.aload_n 0, 1) := by decide +kernel
theorem dd_L_law_1437 : decode Y_L_law.2.1 1437 = .ok (.iload 4, 2) := by decide +kernel
theorem dd_L_law_1439 : decode Y_L_law.2.1 1439 = .ok (.iconst 2, 1) := by decide +kernel
theorem dd_L_law_1440 : decode Y_L_law.2.1 1440 = .ok (.iadd, 1) := by decide +kernel
theorem dd_L_law_1441 : decode Y_L_law.2.1 1441 = .ok (.iaload, 1) := by decide +kernel
theorem dd_L_law_1442 : decode Y_L_law.2.1 1442 = .ok (.invokevirtual 186, 3) := by decide +kernel
theorem dd_L_law_1445 : decode Y_L_law.2.1 1445 = .ok (.istore 6, 2) := by decide +kernel
theorem dd_L_law_1447 : decode Y_L_law.2.1 1447 = .ok (.aload_n 2, 1) := by decide +kernel
theorem dd_L_law_1448 : decode Y_L_law.2.1 1448 = .ok (.invokevirtual 117, 3) := by decide +kernel
theorem dd_L_law_1451 : decode Y_L_law.2.1 1451 = .ok (.iload 5, 2) := by decide +kernel
theorem dd_L_law_1453 : decode Y_L_law.2.1 1453 = .ok (.if_icmp .eq 5, 3) := by decide +kernel
theorem dd_L_law_1456 : decode Y_L_law.2.1 1456 = .ok (.iconst 0, 1) := by decide +kernel
theorem dd_L_law_1457 : decode Y_L_law.2.1 1457 = .ok (.ireturn, 1) := by decide +kernel
theorem dd_L_law_1458 : decode Y_L_law.2.1 1458 = .ok (.iload 5, 2) := by decide +kernel
