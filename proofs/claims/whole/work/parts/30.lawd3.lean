theorem dL_law_1212 : decode cL_law 1212 = .ok (.iadd, 1) := by decide +kernel
theorem dL_law_1213 : decode cL_law 1213 = .ok (.iaload, 1) := by decide +kernel
theorem dL_law_1214 : decode cL_law 1214 = .ok (.invokevirtual 154, 3) := by decide +kernel
theorem dL_law_1217 : decode cL_law 1217 = .ok (.aload_n 2, 1) := by decide +kernel
theorem dL_law_1218 : decode cL_law 1218 = .ok (.aload_n 0, 1) := by decide +kernel
theorem dL_law_1219 : decode cL_law 1219 = .ok (.iload_n 3, 1) := by decide +kernel
theorem dL_law_1220 : decode cL_law 1220 = .ok (.iconst 1, 1) := by decide +kernel
theorem dL_law_1221 : decode cL_law 1221 = .ok (.iadd, 1) := by decide +kernel
theorem dL_law_1222 : decode cL_law 1222 = .ok (.iaload, 1) := by decide +kernel
theorem dL_law_1223 : decode cL_law 1223 = .ok (.invokevirtual 157, 3) := by decide +kernel
theorem dL_law_1226 : decode cL_law 1226 = .ok (.if_icmp .eq 476, 3) := by decide +kernel
theorem dL_law_1229 : decode cL_law 1229 = .ok (.iconst 0, 1) := by decide +kernel
theorem dL_law_1230 : decode cL_law 1230 = .ok (.ireturn, 1) := by decide +kernel
theorem dL_law_1231 : decode cL_law 1231 = .ok (.aload_n 1, 1) := by decide +kernel
theorem dL_law_1232 : decode cL_law 1232 = .ok (.aload_n 0, 1) := by decide +kernel
theorem dL_law_1233 : decode cL_law 1233 = .ok (.iload_n 3, 1) := by decide +kernel
theorem dL_law_1234 : decode cL_law 1234 = .ok (.iconst 1, 1) := by decide +kernel
theorem dL_law_1235 : decode cL_law 1235 = .ok (.iadd, 1) := by decide +kernel
theorem dL_law_1236 : decode cL_law 1236 = .ok (.iaload, 1) := by decide +kernel
theorem dL_law_1237 : decode cL_law 1237 = .ok (.aload_n 0, 1) := by decide +kernel
theorem dL_law_1238 : decode cL_law 1238 = .ok (.iload_n 3, 1) := by decide +kernel
theorem dL_law_1239 : decode cL_law 1239 = .ok (.iconst 2, 1) := by decide +kernel
theorem dL_law_1240 : decode cL_law 1240 = .ok (.iadd, 1) := by decide +kernel
theorem dL_law_1241 : decode cL_law 1241 = .ok (.iaload, 1) := by decide +kernel
theorem dL_law_1242 : decode cL_law 1242 = .ok (.invokevirtual 158, 3) := by decide +kernel
theorem dL_law_1245 : decode cL_law 1245 = .ok (.aload_n 2, 1) := by decide +kernel
theorem dL_law_1246 : decode cL_law 1246 = .ok (.aload_n 0, 1) := by decide +kernel
theorem dL_law_1247 : decode cL_law 1247 = .ok (.iload_n 3, 1) := by decide +kernel
theorem dL_law_1248 : decode cL_law 1248 = .ok (.iconst 1, 1) := by decide +kernel
theorem dL_law_1249 : decode cL_law 1249 = .ok (.iadd, 1) := by decide +kernel
theorem dL_law_1250 : decode cL_law 1250 = .ok (.iaload, 1) := by decide +kernel
theorem dL_law_1251 : decode cL_law 1251 = .ok (.aload_n 0, 1) := by decide +kernel
theorem dL_law_1252 : decode cL_law 1252 = .ok (.iload_n 3, 1) := by decide +kernel
theorem dL_law_1253 : decode cL_law 1253 = .ok (.iconst 2, 1) := by decide +kernel
theorem dL_law_1254 : decode cL_law 1254 = .ok (.iadd, 1) := by decide +kernel
theorem dL_law_1255 : decode cL_law 1255 = .ok (.iaload, 1) := by decide +kernel
theorem dL_law_1256 : decode cL_law 1256 = .ok (.invokevirtual 161, 3) := by decide +kernel
theorem dL_law_1259 : decode cL_law 1259 = .ok (.if_icmp .eq 443, 3) := by decide +kernel
theorem dL_law_1262 : decode cL_law 1262 = .ok (.iconst 0, 1) := by decide +kernel
theorem dL_law_1263 : decode cL_law 1263 = .ok (.ireturn, 1) := by decide +kernel
theorem dL_law_1264 : decode cL_law 1264 = .ok (.aload_n 1, 1) := by decide +kernel
theorem dL_law_1265 : decode cL_law 1265 = .ok (.aload_n 0, 1) := by decide +kernel
theorem dL_law_1266 : decode cL_law 1266 = .ok (.iload_n 3, 1) := by decide +kernel
theorem dL_law_1267 : decode cL_law 1267 = .ok (.iconst 1, 1) := by decide +kernel
theorem dL_law_1268 : decode cL_law 1268 = .ok (.iadd, 1) := by decide +kernel
theorem dL_law_1269 : decode cL_law 1269 = .ok (.iaload, 1) := by decide +kernel
theorem dL_law_1270 : decode cL_law 1270 = .ok (.aload_n 0, 1) := by decide +kernel
theorem dL_law_1271 : decode cL_law 1271 = .ok (.iload_n 3, 1) := by decide +kernel
theorem dL_law_1272 : decode cL_law 1272 = .ok (.iconst 2, 1) := by decide +kernel
theorem dL_law_1273 : decode cL_law 1273 = .ok (.iadd, 1) := by decide +kernel
theorem dL_law_1274 : decode cL_law 1274 = .ok (.iaload, 1) := by decide +kernel
theorem dL_law_1275 : decode cL_law 1275 = .ok (.aload_n 0, 1) := by decide +kernel
theorem dL_law_1276 : decode cL_law 1276 = .ok (.iload_n 3, 1) := by decide +kernel
theorem dL_law_1277 : decode cL_law 1277 = .ok (.iconst 3, 1) := by decide +kernel
theorem dL_law_1278 : decode cL_law 1278 = .ok (.iadd, 1) := by decide +kernel
theorem dL_law_1279 : decode cL_law 1279 = .ok (.iaload, 1) := by decide +kernel
theorem dL_law_1280 : decode cL_law 1280 = .ok (.invokevirtual 162, 3) := by decide +kernel
theorem dL_law_1283 : decode cL_law 1283 = .ok (.aload_n 2, 1) := by decide +kernel
theorem dL_law_1284 : decode cL_law 1284 = .ok (.aload_n 0, 1) := by decide +kernel
theorem dL_law_1285 : decode cL_law 1285 = .ok (.iload_n 3, 1) := by decide +kernel
theorem dL_law_1286 : decode cL_law 1286 = .ok (.iconst 1, 1) := by decide +kernel
theorem dL_law_1287 : decode cL_law 1287 = .ok (.iadd, 1) := by decide +kernel
theorem dL_law_1288 : decode cL_law 1288 = .ok (.iaload, 1) := by decide +kernel
theorem dL_law_1289 : decode cL_law 1289 = .ok (.aload_n 0, 1) := by decide +kernel
theorem dL_law_1290 : decode cL_law 1290 = .ok (.iload_n 3, 1) := by decide +kernel
theorem dL_law_1291 : decode cL_law 1291 = .ok (.iconst 2, 1) := by decide +kernel
theorem dL_law_1292 : decode cL_law 1292 = .ok (.iadd, 1) := by decide +kernel
theorem dL_law_1293 : decode cL_law 1293 = .ok (.iaload, 1) := by decide +kernel
theorem dL_law_1294 : decode cL_law 1294 = .ok (.aload_n 0, 1) := by decide +kernel
theorem dL_law_1295 : decode cL_law 1295 = .ok (.iload_n 3, 1) := by decide +kernel
theorem dL_law_1296 : decode cL_law 1296 = .ok (.iconst 3, 1) := by decide +kernel
theorem dL_law_1297 : decode cL_law 1297 = .ok (.iadd, 1) := by decide +kernel
theorem dL_law_1298 : decode cL_law 1298 = .ok (.iaload, 1) := by decide +kernel
theorem dL_law_1299 : decode cL_law 1299 = .ok (.invokevirtual 165, 3) := by decide +kernel
theorem dL_law_1302 : decode cL_law 1302 = .ok (.if_icmp .eq 400, 3) := by decide +kernel
theorem dL_law_1305 : decode cL_law 1305 = .ok (.iconst 0, 1) := by decide +kernel
theorem dL_law_1306 : decode cL_law 1306 = .ok (.ireturn, 1) := by decide +kernel
theorem dL_law_1307 : decode cL_law 1307 = .ok (.aload_n 1, 1) := by decide +kernel
theorem dL_law_1308 : decode cL_law 1308 = .ok (.aload_n 0, 1) := by decide +kernel
theorem dL_law_1309 : decode cL_law 1309 = .ok (.iload_n 3, 1) := by decide +kernel
theorem dL_law_1310 : decode cL_law 1310 = .ok (.iconst 1, 1) := by decide +kernel
theorem dL_law_1311 : decode cL_law 1311 = .ok (.iadd, 1) := by decide +kernel
theorem dL_law_1312 : decode cL_law 1312 = .ok (.iaload, 1) := by decide +kernel
theorem dL_law_1313 : decode cL_law 1313 = .ok (.aload_n 0, 1) := by decide +kernel
theorem dL_law_1314 : decode cL_law 1314 = .ok (.iload_n 3, 1) := by decide +kernel
theorem dL_law_1315 : decode cL_law 1315 = .ok (.iconst 2, 1) := by decide +kernel
theorem dL_law_1316 : decode cL_law 1316 = .ok (.iadd, 1) := by decide +kernel
theorem dL_law_1317 : decode cL_law 1317 = .ok (.iaload, 1) := by decide +kernel
theorem dL_law_1318 : decode cL_law 1318 = .ok (.aload_n 0, 1) := by decide +kernel
theorem dL_law_1319 : decode cL_law 1319 = .ok (.iload_n 3, 1) := by decide +kernel
theorem dL_law_1320 : decode cL_law 1320 = .ok (.iconst 3, 1) := by decide +kernel
theorem dL_law_1321 : decode cL_law 1321 = .ok (.iadd, 1) := by decide +kernel
theorem dL_law_1322 : decode cL_law 1322 = .ok (.iaload, 1) := by decide +kernel
theorem dL_law_1323 : decode cL_law 1323 = .ok (.invokevirtual 166, 3) := by decide +kernel
theorem dL_law_1326 : decode cL_law 1326 = .ok (.aload_n 2, 1) := by decide +kernel
theorem dL_law_1327 : decode cL_law 1327 = .ok (.aload_n 0, 1) := by decide +kernel
theorem dL_law_1328 : decode cL_law 1328 = .ok (.iload_n 3, 1) := by decide +kernel
theorem dL_law_1329 : decode cL_law 1329 = .ok (.iconst 1, 1) := by decide +kernel
theorem dL_law_1330 : decode cL_law 1330 = .ok (.iadd, 1) := by decide +kernel
theorem dL_law_1331 : decode cL_law 1331 = .ok (.iaload, 1) := by decide +kernel
theorem dL_law_1332 : decode cL_law 1332 = .ok (.aload_n 0, 1) := by decide +kernel
theorem dL_law_1333 : decode cL_law 1333 = .ok (.iload_n 3, 1) := by decide +kernel
theorem dL_law_1334 : decode cL_law 1334 = .ok (.iconst 2, 1) := by decide +kernel
theorem dL_law_1335 : decode cL_law 1335 = .ok (.iadd, 1) := by decide +kernel
theorem dL_law_1336 : decode cL_law 1336 = .ok (.iaload, 1) := by decide +kernel
theorem dL_law_1337 : decode cL_law 1337 = .ok (.aload_n 0, 1) := by decide +kernel
theorem dL_law_1338 : decode cL_law 1338 = .ok (.iload_n 3, 1) := by decide +kernel
theorem dL_law_1339 : decode cL_law 1339 = .ok (.iconst 3, 1) := by decide +kernel
theorem dL_law_1340 : decode cL_law 1340 = .ok (.iadd, 1) := by decide +kernel
theorem dL_law_1341 : decode cL_law 1341 = .ok (.iaload, 1) := by decide +kernel
theorem dL_law_1342 : decode cL_law 1342 = .ok (.invokevirtual 169, 3) := by decide +kernel
theorem dL_law_1345 : decode cL_law 1345 = .ok (.if_icmp .eq 357, 3) := by decide +kernel
theorem dL_law_1348 : decode cL_law 1348 = .ok (.iconst 0, 1) := by decide +kernel
theorem dL_law_1349 : decode cL_law 1349 = .ok (.ireturn, 1) := by decide +kernel
theorem dL_law_1350 : decode cL_law 1350 = .ok (.aload_n 1, 1) := by decide +kernel
theorem dL_law_1351 : decode cL_law 1351 = .ok (.aload_n 0, 1) := by decide +kernel
theorem dL_law_1352 : decode cL_law 1352 = .ok (.iload_n 3, 1) := by decide +kernel
theorem dL_law_1353 : decode cL_law 1353 = .ok (.iconst 1, 1) := by decide +kernel
theorem dL_law_1354 : decode cL_law 1354 = .ok (.iadd, 1) := by decide +kernel
theorem dL_law_1355 : decode cL_law 1355 = .ok (.iaload, 1) := by decide +kernel
theorem dL_law_1356 : decode cL_law 1356 = .ok (.aload_n 0, 1) := by decide +kernel
theorem dL_law_1357 : decode cL_law 1357 = .ok (.iload_n 3, 1) := by decide +kernel
theorem dL_law_1358 : decode cL_law 1358 = .ok (.iconst 2, 1) := by decide +kernel
theorem dL_law_1359 : decode cL_law 1359 = .ok (.iadd, 1) := by decide +kernel
theorem dL_law_1360 : decode cL_law 1360 = .ok (.iaload, 1) := by decide +kernel
theorem dL_law_1361 : decode cL_law 1361 = .ok (.invokevirtual 170, 3) := by decide +kernel
theorem dL_law_1364 : decode cL_law 1364 = .ok (.aload_n 2, 1) := by decide +kernel
theorem dL_law_1365 : decode cL_law 1365 = .ok (.aload_n 0, 1) := by decide +kernel
theorem dL_law_1366 : decode cL_law 1366 = .ok (.iload_n 3, 1) := by decide +kernel
theorem dL_law_1367 : decode cL_law 1367 = .ok (.iconst 1, 1) := by decide +kernel
theorem dL_law_1368 : decode cL_law 1368 = .ok (.iadd, 1) := by decide +kernel
theorem dL_law_1369 : decode cL_law 1369 = .ok (.iaload, 1) := by decide +kernel
theorem dL_law_1370 : decode cL_law 1370 = .ok (.aload_n 0, 1) := by decide +kernel
theorem dL_law_1371 : decode cL_law 1371 = .ok (.iload_n 3, 1) := by decide +kernel
theorem dL_law_1372 : decode cL_law 1372 = .ok (.iconst 2, 1) := by decide +kernel
theorem dL_law_1373 : decode cL_law 1373 = .ok (.iadd, 1) := by decide +kernel
theorem dL_law_1374 : decode cL_law 1374 = .ok (.iaload, 1) := by decide +kernel
theorem dL_law_1375 : decode cL_law 1375 = .ok (.invokevirtual 173, 3) := by decide +kernel
theorem dL_law_1378 : decode cL_law 1378 = .ok (.if_icmp .eq 324, 3) := by decide +kernel
theorem dL_law_1381 : decode cL_law 1381 = .ok (.iconst 0, 1) := by decide +kernel
theorem dL_law_1382 : decode cL_law 1382 = .ok (.ireturn, 1) := by decide +kernel
theorem dL_law_1383 : decode cL_law 1383 = .ok (.aload_n 1, 1) := by decide +kernel
theorem dL_law_1384 : decode cL_law 1384 = .ok (.aload_n 0, 1) := by decide +kernel
theorem dL_law_1385 : decode cL_law 1385 = .ok (.iload_n 3, 1) := by decide +kernel
theorem dL_law_1386 : decode cL_law 1386 = .ok (.iconst 1, 1) := by decide +kernel
theorem dL_law_1387 : decode cL_law 1387 = .ok (.iadd, 1) := by decide +kernel
theorem dL_law_1388 : decode cL_law 1388 = .ok (.iaload, 1) := by decide +kernel
theorem dL_law_1389 : decode cL_law 1389 = .ok (.invokevirtual 174, 3) := by decide +kernel
theorem dL_law_1392 : decode cL_law 1392 = .ok (.aload_n 2, 1) := by decide +kernel
theorem dL_law_1393 : decode cL_law 1393 = .ok (.aload_n 0, 1) := by decide +kernel
theorem dL_law_1394 : decode cL_law 1394 = .ok (.iload_n 3, 1) := by decide +kernel
theorem dL_law_1395 : decode cL_law 1395 = .ok (.iconst 1, 1) := by decide +kernel
theorem dL_law_1396 : decode cL_law 1396 = .ok (.iadd, 1) := by decide +kernel
theorem dL_law_1397 : decode cL_law 1397 = .ok (.iaload, 1) := by decide +kernel
theorem dL_law_1398 : decode cL_law 1398 = .ok (.invokevirtual 177, 3) := by decide +kernel
theorem dL_law_1401 : decode cL_law 1401 = .ok (.if_icmp .eq 301, 3) := by decide +kernel
theorem dL_law_1404 : decode cL_law 1404 = .ok (.iconst 0, 1) := by decide +kernel
theorem dL_law_1405 : decode cL_law 1405 = .ok (.ireturn, 1) := by decide +kernel
theorem dL_law_1406 : decode cL_law 1406 = .ok (.aload_n 1, 1) := by decide +kernel
theorem dL_law_1407 : decode cL_law 1407 = .ok (.aload_n 0, 1) := by decide +kernel
theorem dL_law_1408 : decode cL_law 1408 = .ok (.iload_n 3, 1) := by decide +kernel
theorem dL_law_1409 : decode cL_law 1409 = .ok (.iconst 1, 1) := by decide +kernel
theorem dL_law_1410 : decode cL_law 1410 = .ok (.iadd, 1) := by decide +kernel
theorem dL_law_1411 : decode cL_law 1411 = .ok (.iaload, 1) := by decide +kernel
theorem dL_law_1412 : decode cL_law 1412 = .ok (.aload_n 0, 1) := by decide +kernel
theorem dL_law_1413 : decode cL_law 1413 = .ok (.iload_n 3, 1) := by decide +kernel
theorem dL_law_1414 : decode cL_law 1414 = .ok (.iconst 2, 1) := by decide +kernel
theorem dL_law_1415 : decode cL_law 1415 = .ok (.iadd, 1) := by decide +kernel
theorem dL_law_1416 : decode cL_law 1416 = .ok (.iaload, 1) := by decide +kernel
theorem dL_law_1417 : decode cL_law 1417 = .ok (.invokevirtual 178, 3) := by decide +kernel
theorem dL_law_1420 : decode cL_law 1420 = .ok (.aload_n 2, 1) := by decide +kernel
theorem dL_law_1421 : decode cL_law 1421 = .ok (.aload_n 0, 1) := by decide +kernel
theorem dL_law_1422 : decode cL_law 1422 = .ok (.iload_n 3, 1) := by decide +kernel
theorem dL_law_1423 : decode cL_law 1423 = .ok (.iconst 1, 1) := by decide +kernel
theorem dL_law_1424 : decode cL_law 1424 = .ok (.iadd, 1) := by decide +kernel
theorem dL_law_1425 : decode cL_law 1425 = .ok (.iaload, 1) := by decide +kernel
theorem dL_law_1426 : decode cL_law 1426 = .ok (.aload_n 0, 1) := by decide +kernel
theorem dL_law_1427 : decode cL_law 1427 = .ok (.iload_n 3, 1) := by decide +kernel
theorem dL_law_1428 : decode cL_law 1428 = .ok (.iconst 2, 1) := by decide +kernel
theorem dL_law_1429 : decode cL_law 1429 = .ok (.iadd, 1) := by decide +kernel
theorem dL_law_1430 : decode cL_law 1430 = .ok (.iaload, 1) := by decide +kernel
theorem dL_law_1431 : decode cL_law 1431 = .ok (.invokevirtual 181, 3) := by decide +kernel
theorem dL_law_1434 : decode cL_law 1434 = .ok (.if_icmp .eq 268, 3) := by decide +kernel
theorem dL_law_1437 : decode cL_law 1437 = .ok (.iconst 0, 1) := by decide +kernel
theorem dL_law_1438 : decode cL_law 1438 = .ok (.ireturn, 1) := by decide +kernel
theorem dL_law_1439 : decode cL_law 1439 = .ok (.aload_n 1, 1) := by decide +kernel
theorem dL_law_1440 : decode cL_law 1440 = .ok (.invokevirtual 182, 3) := by decide +kernel
theorem dL_law_1443 : decode cL_law 1443 = .ok (.aload_n 2, 1) := by decide +kernel
theorem dL_law_1444 : decode cL_law 1444 = .ok (.invokevirtual 185, 3) := by decide +kernel
theorem dL_law_1447 : decode cL_law 1447 = .ok (.if_icmp .eq 255, 3) := by decide +kernel
theorem dL_law_1450 : decode cL_law 1450 = .ok (.iconst 0, 1) := by decide +kernel
theorem dL_law_1451 : decode cL_law 1451 = .ok (.ireturn, 1) := by decide +kernel
theorem dL_law_1452 : decode cL_law 1452 = .ok (.aload_n 1, 1) := by decide +kernel
theorem dL_law_1453 : decode cL_law 1453 = .ok (.aload_n 0, 1) := by decide +kernel
theorem dL_law_1454 : decode cL_law 1454 = .ok (.iload_n 3, 1) := by decide +kernel
theorem dL_law_1455 : decode cL_law 1455 = .ok (.iconst 1, 1) := by decide +kernel
theorem dL_law_1456 : decode cL_law 1456 = .ok (.iadd, 1) := by decide +kernel
theorem dL_law_1457 : decode cL_law 1457 = .ok (.iaload, 1) := by decide +kernel
theorem dL_law_1458 : decode cL_law 1458 = .ok (.aload_n 0, 1) := by decide +kernel
theorem dL_law_1459 : decode cL_law 1459 = .ok (.iload_n 3, 1) := by decide +kernel
theorem dL_law_1460 : decode cL_law 1460 = .ok (.iconst 2, 1) := by decide +kernel
theorem dL_law_1461 : decode cL_law 1461 = .ok (.iadd, 1) := by decide +kernel
theorem dL_law_1462 : decode cL_law 1462 = .ok (.iaload, 1) := by decide +kernel
theorem dL_law_1463 : decode cL_law 1463 = .ok (.invokevirtual 186, 3) := by decide +kernel
theorem dL_law_1466 : decode cL_law 1466 = .ok (.aload_n 2, 1) := by decide +kernel
theorem dL_law_1467 : decode cL_law 1467 = .ok (.aload_n 0, 1) := by decide +kernel
theorem dL_law_1468 : decode cL_law 1468 = .ok (.iload_n 3, 1) := by decide +kernel
theorem dL_law_1469 : decode cL_law 1469 = .ok (.iconst 1, 1) := by decide +kernel
theorem dL_law_1470 : decode cL_law 1470 = .ok (.iadd, 1) := by decide +kernel
theorem dL_law_1471 : decode cL_law 1471 = .ok (.iaload, 1) := by decide +kernel
theorem dL_law_1472 : decode cL_law 1472 = .ok (.aload_n 0, 1) := by decide +kernel
theorem dL_law_1473 : decode cL_law 1473 = .ok (.iload_n 3, 1) := by decide +kernel
theorem dL_law_1474 : decode cL_law 1474 = .ok (.iconst 2, 1) := by decide +kernel
theorem dL_law_1475 : decode cL_law 1475 = .ok (.iadd, 1) := by decide +kernel
theorem dL_law_1476 : decode cL_law 1476 = .ok (.iaload, 1) := by decide +kernel
theorem dL_law_1477 : decode cL_law 1477 = .ok (.invokevirtual 189, 3) := by decide +kernel
theorem dL_law_1480 : decode cL_law 1480 = .ok (.if_icmp .eq 222, 3) := by decide +kernel
theorem dL_law_1483 : decode cL_law 1483 = .ok (.iconst 0, 1) := by decide +kernel
theorem dL_law_1484 : decode cL_law 1484 = .ok (.ireturn, 1) := by decide +kernel
theorem dL_law_1485 : decode cL_law 1485 = .ok (.aload_n 1, 1) := by decide +kernel
theorem dL_law_1486 : decode cL_law 1486 = .ok (.aload_n 0, 1) := by decide +kernel
theorem dL_law_1487 : decode cL_law 1487 = .ok (.iload_n 3, 1) := by decide +kernel
theorem dL_law_1488 : decode cL_law 1488 = .ok (.iconst 1, 1) := by decide +kernel
theorem dL_law_1489 : decode cL_law 1489 = .ok (.iadd, 1) := by decide +kernel
theorem dL_law_1490 : decode cL_law 1490 = .ok (.iaload, 1) := by decide +kernel
theorem dL_law_1491 : decode cL_law 1491 = .ok (.invokevirtual 190, 3) := by decide +kernel
theorem dL_law_1494 : decode cL_law 1494 = .ok (.aload_n 2, 1) := by decide +kernel
theorem dL_law_1495 : decode cL_law 1495 = .ok (.aload_n 0, 1) := by decide +kernel
theorem dL_law_1496 : decode cL_law 1496 = .ok (.iload_n 3, 1) := by decide +kernel
theorem dL_law_1497 : decode cL_law 1497 = .ok (.iconst 1, 1) := by decide +kernel
theorem dL_law_1498 : decode cL_law 1498 = .ok (.iadd, 1) := by decide +kernel
theorem dL_law_1499 : decode cL_law 1499 = .ok (.iaload, 1) := by decide +kernel
theorem dL_law_1500 : decode cL_law 1500 = .ok (.invokevirtual 193, 3) := by decide +kernel
theorem dL_law_1503 : decode cL_law 1503 = .ok (.if_icmp .eq 199, 3) := by decide +kernel
theorem dL_law_1506 : decode cL_law 1506 = .ok (.iconst 0, 1) := by decide +kernel
theorem dL_law_1507 : decode cL_law 1507 = .ok (.ireturn, 1) := by decide +kernel
theorem dL_law_1508 : decode cL_law 1508 = .ok (.aload_n 1, 1) := by decide +kernel
theorem dL_law_1509 : decode cL_law 1509 = .ok (.aload_n 0, 1) := by decide +kernel
theorem dL_law_1510 : decode cL_law 1510 = .ok (.iload_n 3, 1) := by decide +kernel
theorem dL_law_1511 : decode cL_law 1511 = .ok (.iconst 1, 1) := by decide +kernel
theorem dL_law_1512 : decode cL_law 1512 = .ok (.iadd, 1) := by decide +kernel
theorem dL_law_1513 : decode cL_law 1513 = .ok (.iaload, 1) := by decide +kernel
theorem dL_law_1514 : decode cL_law 1514 = .ok (.aload_n 0, 1) := by decide +kernel
theorem dL_law_1515 : decode cL_law 1515 = .ok (.iload_n 3, 1) := by decide +kernel
theorem dL_law_1516 : decode cL_law 1516 = .ok (.iconst 2, 1) := by decide +kernel
theorem dL_law_1517 : decode cL_law 1517 = .ok (.iadd, 1) := by decide +kernel
theorem dL_law_1518 : decode cL_law 1518 = .ok (.iaload, 1) := by decide +kernel
theorem dL_law_1519 : decode cL_law 1519 = .ok (.invokevirtual 194, 3) := by decide +kernel
theorem dL_law_1522 : decode cL_law 1522 = .ok (.aload_n 2, 1) := by decide +kernel
theorem dL_law_1523 : decode cL_law 1523 = .ok (.aload_n 0, 1) := by decide +kernel
theorem dL_law_1524 : decode cL_law 1524 = .ok (.iload_n 3, 1) := by decide +kernel
theorem dL_law_1525 : decode cL_law 1525 = .ok (.iconst 1, 1) := by decide +kernel
theorem dL_law_1526 : decode cL_law 1526 = .ok (.iadd, 1) := by decide +kernel
theorem dL_law_1527 : decode cL_law 1527 = .ok (.iaload, 1) := by decide +kernel
theorem dL_law_1528 : decode cL_law 1528 = .ok (.aload_n 0, 1) := by decide +kernel
theorem dL_law_1529 : decode cL_law 1529 = .ok (.iload_n 3, 1) := by decide +kernel
theorem dL_law_1530 : decode cL_law 1530 = .ok (.iconst 2, 1) := by decide +kernel
theorem dL_law_1531 : decode cL_law 1531 = .ok (.iadd, 1) := by decide +kernel
theorem dL_law_1532 : decode cL_law 1532 = .ok (.iaload, 1) := by decide +kernel
theorem dL_law_1533 : decode cL_law 1533 = .ok (.invokevirtual 197, 3) := by decide +kernel
theorem dL_law_1536 : decode cL_law 1536 = .ok (.if_icmp .eq 166, 3) := by decide +kernel
theorem dL_law_1539 : decode cL_law 1539 = .ok (.iconst 0, 1) := by decide +kernel
theorem dL_law_1540 : decode cL_law 1540 = .ok (.ireturn, 1) := by decide +kernel
theorem dL_law_1541 : decode cL_law 1541 = .ok (.aload_n 1, 1) := by decide +kernel
theorem dL_law_1542 : decode cL_law 1542 = .ok (.invokevirtual 198, 3) := by decide +kernel
theorem dL_law_1545 : decode cL_law 1545 = .ok (.aload_n 2, 1) := by decide +kernel
theorem dL_law_1546 : decode cL_law 1546 = .ok (.invokevirtual 201, 3) := by decide +kernel
theorem dL_law_1549 : decode cL_law 1549 = .ok (.if_icmp .eq 153, 3) := by decide +kernel
theorem dL_law_1552 : decode cL_law 1552 = .ok (.iconst 0, 1) := by decide +kernel
theorem dL_law_1553 : decode cL_law 1553 = .ok (.ireturn, 1) := by decide +kernel
theorem dL_law_1554 : decode cL_law 1554 = .ok (.aload_n 1, 1) := by decide +kernel
theorem dL_law_1555 : decode cL_law 1555 = .ok (.invokevirtual 202, 3) := by decide +kernel
theorem dL_law_1558 : decode cL_law 1558 = .ok (.aload_n 2, 1) := by decide +kernel
theorem dL_law_1559 : decode cL_law 1559 = .ok (.invokevirtual 205, 3) := by decide +kernel
theorem dL_law_1562 : decode cL_law 1562 = .ok (.if_icmp .eq 140, 3) := by decide +kernel
theorem dL_law_1565 : decode cL_law 1565 = .ok (.iconst 0, 1) := by decide +kernel
theorem dL_law_1566 : decode cL_law 1566 = .ok (.ireturn, 1) := by decide +kernel
theorem dL_law_1567 : decode cL_law 1567 = .ok (.aload_n 1, 1) := by decide +kernel
theorem dL_law_1568 : decode cL_law 1568 = .ok (.aload_n 0, 1) := by decide +kernel
theorem dL_law_1569 : decode cL_law 1569 = .ok (.iload_n 3, 1) := by decide +kernel
theorem dL_law_1570 : decode cL_law 1570 = .ok (.iconst 1, 1) := by decide +kernel
theorem dL_law_1571 : decode cL_law 1571 = .ok (.iadd, 1) := by decide +kernel
theorem dL_law_1572 : decode cL_law 1572 = .ok (.iaload, 1) := by decide +kernel
theorem dL_law_1573 : decode cL_law 1573 = .ok (.aload_n 0, 1) := by decide +kernel
theorem dL_law_1574 : decode cL_law 1574 = .ok (.iload_n 3, 1) := by decide +kernel
theorem dL_law_1575 : decode cL_law 1575 = .ok (.iconst 2, 1) := by decide +kernel
theorem dL_law_1576 : decode cL_law 1576 = .ok (.iadd, 1) := by decide +kernel
theorem dL_law_1577 : decode cL_law 1577 = .ok (.iaload, 1) := by decide +kernel
theorem dL_law_1578 : decode cL_law 1578 = .ok (.invokevirtual 206, 3) := by decide +kernel
theorem dL_law_1581 : decode cL_law 1581 = .ok (.aload_n 2, 1) := by decide +kernel
theorem dL_law_1582 : decode cL_law 1582 = .ok (.aload_n 0, 1) := by decide +kernel
theorem dL_law_1583 : decode cL_law 1583 = .ok (.iload_n 3, 1) := by decide +kernel
theorem dL_law_1584 : decode cL_law 1584 = .ok (.iconst 1, 1) := by decide +kernel
theorem dL_law_1585 : decode cL_law 1585 = .ok (.iadd, 1) := by decide +kernel
theorem dL_law_1586 : decode cL_law 1586 = .ok (.iaload, 1) := by decide +kernel
theorem dL_law_1587 : decode cL_law 1587 = .ok (.aload_n 0, 1) := by decide +kernel
theorem dL_law_1588 : decode cL_law 1588 = .ok (.iload_n 3, 1) := by decide +kernel
theorem dL_law_1589 : decode cL_law 1589 = .ok (.iconst 2, 1) := by decide +kernel
theorem dL_law_1590 : decode cL_law 1590 = .ok (.iadd, 1) := by decide +kernel
theorem dL_law_1591 : decode cL_law 1591 = .ok (.iaload, 1) := by decide +kernel
theorem dL_law_1592 : decode cL_law 1592 = .ok (.invokevirtual 209, 3) := by decide +kernel
theorem dL_law_1595 : decode cL_law 1595 = .ok (.if_icmp .eq 107, 3) := by decide +kernel
theorem dL_law_1598 : decode cL_law 1598 = .ok (.iconst 0, 1) := by decide +kernel
theorem dL_law_1599 : decode cL_law 1599 = .ok (.ireturn, 1) := by decide +kernel
theorem dL_law_1600 : decode cL_law 1600 = .ok (.aload_n 1, 1) := by decide +kernel
theorem dL_law_1601 : decode cL_law 1601 = .ok (.aload_n 0, 1) := by decide +kernel
theorem dL_law_1602 : decode cL_law 1602 = .ok (.iload_n 3, 1) := by decide +kernel
theorem dL_law_1603 : decode cL_law 1603 = .ok (.iconst 1, 1) := by decide +kernel
theorem dL_law_1604 : decode cL_law 1604 = .ok (.iadd, 1) := by decide +kernel
theorem dL_law_1605 : decode cL_law 1605 = .ok (.iaload, 1) := by decide +kernel
theorem dL_law_1606 : decode cL_law 1606 = .ok (.invokevirtual 210, 3) := by decide +kernel
theorem dL_law_1609 : decode cL_law 1609 = .ok (.aload_n 2, 1) := by decide +kernel
theorem dL_law_1610 : decode cL_law 1610 = .ok (.aload_n 0, 1) := by decide +kernel
theorem dL_law_1611 : decode cL_law 1611 = .ok (.iload_n 3, 1) := by decide +kernel
theorem dL_law_1612 : decode cL_law 1612 = .ok (.iconst 1, 1) := by decide +kernel
theorem dL_law_1613 : decode cL_law 1613 = .ok (.iadd, 1) := by decide +kernel
theorem dL_law_1614 : decode cL_law 1614 = .ok (.iaload, 1) := by decide +kernel
theorem dL_law_1615 : decode cL_law 1615 = .ok (.invokevirtual 213, 3) := by decide +kernel
theorem dL_law_1618 : decode cL_law 1618 = .ok (.if_icmp .eq 84, 3) := by decide +kernel
theorem dL_law_1621 : decode cL_law 1621 = .ok (.iconst 0, 1) := by decide +kernel
theorem dL_law_1622 : decode cL_law 1622 = .ok (.ireturn, 1) := by decide +kernel
theorem dL_law_1623 : decode cL_law 1623 = .ok (.aload_n 1, 1) := by decide +kernel
theorem dL_law_1624 : decode cL_law 1624 = .ok (.aload_n 0, 1) := by decide +kernel
theorem dL_law_1625 : decode cL_law 1625 = .ok (.iload_n 3, 1) := by decide +kernel
theorem dL_law_1626 : decode cL_law 1626 = .ok (.iconst 1, 1) := by decide +kernel
theorem dL_law_1627 : decode cL_law 1627 = .ok (.iadd, 1) := by decide +kernel
theorem dL_law_1628 : decode cL_law 1628 = .ok (.iaload, 1) := by decide +kernel
theorem dL_law_1629 : decode cL_law 1629 = .ok (.invokevirtual 214, 3) := by decide +kernel
theorem dL_law_1632 : decode cL_law 1632 = .ok (.aload_n 2, 1) := by decide +kernel
theorem dL_law_1633 : decode cL_law 1633 = .ok (.aload_n 0, 1) := by decide +kernel
theorem dL_law_1634 : decode cL_law 1634 = .ok (.iload_n 3, 1) := by decide +kernel
theorem dL_law_1635 : decode cL_law 1635 = .ok (.iconst 1, 1) := by decide +kernel
theorem dL_law_1636 : decode cL_law 1636 = .ok (.iadd, 1) := by decide +kernel
theorem dL_law_1637 : decode cL_law 1637 = .ok (.iaload, 1) := by decide +kernel
theorem dL_law_1638 : decode cL_law 1638 = .ok (.invokevirtual 217, 3) := by decide +kernel
theorem dL_law_1641 : decode cL_law 1641 = .ok (.if_icmp .eq 61, 3) := by decide +kernel
theorem dL_law_1644 : decode cL_law 1644 = .ok (.iconst 0, 1) := by decide +kernel
theorem dL_law_1645 : decode cL_law 1645 = .ok (.ireturn, 1) := by decide +kernel
theorem dL_law_1646 : decode cL_law 1646 = .ok (.aload_n 1, 1) := by decide +kernel
theorem dL_law_1647 : decode cL_law 1647 = .ok (.aload_n 0, 1) := by decide +kernel
theorem dL_law_1648 : decode cL_law 1648 = .ok (.iload_n 3, 1) := by decide +kernel
theorem dL_law_1649 : decode cL_law 1649 = .ok (.iconst 1, 1) := by decide +kernel
theorem dL_law_1650 : decode cL_law 1650 = .ok (.iadd, 1) := by decide +kernel
theorem dL_law_1651 : decode cL_law 1651 = .ok (.iaload, 1) := by decide +kernel
theorem dL_law_1652 : decode cL_law 1652 = .ok (.aload_n 0, 1) := by decide +kernel
theorem dL_law_1653 : decode cL_law 1653 = .ok (.iload_n 3, 1) := by decide +kernel
theorem dL_law_1654 : decode cL_law 1654 = .ok (.iconst 2, 1) := by decide +kernel
theorem dL_law_1655 : decode cL_law 1655 = .ok (.iadd, 1) := by decide +kernel
theorem dL_law_1656 : decode cL_law 1656 = .ok (.iaload, 1) := by decide +kernel
theorem dL_law_1657 : decode cL_law 1657 = .ok (.invokevirtual 218, 3) := by decide +kernel
theorem dL_law_1660 : decode cL_law 1660 = .ok (.aload_n 2, 1) := by decide +kernel
theorem dL_law_1661 : decode cL_law 1661 = .ok (.aload_n 0, 1) := by decide +kernel
theorem dL_law_1662 : decode cL_law 1662 = .ok (.iload_n 3, 1) := by decide +kernel
theorem dL_law_1663 : decode cL_law 1663 = .ok (.iconst 1, 1) := by decide +kernel
theorem dL_law_1664 : decode cL_law 1664 = .ok (.iadd, 1) := by decide +kernel
theorem dL_law_1665 : decode cL_law 1665 = .ok (.iaload, 1) := by decide +kernel
theorem dL_law_1666 : decode cL_law 1666 = .ok (.aload_n 0, 1) := by decide +kernel
theorem dL_law_1667 : decode cL_law 1667 = .ok (.iload_n 3, 1) := by decide +kernel
theorem dL_law_1668 : decode cL_law 1668 = .ok (.iconst 2, 1) := by decide +kernel
theorem dL_law_1669 : decode cL_law 1669 = .ok (.iadd, 1) := by decide +kernel
theorem dL_law_1670 : decode cL_law 1670 = .ok (.iaload, 1) := by decide +kernel
theorem dL_law_1671 : decode cL_law 1671 = .ok (.invokevirtual 221, 3) := by decide +kernel
theorem dL_law_1674 : decode cL_law 1674 = .ok (.if_icmp .eq 28, 3) := by decide +kernel
theorem dL_law_1677 : decode cL_law 1677 = .ok (.iconst 0, 1) := by decide +kernel
theorem dL_law_1678 : decode cL_law 1678 = .ok (.ireturn, 1) := by decide +kernel
theorem dL_law_1679 : decode cL_law 1679 = .ok (.aload_n 1, 1) := by decide +kernel
theorem dL_law_1680 : decode cL_law 1680 = .ok (.aload_n 0, 1) := by decide +kernel
theorem dL_law_1681 : decode cL_law 1681 = .ok (.iload_n 3, 1) := by decide +kernel
theorem dL_law_1682 : decode cL_law 1682 = .ok (.iconst 1, 1) := by decide +kernel
theorem dL_law_1683 : decode cL_law 1683 = .ok (.iadd, 1) := by decide +kernel
theorem dL_law_1684 : decode cL_law 1684 = .ok (.iaload, 1) := by decide +kernel
theorem dL_law_1685 : decode cL_law 1685 = .ok (.invokevirtual 222, 3) := by decide +kernel
theorem dL_law_1688 : decode cL_law 1688 = .ok (.aload_n 2, 1) := by decide +kernel
theorem dL_law_1689 : decode cL_law 1689 = .ok (.aload_n 0, 1) := by decide +kernel
theorem dL_law_1690 : decode cL_law 1690 = .ok (.iload_n 3, 1) := by decide +kernel
theorem dL_law_1691 : decode cL_law 1691 = .ok (.iconst 1, 1) := by decide +kernel
theorem dL_law_1692 : decode cL_law 1692 = .ok (.iadd, 1) := by decide +kernel
theorem dL_law_1693 : decode cL_law 1693 = .ok (.iaload, 1) := by decide +kernel
theorem dL_law_1694 : decode cL_law 1694 = .ok (.invokevirtual 225, 3) := by decide +kernel
theorem dL_law_1697 : decode cL_law 1697 = .ok (.if_icmp .eq 5, 3) := by decide +kernel
theorem dL_law_1700 : decode cL_law 1700 = .ok (.iconst 0, 1) := by decide +kernel
theorem dL_law_1701 : decode cL_law 1701 = .ok (.ireturn, 1) := by decide +kernel
theorem dL_law_1702 : decode cL_law 1702 = .ok (.iinc 3 6, 3) := by decide +kernel
theorem dL_law_1705 : decode cL_law 1705 = .ok (.goto (-1687), 3) := by decide +kernel
theorem dL_law_1708 : decode cL_law 1708 = .ok (.iconst 1, 1) := by decide +kernel
theorem dL_law_1709 : decode cL_law 1709 = .ok (.ireturn, 1) := by decide +kernel
