theorem dL_law_1165 : decode cL_law 1165 = .ok (.aload_n 1, 1) := by decide +kernel
theorem dL_law_1166 : decode cL_law 1166 = .ok (.aload_n 0, 1) := by decide +kernel
theorem dL_law_1167 : decode cL_law 1167 = .ok (.iload 4, 2) := by decide +kernel
theorem dL_law_1169 : decode cL_law 1169 = .ok (.iconst 1, 1) := by decide +kernel
theorem dL_law_1170 : decode cL_law 1170 = .ok (.iadd, 1) := by decide +kernel
theorem dL_law_1171 : decode cL_law 1171 = .ok (.iaload, 1) := by decide +kernel
theorem dL_law_1172 : decode cL_law 1172 = .ok (.invokevirtual 135, 3) := by decide +kernel
theorem dL_law_1175 : decode cL_law 1175 = .ok (.aload_n 2, 1) := by decide +kernel
theorem dL_law_1176 : decode cL_law 1176 = .ok (.aload_n 0, 1) := by decide +kernel
theorem dL_law_1177 : decode cL_law 1177 = .ok (.iload 4, 2) := by decide +kernel
theorem dL_law_1179 : decode cL_law 1179 = .ok (.iconst 1, 1) := by decide +kernel
theorem dL_law_1180 : decode cL_law 1180 = .ok (.iadd, 1) := by decide +kernel
theorem dL_law_1181 : decode cL_law 1181 = .ok (.iaload, 1) := by decide +kernel
theorem dL_law_1182 : decode cL_law 1182 = .ok (.invokevirtual 138, 3) := by decide +kernel
theorem dL_law_1185 : decode cL_law 1185 = .ok (.if_icmp .eq 679, 3) := by decide +kernel
theorem dL_law_1190 : decode cL_law 1190 = .ok (.aload_n 1, 1) := by decide +kernel
theorem dL_law_1191 : decode cL_law 1191 = .ok (.invokevirtual 139, 3) := by decide +kernel
theorem dL_law_1194 : decode cL_law 1194 = .ok (.aload_n 2, 1) := by decide +kernel
theorem dL_law_1195 : decode cL_law 1195 = .ok (.invokevirtual 142, 3) := by decide +kernel
theorem dL_law_1198 : decode cL_law 1198 = .ok (.if_icmp .eq 666, 3) := by decide +kernel
theorem dL_law_1203 : decode cL_law 1203 = .ok (.aload_n 1, 1) := by decide +kernel
theorem dL_law_1204 : decode cL_law 1204 = .ok (.invokevirtual 143, 3) := by decide +kernel
theorem dL_law_1207 : decode cL_law 1207 = .ok (.aload_n 2, 1) := by decide +kernel
theorem dL_law_1208 : decode cL_law 1208 = .ok (.invokevirtual 146, 3) := by decide +kernel
theorem dL_law_1211 : decode cL_law 1211 = .ok (.if_icmp .eq 653, 3) := by decide +kernel
theorem dL_law_1216 : decode cL_law 1216 = .ok (.aload_n 1, 1) := by decide +kernel
theorem dL_law_1217 : decode cL_law 1217 = .ok (.aload_n 0, 1) := by decide +kernel
theorem dL_law_1218 : decode cL_law 1218 = .ok (.iload 4, 2) := by decide +kernel
theorem dL_law_1220 : decode cL_law 1220 = .ok (.iconst 1, 1) := by decide +kernel
theorem dL_law_1221 : decode cL_law 1221 = .ok (.iadd, 1) := by decide +kernel
theorem dL_law_1222 : decode cL_law 1222 = .ok (.iaload, 1) := by decide +kernel
theorem dL_law_1223 : decode cL_law 1223 = .ok (.invokevirtual 147, 3) := by decide +kernel
theorem dL_law_1226 : decode cL_law 1226 = .ok (.aload_n 2, 1) := by decide +kernel
theorem dL_law_1227 : decode cL_law 1227 = .ok (.aload_n 0, 1) := by decide +kernel
theorem dL_law_1228 : decode cL_law 1228 = .ok (.iload 4, 2) := by decide +kernel
theorem dL_law_1230 : decode cL_law 1230 = .ok (.iconst 1, 1) := by decide +kernel
theorem dL_law_1231 : decode cL_law 1231 = .ok (.iadd, 1) := by decide +kernel
theorem dL_law_1232 : decode cL_law 1232 = .ok (.iaload, 1) := by decide +kernel
theorem dL_law_1233 : decode cL_law 1233 = .ok (.invokevirtual 150, 3) := by decide +kernel
theorem dL_law_1236 : decode cL_law 1236 = .ok (.if_icmp .eq 628, 3) := by decide +kernel
theorem dL_law_1241 : decode cL_law 1241 = .ok (.aload_n 1, 1) := by decide +kernel
theorem dL_law_1242 : decode cL_law 1242 = .ok (.aload_n 0, 1) := by decide +kernel
theorem dL_law_1243 : decode cL_law 1243 = .ok (.iload 4, 2) := by decide +kernel
theorem dL_law_1245 : decode cL_law 1245 = .ok (.iconst 1, 1) := by decide +kernel
theorem dL_law_1246 : decode cL_law 1246 = .ok (.iadd, 1) := by decide +kernel
theorem dL_law_1247 : decode cL_law 1247 = .ok (.iaload, 1) := by decide +kernel
theorem dL_law_1248 : decode cL_law 1248 = .ok (.aload_n 0, 1) := by decide +kernel
theorem dL_law_1249 : decode cL_law 1249 = .ok (.iload 4, 2) := by decide +kernel
theorem dL_law_1251 : decode cL_law 1251 = .ok (.iconst 2, 1) := by decide +kernel
theorem dL_law_1252 : decode cL_law 1252 = .ok (.iadd, 1) := by decide +kernel
theorem dL_law_1253 : decode cL_law 1253 = .ok (.iaload, 1) := by decide +kernel
theorem dL_law_1254 : decode cL_law 1254 = .ok (.invokevirtual 151, 3) := by decide +kernel
theorem dL_law_1257 : decode cL_law 1257 = .ok (.aload_n 2, 1) := by decide +kernel
theorem dL_law_1258 : decode cL_law 1258 = .ok (.aload_n 0, 1) := by decide +kernel
theorem dL_law_1259 : decode cL_law 1259 = .ok (.iload 4, 2) := by decide +kernel
theorem dL_law_1261 : decode cL_law 1261 = .ok (.iconst 1, 1) := by decide +kernel
theorem dL_law_1262 : decode cL_law 1262 = .ok (.iadd, 1) := by decide +kernel
theorem dL_law_1263 : decode cL_law 1263 = .ok (.iaload, 1) := by decide +kernel
theorem dL_law_1264 : decode cL_law 1264 = .ok (.aload_n 0, 1) := by decide +kernel
theorem dL_law_1265 : decode cL_law 1265 = .ok (.iload 4, 2) := by decide +kernel
theorem dL_law_1267 : decode cL_law 1267 = .ok (.iconst 2, 1) := by decide +kernel
theorem dL_law_1268 : decode cL_law 1268 = .ok (.iadd, 1) := by decide +kernel
theorem dL_law_1269 : decode cL_law 1269 = .ok (.iaload, 1) := by decide +kernel
theorem dL_law_1270 : decode cL_law 1270 = .ok (.invokevirtual 154, 3) := by decide +kernel
theorem dL_law_1273 : decode cL_law 1273 = .ok (.if_icmp .eq 591, 3) := by decide +kernel
theorem dL_law_1278 : decode cL_law 1278 = .ok (.aload_n 1, 1) := by decide +kernel
theorem dL_law_1279 : decode cL_law 1279 = .ok (.invokevirtual 155, 3) := by decide +kernel
theorem dL_law_1282 : decode cL_law 1282 = .ok (.aload_n 2, 1) := by decide +kernel
theorem dL_law_1283 : decode cL_law 1283 = .ok (.invokevirtual 158, 3) := by decide +kernel
theorem dL_law_1286 : decode cL_law 1286 = .ok (.if_icmp .eq 578, 3) := by decide +kernel
theorem dL_law_1291 : decode cL_law 1291 = .ok (.aload_n 1, 1) := by decide +kernel
theorem dL_law_1292 : decode cL_law 1292 = .ok (.aload_n 0, 1) := by decide +kernel
theorem dL_law_1293 : decode cL_law 1293 = .ok (.iload 4, 2) := by decide +kernel
theorem dL_law_1295 : decode cL_law 1295 = .ok (.iconst 1, 1) := by decide +kernel
theorem dL_law_1296 : decode cL_law 1296 = .ok (.iadd, 1) := by decide +kernel
theorem dL_law_1297 : decode cL_law 1297 = .ok (.iaload, 1) := by decide +kernel
theorem dL_law_1298 : decode cL_law 1298 = .ok (.invokevirtual 159, 3) := by decide +kernel
theorem dL_law_1301 : decode cL_law 1301 = .ok (.aload_n 2, 1) := by decide +kernel
theorem dL_law_1302 : decode cL_law 1302 = .ok (.aload_n 0, 1) := by decide +kernel
theorem dL_law_1303 : decode cL_law 1303 = .ok (.iload 4, 2) := by decide +kernel
theorem dL_law_1305 : decode cL_law 1305 = .ok (.iconst 1, 1) := by decide +kernel
theorem dL_law_1306 : decode cL_law 1306 = .ok (.iadd, 1) := by decide +kernel
theorem dL_law_1307 : decode cL_law 1307 = .ok (.iaload, 1) := by decide +kernel
theorem dL_law_1308 : decode cL_law 1308 = .ok (.invokevirtual 162, 3) := by decide +kernel
theorem dL_law_1311 : decode cL_law 1311 = .ok (.if_icmp .eq 553, 3) := by decide +kernel
theorem dL_law_1316 : decode cL_law 1316 = .ok (.aload_n 1, 1) := by decide +kernel
theorem dL_law_1317 : decode cL_law 1317 = .ok (.aload_n 0, 1) := by decide +kernel
theorem dL_law_1318 : decode cL_law 1318 = .ok (.iload 4, 2) := by decide +kernel
theorem dL_law_1320 : decode cL_law 1320 = .ok (.iconst 1, 1) := by decide +kernel
theorem dL_law_1321 : decode cL_law 1321 = .ok (.iadd, 1) := by decide +kernel
theorem dL_law_1322 : decode cL_law 1322 = .ok (.iaload, 1) := by decide +kernel
theorem dL_law_1323 : decode cL_law 1323 = .ok (.aload_n 0, 1) := by decide +kernel
theorem dL_law_1324 : decode cL_law 1324 = .ok (.iload 4, 2) := by decide +kernel
theorem dL_law_1326 : decode cL_law 1326 = .ok (.iconst 2, 1) := by decide +kernel
theorem dL_law_1327 : decode cL_law 1327 = .ok (.iadd, 1) := by decide +kernel
theorem dL_law_1328 : decode cL_law 1328 = .ok (.iaload, 1) := by decide +kernel
theorem dL_law_1329 : decode cL_law 1329 = .ok (.invokevirtual 163, 3) := by decide +kernel
theorem dL_law_1332 : decode cL_law 1332 = .ok (.aload_n 2, 1) := by decide +kernel
theorem dL_law_1333 : decode cL_law 1333 = .ok (.aload_n 0, 1) := by decide +kernel
theorem dL_law_1334 : decode cL_law 1334 = .ok (.iload 4, 2) := by decide +kernel
theorem dL_law_1336 : decode cL_law 1336 = .ok (.iconst 1, 1) := by decide +kernel
theorem dL_law_1337 : decode cL_law 1337 = .ok (.iadd, 1) := by decide +kernel
theorem dL_law_1338 : decode cL_law 1338 = .ok (.iaload, 1) := by decide +kernel
theorem dL_law_1339 : decode cL_law 1339 = .ok (.aload_n 0, 1) := by decide +kernel
theorem dL_law_1340 : decode cL_law 1340 = .ok (.iload 4, 2) := by decide +kernel
theorem dL_law_1342 : decode cL_law 1342 = .ok (.iconst 2, 1) := by decide +kernel
theorem dL_law_1343 : decode cL_law 1343 = .ok (.iadd, 1) := by decide +kernel
theorem dL_law_1344 : decode cL_law 1344 = .ok (.iaload, 1) := by decide +kernel
theorem dL_law_1345 : decode cL_law 1345 = .ok (.invokevirtual 166, 3) := by decide +kernel
theorem dL_law_1348 : decode cL_law 1348 = .ok (.if_icmp .eq 516, 3) := by decide +kernel
theorem dL_law_1353 : decode cL_law 1353 = .ok (.aload_n 1, 1) := by decide +kernel
theorem dL_law_1354 : decode cL_law 1354 = .ok (.aload_n 0, 1) := by decide +kernel
theorem dL_law_1355 : decode cL_law 1355 = .ok (.iload 4, 2) := by decide +kernel
theorem dL_law_1357 : decode cL_law 1357 = .ok (.iconst 1, 1) := by decide +kernel
theorem dL_law_1358 : decode cL_law 1358 = .ok (.iadd, 1) := by decide +kernel
theorem dL_law_1359 : decode cL_law 1359 = .ok (.iaload, 1) := by decide +kernel
theorem dL_law_1360 : decode cL_law 1360 = .ok (.invokevirtual 167, 3) := by decide +kernel
theorem dL_law_1363 : decode cL_law 1363 = .ok (.aload_n 2, 1) := by decide +kernel
theorem dL_law_1364 : decode cL_law 1364 = .ok (.aload_n 0, 1) := by decide +kernel
theorem dL_law_1365 : decode cL_law 1365 = .ok (.iload 4, 2) := by decide +kernel
theorem dL_law_1367 : decode cL_law 1367 = .ok (.iconst 1, 1) := by decide +kernel
theorem dL_law_1368 : decode cL_law 1368 = .ok (.iadd, 1) := by decide +kernel
theorem dL_law_1369 : decode cL_law 1369 = .ok (.iaload, 1) := by decide +kernel
theorem dL_law_1370 : decode cL_law 1370 = .ok (.invokevirtual 170, 3) := by decide +kernel
theorem dL_law_1373 : decode cL_law 1373 = .ok (.if_icmp .eq 491, 3) := by decide +kernel
theorem dL_law_1378 : decode cL_law 1378 = .ok (.aload_n 1, 1) := by decide +kernel
theorem dL_law_1379 : decode cL_law 1379 = .ok (.aload_n 0, 1) := by decide +kernel
theorem dL_law_1380 : decode cL_law 1380 = .ok (.iload 4, 2) := by decide +kernel
theorem dL_law_1382 : decode cL_law 1382 = .ok (.iconst 1, 1) := by decide +kernel
theorem dL_law_1383 : decode cL_law 1383 = .ok (.iadd, 1) := by decide +kernel
theorem dL_law_1384 : decode cL_law 1384 = .ok (.iaload, 1) := by decide +kernel
theorem dL_law_1385 : decode cL_law 1385 = .ok (.aload_n 0, 1) := by decide +kernel
theorem dL_law_1386 : decode cL_law 1386 = .ok (.iload 4, 2) := by decide +kernel
theorem dL_law_1388 : decode cL_law 1388 = .ok (.iconst 2, 1) := by decide +kernel
theorem dL_law_1389 : decode cL_law 1389 = .ok (.iadd, 1) := by decide +kernel
theorem dL_law_1390 : decode cL_law 1390 = .ok (.iaload, 1) := by decide +kernel
theorem dL_law_1391 : decode cL_law 1391 = .ok (.invokevirtual 171, 3) := by decide +kernel
theorem dL_law_1394 : decode cL_law 1394 = .ok (.aload_n 2, 1) := by decide +kernel
theorem dL_law_1395 : decode cL_law 1395 = .ok (.aload_n 0, 1) := by decide +kernel
theorem dL_law_1396 : decode cL_law 1396 = .ok (.iload 4, 2) := by decide +kernel
theorem dL_law_1398 : decode cL_law 1398 = .ok (.iconst 1, 1) := by decide +kernel
theorem dL_law_1399 : decode cL_law 1399 = .ok (.iadd, 1) := by decide +kernel
theorem dL_law_1400 : decode cL_law 1400 = .ok (.iaload, 1) := by decide +kernel
theorem dL_law_1401 : decode cL_law 1401 = .ok (.aload_n 0, 1) := by decide +kernel
theorem dL_law_1402 : decode cL_law 1402 = .ok (.iload 4, 2) := by decide +kernel
theorem dL_law_1404 : decode cL_law 1404 = .ok (.iconst 2, 1) := by decide +kernel
theorem dL_law_1405 : decode cL_law 1405 = .ok (.iadd, 1) := by decide +kernel
theorem dL_law_1406 : decode cL_law 1406 = .ok (.iaload, 1) := by decide +kernel
theorem dL_law_1407 : decode cL_law 1407 = .ok (.invokevirtual 174, 3) := by decide +kernel
theorem dL_law_1410 : decode cL_law 1410 = .ok (.if_icmp .eq 454, 3) := by decide +kernel
theorem dL_law_1415 : decode cL_law 1415 = .ok (.aload_n 1, 1) := by decide +kernel
theorem dL_law_1416 : decode cL_law 1416 = .ok (.aload_n 0, 1) := by decide +kernel
theorem dL_law_1417 : decode cL_law 1417 = .ok (.iload 4, 2) := by decide +kernel
theorem dL_law_1419 : decode cL_law 1419 = .ok (.iconst 1, 1) := by decide +kernel
theorem dL_law_1420 : decode cL_law 1420 = .ok (.iadd, 1) := by decide +kernel
theorem dL_law_1421 : decode cL_law 1421 = .ok (.iaload, 1) := by decide +kernel
theorem dL_law_1422 : decode cL_law 1422 = .ok (.aload_n 0, 1) := by decide +kernel
theorem dL_law_1423 : decode cL_law 1423 = .ok (.iload 4, 2) := by decide +kernel
theorem dL_law_1425 : decode cL_law 1425 = .ok (.iconst 2, 1) := by decide +kernel
theorem dL_law_1426 : decode cL_law 1426 = .ok (.iadd, 1) := by decide +kernel
theorem dL_law_1427 : decode cL_law 1427 = .ok (.iaload, 1) := by decide +kernel
theorem dL_law_1428 : decode cL_law 1428 = .ok (.aload_n 0, 1) := by decide +kernel
theorem dL_law_1429 : decode cL_law 1429 = .ok (.iload 4, 2) := by decide +kernel
theorem dL_law_1431 : decode cL_law 1431 = .ok (.iconst 3, 1) := by decide +kernel
theorem dL_law_1432 : decode cL_law 1432 = .ok (.iadd, 1) := by decide +kernel
theorem dL_law_1433 : decode cL_law 1433 = .ok (.iaload, 1) := by decide +kernel
theorem dL_law_1434 : decode cL_law 1434 = .ok (.invokevirtual 175, 3) := by decide +kernel
theorem dL_law_1437 : decode cL_law 1437 = .ok (.aload_n 2, 1) := by decide +kernel
theorem dL_law_1438 : decode cL_law 1438 = .ok (.aload_n 0, 1) := by decide +kernel
theorem dL_law_1439 : decode cL_law 1439 = .ok (.iload 4, 2) := by decide +kernel
theorem dL_law_1441 : decode cL_law 1441 = .ok (.iconst 1, 1) := by decide +kernel
theorem dL_law_1442 : decode cL_law 1442 = .ok (.iadd, 1) := by decide +kernel
theorem dL_law_1443 : decode cL_law 1443 = .ok (.iaload, 1) := by decide +kernel
theorem dL_law_1444 : decode cL_law 1444 = .ok (.aload_n 0, 1) := by decide +kernel
theorem dL_law_1445 : decode cL_law 1445 = .ok (.iload 4, 2) := by decide +kernel
theorem dL_law_1447 : decode cL_law 1447 = .ok (.iconst 2, 1) := by decide +kernel
theorem dL_law_1448 : decode cL_law 1448 = .ok (.iadd, 1) := by decide +kernel
theorem dL_law_1449 : decode cL_law 1449 = .ok (.iaload, 1) := by decide +kernel
theorem dL_law_1450 : decode cL_law 1450 = .ok (.aload_n 0, 1) := by decide +kernel
theorem dL_law_1451 : decode cL_law 1451 = .ok (.iload 4, 2) := by decide +kernel
theorem dL_law_1453 : decode cL_law 1453 = .ok (.iconst 3, 1) := by decide +kernel
theorem dL_law_1454 : decode cL_law 1454 = .ok (.iadd, 1) := by decide +kernel
theorem dL_law_1455 : decode cL_law 1455 = .ok (.iaload, 1) := by decide +kernel
theorem dL_law_1456 : decode cL_law 1456 = .ok (.invokevirtual 178, 3) := by decide +kernel
theorem dL_law_1459 : decode cL_law 1459 = .ok (.if_icmp .eq 405, 3) := by decide +kernel
theorem dL_law_1464 : decode cL_law 1464 = .ok (.aload_n 1, 1) := by decide +kernel
theorem dL_law_1465 : decode cL_law 1465 = .ok (.invokevirtual 179, 3) := by decide +kernel
theorem dL_law_1468 : decode cL_law 1468 = .ok (.aload_n 2, 1) := by decide +kernel
theorem dL_law_1469 : decode cL_law 1469 = .ok (.invokevirtual 182, 3) := by decide +kernel
theorem dL_law_1472 : decode cL_law 1472 = .ok (.if_icmp .eq 392, 3) := by decide +kernel
theorem dL_law_1477 : decode cL_law 1477 = .ok (.aload_n 1, 1) := by decide +kernel
theorem dL_law_1478 : decode cL_law 1478 = .ok (.invokevirtual 183, 3) := by decide +kernel
theorem dL_law_1481 : decode cL_law 1481 = .ok (.aload_n 2, 1) := by decide +kernel
theorem dL_law_1482 : decode cL_law 1482 = .ok (.invokevirtual 186, 3) := by decide +kernel
theorem dL_law_1485 : decode cL_law 1485 = .ok (.if_icmp .eq 379, 3) := by decide +kernel
theorem dL_law_1490 : decode cL_law 1490 = .ok (.aload_n 1, 1) := by decide +kernel
theorem dL_law_1491 : decode cL_law 1491 = .ok (.aload_n 0, 1) := by decide +kernel
theorem dL_law_1492 : decode cL_law 1492 = .ok (.iload 4, 2) := by decide +kernel
theorem dL_law_1494 : decode cL_law 1494 = .ok (.iconst 1, 1) := by decide +kernel
theorem dL_law_1495 : decode cL_law 1495 = .ok (.iadd, 1) := by decide +kernel
theorem dL_law_1496 : decode cL_law 1496 = .ok (.iaload, 1) := by decide +kernel
theorem dL_law_1497 : decode cL_law 1497 = .ok (.invokevirtual 187, 3) := by decide +kernel
theorem dL_law_1500 : decode cL_law 1500 = .ok (.aload_n 2, 1) := by decide +kernel
theorem dL_law_1501 : decode cL_law 1501 = .ok (.aload_n 0, 1) := by decide +kernel
theorem dL_law_1502 : decode cL_law 1502 = .ok (.iload 4, 2) := by decide +kernel
theorem dL_law_1504 : decode cL_law 1504 = .ok (.iconst 1, 1) := by decide +kernel
theorem dL_law_1505 : decode cL_law 1505 = .ok (.iadd, 1) := by decide +kernel
theorem dL_law_1506 : decode cL_law 1506 = .ok (.iaload, 1) := by decide +kernel
theorem dL_law_1507 : decode cL_law 1507 = .ok (.invokevirtual 190, 3) := by decide +kernel
theorem dL_law_1510 : decode cL_law 1510 = .ok (.if_icmp .eq 354, 3) := by decide +kernel
theorem dL_law_1515 : decode cL_law 1515 = .ok (.aload_n 1, 1) := by decide +kernel
theorem dL_law_1516 : decode cL_law 1516 = .ok (.aload_n 0, 1) := by decide +kernel
theorem dL_law_1517 : decode cL_law 1517 = .ok (.iload 4, 2) := by decide +kernel
theorem dL_law_1519 : decode cL_law 1519 = .ok (.iconst 1, 1) := by decide +kernel
theorem dL_law_1520 : decode cL_law 1520 = .ok (.iadd, 1) := by decide +kernel
theorem dL_law_1521 : decode cL_law 1521 = .ok (.iaload, 1) := by decide +kernel
theorem dL_law_1522 : decode cL_law 1522 = .ok (.aload_n 0, 1) := by decide +kernel
theorem dL_law_1523 : decode cL_law 1523 = .ok (.iload 4, 2) := by decide +kernel
theorem dL_law_1525 : decode cL_law 1525 = .ok (.iconst 2, 1) := by decide +kernel
theorem dL_law_1526 : decode cL_law 1526 = .ok (.iadd, 1) := by decide +kernel
theorem dL_law_1527 : decode cL_law 1527 = .ok (.iaload, 1) := by decide +kernel
theorem dL_law_1528 : decode cL_law 1528 = .ok (.aload_n 0, 1) := by decide +kernel
theorem dL_law_1529 : decode cL_law 1529 = .ok (.iload 4, 2) := by decide +kernel
theorem dL_law_1531 : decode cL_law 1531 = .ok (.iconst 3, 1) := by decide +kernel
theorem dL_law_1532 : decode cL_law 1532 = .ok (.iadd, 1) := by decide +kernel
theorem dL_law_1533 : decode cL_law 1533 = .ok (.iaload, 1) := by decide +kernel
theorem dL_law_1534 : decode cL_law 1534 = .ok (.aload_n 0, 1) := by decide +kernel
theorem dL_law_1535 : decode cL_law 1535 = .ok (.iload 4, 2) := by decide +kernel
theorem dL_law_1537 : decode cL_law 1537 = .ok (.iconst 4, 1) := by decide +kernel
theorem dL_law_1538 : decode cL_law 1538 = .ok (.iadd, 1) := by decide +kernel
theorem dL_law_1539 : decode cL_law 1539 = .ok (.iaload, 1) := by decide +kernel
theorem dL_law_1540 : decode cL_law 1540 = .ok (.invokevirtual 191, 3) := by decide +kernel
theorem dL_law_1543 : decode cL_law 1543 = .ok (.aload_n 2, 1) := by decide +kernel
theorem dL_law_1544 : decode cL_law 1544 = .ok (.aload_n 0, 1) := by decide +kernel
theorem dL_law_1545 : decode cL_law 1545 = .ok (.iload 4, 2) := by decide +kernel
theorem dL_law_1547 : decode cL_law 1547 = .ok (.iconst 1, 1) := by decide +kernel
theorem dL_law_1548 : decode cL_law 1548 = .ok (.iadd, 1) := by decide +kernel
theorem dL_law_1549 : decode cL_law 1549 = .ok (.iaload, 1) := by decide +kernel
theorem dL_law_1550 : decode cL_law 1550 = .ok (.aload_n 0, 1) := by decide +kernel
theorem dL_law_1551 : decode cL_law 1551 = .ok (.iload 4, 2) := by decide +kernel
theorem dL_law_1553 : decode cL_law 1553 = .ok (.iconst 2, 1) := by decide +kernel
theorem dL_law_1554 : decode cL_law 1554 = .ok (.iadd, 1) := by decide +kernel
theorem dL_law_1555 : decode cL_law 1555 = .ok (.iaload, 1) := by decide +kernel
theorem dL_law_1556 : decode cL_law 1556 = .ok (.aload_n 0, 1) := by decide +kernel
theorem dL_law_1557 : decode cL_law 1557 = .ok (.iload 4, 2) := by decide +kernel
theorem dL_law_1559 : decode cL_law 1559 = .ok (.iconst 3, 1) := by decide +kernel
theorem dL_law_1560 : decode cL_law 1560 = .ok (.iadd, 1) := by decide +kernel
theorem dL_law_1561 : decode cL_law 1561 = .ok (.iaload, 1) := by decide +kernel
theorem dL_law_1562 : decode cL_law 1562 = .ok (.aload_n 0, 1) := by decide +kernel
theorem dL_law_1563 : decode cL_law 1563 = .ok (.iload 4, 2) := by decide +kernel
theorem dL_law_1565 : decode cL_law 1565 = .ok (.iconst 4, 1) := by decide +kernel
theorem dL_law_1566 : decode cL_law 1566 = .ok (.iadd, 1) := by decide +kernel
theorem dL_law_1567 : decode cL_law 1567 = .ok (.iaload, 1) := by decide +kernel
theorem dL_law_1568 : decode cL_law 1568 = .ok (.invokevirtual 195, 3) := by decide +kernel
theorem dL_law_1571 : decode cL_law 1571 = .ok (.if_icmp .eq 293, 3) := by decide +kernel
theorem dL_law_1576 : decode cL_law 1576 = .ok (.aload_n 1, 1) := by decide +kernel
theorem dL_law_1577 : decode cL_law 1577 = .ok (.aload_n 0, 1) := by decide +kernel
theorem dL_law_1578 : decode cL_law 1578 = .ok (.iload 4, 2) := by decide +kernel
theorem dL_law_1580 : decode cL_law 1580 = .ok (.iconst 1, 1) := by decide +kernel
theorem dL_law_1581 : decode cL_law 1581 = .ok (.iadd, 1) := by decide +kernel
theorem dL_law_1582 : decode cL_law 1582 = .ok (.iaload, 1) := by decide +kernel
theorem dL_law_1583 : decode cL_law 1583 = .ok (.aload_n 0, 1) := by decide +kernel
theorem dL_law_1584 : decode cL_law 1584 = .ok (.iload 4, 2) := by decide +kernel
theorem dL_law_1586 : decode cL_law 1586 = .ok (.iconst 2, 1) := by decide +kernel
theorem dL_law_1587 : decode cL_law 1587 = .ok (.iadd, 1) := by decide +kernel
theorem dL_law_1588 : decode cL_law 1588 = .ok (.iaload, 1) := by decide +kernel
theorem dL_law_1589 : decode cL_law 1589 = .ok (.aload_n 0, 1) := by decide +kernel
theorem dL_law_1590 : decode cL_law 1590 = .ok (.iload 4, 2) := by decide +kernel
theorem dL_law_1592 : decode cL_law 1592 = .ok (.iconst 3, 1) := by decide +kernel
theorem dL_law_1593 : decode cL_law 1593 = .ok (.iadd, 1) := by decide +kernel
theorem dL_law_1594 : decode cL_law 1594 = .ok (.iaload, 1) := by decide +kernel
theorem dL_law_1595 : decode cL_law 1595 = .ok (.invokevirtual 196, 3) := by decide +kernel
theorem dL_law_1598 : decode cL_law 1598 = .ok (.aload_n 2, 1) := by decide +kernel
theorem dL_law_1599 : decode cL_law 1599 = .ok (.aload_n 0, 1) := by decide +kernel
theorem dL_law_1600 : decode cL_law 1600 = .ok (.iload 4, 2) := by decide +kernel
theorem dL_law_1602 : decode cL_law 1602 = .ok (.iconst 1, 1) := by decide +kernel
theorem dL_law_1603 : decode cL_law 1603 = .ok (.iadd, 1) := by decide +kernel
theorem dL_law_1604 : decode cL_law 1604 = .ok (.iaload, 1) := by decide +kernel
theorem dL_law_1605 : decode cL_law 1605 = .ok (.aload_n 0, 1) := by decide +kernel
theorem dL_law_1606 : decode cL_law 1606 = .ok (.iload 4, 2) := by decide +kernel
theorem dL_law_1608 : decode cL_law 1608 = .ok (.iconst 2, 1) := by decide +kernel
theorem dL_law_1609 : decode cL_law 1609 = .ok (.iadd, 1) := by decide +kernel
theorem dL_law_1610 : decode cL_law 1610 = .ok (.iaload, 1) := by decide +kernel
theorem dL_law_1611 : decode cL_law 1611 = .ok (.aload_n 0, 1) := by decide +kernel
theorem dL_law_1612 : decode cL_law 1612 = .ok (.iload 4, 2) := by decide +kernel
theorem dL_law_1614 : decode cL_law 1614 = .ok (.iconst 3, 1) := by decide +kernel
theorem dL_law_1615 : decode cL_law 1615 = .ok (.iadd, 1) := by decide +kernel
theorem dL_law_1616 : decode cL_law 1616 = .ok (.iaload, 1) := by decide +kernel
theorem dL_law_1617 : decode cL_law 1617 = .ok (.invokevirtual 199, 3) := by decide +kernel
theorem dL_law_1620 : decode cL_law 1620 = .ok (.if_icmp .eq 244, 3) := by decide +kernel
theorem dL_law_1625 : decode cL_law 1625 = .ok (.aload_n 1, 1) := by decide +kernel
theorem dL_law_1626 : decode cL_law 1626 = .ok (.aload_n 0, 1) := by decide +kernel
theorem dL_law_1627 : decode cL_law 1627 = .ok (.iload 4, 2) := by decide +kernel
theorem dL_law_1629 : decode cL_law 1629 = .ok (.iconst 1, 1) := by decide +kernel
theorem dL_law_1630 : decode cL_law 1630 = .ok (.iadd, 1) := by decide +kernel
theorem dL_law_1631 : decode cL_law 1631 = .ok (.iaload, 1) := by decide +kernel
theorem dL_law_1632 : decode cL_law 1632 = .ok (.aload_n 0, 1) := by decide +kernel
theorem dL_law_1633 : decode cL_law 1633 = .ok (.iload 4, 2) := by decide +kernel
theorem dL_law_1635 : decode cL_law 1635 = .ok (.iconst 2, 1) := by decide +kernel
theorem dL_law_1636 : decode cL_law 1636 = .ok (.iadd, 1) := by decide +kernel
theorem dL_law_1637 : decode cL_law 1637 = .ok (.iaload, 1) := by decide +kernel
theorem dL_law_1638 : decode cL_law 1638 = .ok (.aload_n 0, 1) := by decide +kernel
theorem dL_law_1639 : decode cL_law 1639 = .ok (.iload 4, 2) := by decide +kernel
theorem dL_law_1641 : decode cL_law 1641 = .ok (.iconst 3, 1) := by decide +kernel
theorem dL_law_1642 : decode cL_law 1642 = .ok (.iadd, 1) := by decide +kernel
theorem dL_law_1643 : decode cL_law 1643 = .ok (.iaload, 1) := by decide +kernel
theorem dL_law_1644 : decode cL_law 1644 = .ok (.invokevirtual 200, 3) := by decide +kernel
theorem dL_law_1647 : decode cL_law 1647 = .ok (.aload_n 2, 1) := by decide +kernel
theorem dL_law_1648 : decode cL_law 1648 = .ok (.aload_n 0, 1) := by decide +kernel
theorem dL_law_1649 : decode cL_law 1649 = .ok (.iload 4, 2) := by decide +kernel
theorem dL_law_1651 : decode cL_law 1651 = .ok (.iconst 1, 1) := by decide +kernel
theorem dL_law_1652 : decode cL_law 1652 = .ok (.iadd, 1) := by decide +kernel
theorem dL_law_1653 : decode cL_law 1653 = .ok (.iaload, 1) := by decide +kernel
theorem dL_law_1654 : decode cL_law 1654 = .ok (.aload_n 0, 1) := by decide +kernel
theorem dL_law_1655 : decode cL_law 1655 = .ok (.iload 4, 2) := by decide +kernel
theorem dL_law_1657 : decode cL_law 1657 = .ok (.iconst 2, 1) := by decide +kernel
theorem dL_law_1658 : decode cL_law 1658 = .ok (.iadd, 1) := by decide +kernel
theorem dL_law_1659 : decode cL_law 1659 = .ok (.iaload, 1) := by decide +kernel
theorem dL_law_1660 : decode cL_law 1660 = .ok (.aload_n 0, 1) := by decide +kernel
theorem dL_law_1661 : decode cL_law 1661 = .ok (.iload 4, 2) := by decide +kernel
theorem dL_law_1663 : decode cL_law 1663 = .ok (.iconst 3, 1) := by decide +kernel
theorem dL_law_1664 : decode cL_law 1664 = .ok (.iadd, 1) := by decide +kernel
theorem dL_law_1665 : decode cL_law 1665 = .ok (.iaload, 1) := by decide +kernel
theorem dL_law_1666 : decode cL_law 1666 = .ok (.invokevirtual 203, 3) := by decide +kernel
theorem dL_law_1669 : decode cL_law 1669 = .ok (.if_icmp .eq 195, 3) := by decide +kernel
/-! the law's cases 27 .. 43 -/
section LAW
variable {p : Program} {e : Env} {s : State} {m : MethodId} {below : List Frame} {meth : Method} {c : Code} {l : Launch} {D : va_G} {ct : Nat → ClassId} {B b L : Nat} {xs : Nat → Int32} {adK adV sa : Nat → Nat} {S : St} {T : TT} {im : Option TT} {sh : Nat → Sh} {H : Heap} {locs : List Loc} {ls : Array Slot} {cells slots : Nat} {Q : State → Prop} {iv : Int32}
set_option maxRecDepth 100000 in
set_option maxHeartbeats 4000000 in
theorem L_27 (A : LH p s m meth c D ct B b L xs adK adV sa) (c0 : IC S (T, im, sh)) (g0 : IR S (T, im, sh)) (hP : MP D ct B s.heap S H) (hS : va_S (AB B) s.heap H locs) (hl : lv_has ls 8 (LV b B iv)) (hin : ∀ j : Nat, j < 6 → vp_in (iv + nI j) L) (hc : cells + 50 ≤ room_1.cells) (hs : slots + 100 ≤ room_1.slots) (fin : FIN p e s m below meth c l D ct B b cells slots Q iv) : W p l e room_1 s m #[Value.ref b] below meth c H locs cells slots Q (F0 m 1165 ls []) := by
  obtain ⟨hx, hb, hr, hml, hown, hts, hK, hlocks, hN⟩ := id A.1
  obtain ⟨r, S1, S2, M2, f1, f2, c2, g2⟩ := J_law c0 g0 (xs (iv + nI 1).toNatClampNeg)
  refine lv_aload_n hx hb dL_law_1165 rfl (lv_at hl 1 rfl) ?_
  refine ar A hS hl (v := nI 1) dL_law_1166 dL_law_1167 dL_law_1169 (by decide) dL_law_1170 dL_law_1171 (hin 1 (by decide)) ?_
  refine n_Iw (kV (As := [.int (xs (iv + nI 1).toNatClampNeg)]) A.1 (c_X11_law l (xs (iv + nI 1).toNatClampNeg) f1) ⟨wd_841, wd_838, wd_839, wd_840, wd_1⟩ kd_X11_law ⟨Nat.le_of_ble_eq_true rfl, Nat.le_of_ble_eq_true rfl⟩ hP (lay_X11 B ct S) rfl rfl hl.1 rfl (Nat.le_of_ble_eq_true rfl) dL_law_1172 ⟨by omega, by omega⟩) hS (fun H locs hP hS => ?_)
  refine lv_aload_n hx hb dL_law_1175 rfl (lv_at hl 2 rfl) ?_
  refine ar A hS hl (v := nI 1) dL_law_1176 dL_law_1177 dL_law_1179 (by decide) dL_law_1180 dL_law_1181 (hin 1 (by decide)) ?_
  refine n_Iw (kV (As := [.int (xs (iv + nI 1).toNatClampNeg)]) A.1 (c_X12_law l (xs (iv + nI 1).toNatClampNeg) f2) ⟨wd_1684, wd_1681, wd_1682, wd_1683, wd_6⟩ kd_X12_law ⟨Nat.le_of_ble_eq_true rfl, Nat.le_of_ble_eq_true rfl⟩ hP (lay_X12 B ct S1) rfl rfl hl.1 rfl (Nat.le_of_ble_eq_true rfl) dL_law_1182 ⟨by omega, by omega⟩) hS (fun H locs hP hS => ?_)
  refine lv_icmp_eq (tgt := 1864) hx hb dL_law_1185 (by decide) (fun _ => ?_) (fun q => absurd rfl q)
  exact W.widen (by omega) (by omega) (fin _ _ _ _ _ c2 g2 hP hS hl)
set_option maxRecDepth 100000 in
set_option maxHeartbeats 4000000 in
theorem L_28 (A : LH p s m meth c D ct B b L xs adK adV sa) (c0 : IC S (T, im, sh)) (g0 : IR S (T, im, sh)) (hP : MP D ct B s.heap S H) (hS : va_S (AB B) s.heap H locs) (hl : lv_has ls 8 (LV b B iv)) (hin : ∀ j : Nat, j < 6 → vp_in (iv + nI j) L) (hc : cells + 50 ≤ room_1.cells) (hs : slots + 100 ≤ room_1.slots) (fin : FIN p e s m below meth c l D ct B b cells slots Q iv) : W p l e room_1 s m #[Value.ref b] below meth c H locs cells slots Q (F0 m 1190 ls []) := by
  obtain ⟨hx, hb, hr, hml, hown, hts, hK, hlocks, hN⟩ := id A.1
  obtain ⟨r, S1, S2, M2, f1, f2, c2, g2⟩ := J_bestRate c0 g0 
  refine lv_aload_n hx hb dL_law_1190 rfl (lv_at hl 1 rfl) ?_
  refine n_Iw (kV (As := []) A.1 (c_X11_bestRate l f1) ⟨wd_845, wd_842, wd_843, wd_844, wd_1⟩ kd_X11_bestRate ⟨Nat.le_of_ble_eq_true rfl, Nat.le_of_ble_eq_true rfl⟩ hP (lay_X11 B ct S) rfl rfl hl.1 rfl (Nat.le_of_ble_eq_true rfl) dL_law_1191 ⟨by omega, by omega⟩) hS (fun H locs hP hS => ?_)
  refine lv_aload_n hx hb dL_law_1194 rfl (lv_at hl 2 rfl) ?_
  refine n_Iw (kV (As := []) A.1 (c_X12_bestRate l f2) ⟨wd_1688, wd_1685, wd_1686, wd_1687, wd_6⟩ kd_X12_bestRate ⟨Nat.le_of_ble_eq_true rfl, Nat.le_of_ble_eq_true rfl⟩ hP (lay_X12 B ct S1) rfl rfl hl.1 rfl (Nat.le_of_ble_eq_true rfl) dL_law_1195 ⟨by omega, by omega⟩) hS (fun H locs hP hS => ?_)
  refine lv_icmp_eq (tgt := 1864) hx hb dL_law_1198 (by decide) (fun _ => ?_) (fun q => absurd rfl q)
  exact W.widen (by omega) (by omega) (fin _ _ _ _ _ c2 g2 hP hS hl)
set_option maxRecDepth 100000 in
set_option maxHeartbeats 4000000 in
theorem L_29 (A : LH p s m meth c D ct B b L xs adK adV sa) (c0 : IC S (T, im, sh)) (g0 : IR S (T, im, sh)) (hP : MP D ct B s.heap S H) (hS : va_S (AB B) s.heap H locs) (hl : lv_has ls 8 (LV b B iv)) (hin : ∀ j : Nat, j < 6 → vp_in (iv + nI j) L) (hc : cells + 50 ≤ room_1.cells) (hs : slots + 100 ≤ room_1.slots) (fin : FIN p e s m below meth c l D ct B b cells slots Q iv) : W p l e room_1 s m #[Value.ref b] below meth c H locs cells slots Q (F0 m 1203 ls []) := by
  obtain ⟨hx, hb, hr, hml, hown, hts, hK, hlocks, hN⟩ := id A.1
  obtain ⟨r, S1, S2, M2, f1, f2, c2, g2⟩ := J_bestOpen c0 g0 
  refine lv_aload_n hx hb dL_law_1203 rfl (lv_at hl 1 rfl) ?_
  refine n_Iw (kV (As := []) A.1 (c_X11_bestOpen l f1) ⟨wd_850, wd_847, wd_848, wd_849, wd_1⟩ kd_X11_bestOpen ⟨Nat.le_of_ble_eq_true rfl, Nat.le_of_ble_eq_true rfl⟩ hP (lay_X11 B ct S) rfl rfl hl.1 rfl (Nat.le_of_ble_eq_true rfl) dL_law_1204 ⟨by omega, by omega⟩) hS (fun H locs hP hS => ?_)
  refine lv_aload_n hx hb dL_law_1207 rfl (lv_at hl 2 rfl) ?_
  refine n_Iw (kV (As := []) A.1 (c_X12_bestOpen l f2) ⟨wd_1692, wd_1689, wd_1690, wd_1691, wd_6⟩ kd_X12_bestOpen ⟨Nat.le_of_ble_eq_true rfl, Nat.le_of_ble_eq_true rfl⟩ hP (lay_X12 B ct S1) rfl rfl hl.1 rfl (Nat.le_of_ble_eq_true rfl) dL_law_1208 ⟨by omega, by omega⟩) hS (fun H locs hP hS => ?_)
  refine lv_icmp_eq (tgt := 1864) hx hb dL_law_1211 (by decide) (fun _ => ?_) (fun q => absurd rfl q)
  exact W.widen (by omega) (by omega) (fin _ _ _ _ _ c2 g2 hP hS hl)
set_option maxRecDepth 100000 in
set_option maxHeartbeats 4000000 in
theorem L_30 (A : LH p s m meth c D ct B b L xs adK adV sa) (c0 : IC S (T, im, sh)) (g0 : IR S (T, im, sh)) (hP : MP D ct B s.heap S H) (hS : va_S (AB B) s.heap H locs) (hl : lv_has ls 8 (LV b B iv)) (hin : ∀ j : Nat, j < 6 → vp_in (iv + nI j) L) (hc : cells + 50 ≤ room_1.cells) (hs : slots + 100 ≤ room_1.slots) (fin : FIN p e s m below meth c l D ct B b cells slots Q iv) : W p l e room_1 s m #[Value.ref b] below meth c H locs cells slots Q (F0 m 1216 ls []) := by
  obtain ⟨hx, hb, hr, hml, hown, hts, hK, hlocks, hN⟩ := id A.1
  obtain ⟨r, S1, S2, M2, f1, f2, c2, g2⟩ := J_purse c0 g0 (xs (iv + nI 1).toNatClampNeg)
  refine lv_aload_n hx hb dL_law_1216 rfl (lv_at hl 1 rfl) ?_
  refine ar A hS hl (v := nI 1) dL_law_1217 dL_law_1218 dL_law_1220 (by decide) dL_law_1221 dL_law_1222 (hin 1 (by decide)) ?_
  refine n_Iw (kV (As := [.int (xs (iv + nI 1).toNatClampNeg)]) A.1 (c_X11_purse l (xs (iv + nI 1).toNatClampNeg) f1) ⟨wd_855, wd_852, wd_853, wd_854, wd_1⟩ kd_X11_purse ⟨Nat.le_of_ble_eq_true rfl, Nat.le_of_ble_eq_true rfl⟩ hP (lay_X11 B ct S) rfl rfl hl.1 rfl (Nat.le_of_ble_eq_true rfl) dL_law_1223 ⟨by omega, by omega⟩) hS (fun H locs hP hS => ?_)
  refine lv_aload_n hx hb dL_law_1226 rfl (lv_at hl 2 rfl) ?_
  refine ar A hS hl (v := nI 1) dL_law_1227 dL_law_1228 dL_law_1230 (by decide) dL_law_1231 dL_law_1232 (hin 1 (by decide)) ?_
  refine n_Iw (kV (As := [.int (xs (iv + nI 1).toNatClampNeg)]) A.1 (c_X12_purse l (xs (iv + nI 1).toNatClampNeg) f2) ⟨wd_1696, wd_1693, wd_1694, wd_1695, wd_6⟩ kd_X12_purse ⟨Nat.le_of_ble_eq_true rfl, Nat.le_of_ble_eq_true rfl⟩ hP (lay_X12 B ct S1) rfl rfl hl.1 rfl (Nat.le_of_ble_eq_true rfl) dL_law_1233 ⟨by omega, by omega⟩) hS (fun H locs hP hS => ?_)
  refine lv_icmp_eq (tgt := 1864) hx hb dL_law_1236 (by decide) (fun _ => ?_) (fun q => absurd rfl q)
  exact W.widen (by omega) (by omega) (fin _ _ _ _ _ c2 g2 hP hS hl)
set_option maxRecDepth 100000 in
set_option maxHeartbeats 4000000 in
theorem L_31 (A : LH p s m meth c D ct B b L xs adK adV sa) (c0 : IC S (T, im, sh)) (g0 : IR S (T, im, sh)) (hP : MP D ct B s.heap S H) (hS : va_S (AB B) s.heap H locs) (hl : lv_has ls 8 (LV b B iv)) (hin : ∀ j : Nat, j < 6 → vp_in (iv + nI j) L) (hc : cells + 50 ≤ room_1.cells) (hs : slots + 100 ≤ room_1.slots) (fin : FIN p e s m below meth c l D ct B b cells slots Q iv) : W p l e room_1 s m #[Value.ref b] below meth c H locs cells slots Q (F0 m 1241 ls []) := by
  obtain ⟨hx, hb, hr, hml, hown, hts, hK, hlocks, hN⟩ := id A.1
  obtain ⟨r, S1, S2, M2, f1, f2, c2, g2⟩ := J_two c0 g0 (xs (iv + nI 1).toNatClampNeg) (xs (iv + nI 2).toNatClampNeg)
  refine lv_aload_n hx hb dL_law_1241 rfl (lv_at hl 1 rfl) ?_
  refine ar A hS hl (v := nI 1) dL_law_1242 dL_law_1243 dL_law_1245 (by decide) dL_law_1246 dL_law_1247 (hin 1 (by decide)) ?_
  refine ar A hS hl (v := nI 2) dL_law_1248 dL_law_1249 dL_law_1251 (by decide) dL_law_1252 dL_law_1253 (hin 2 (by decide)) ?_
  refine n_Iw (kV (As := [.int (xs (iv + nI 1).toNatClampNeg), .int (xs (iv + nI 2).toNatClampNeg)]) A.1 (c_X11_two l (xs (iv + nI 1).toNatClampNeg) (xs (iv + nI 2).toNatClampNeg) f1) ⟨wd_859, wd_856, wd_857, wd_858, wd_1⟩ kd_X11_two ⟨Nat.le_of_ble_eq_true rfl, Nat.le_of_ble_eq_true rfl⟩ hP (lay_X11 B ct S) rfl rfl hl.1 rfl (Nat.le_of_ble_eq_true rfl) dL_law_1254 ⟨by omega, by omega⟩) hS (fun H locs hP hS => ?_)
  refine lv_aload_n hx hb dL_law_1257 rfl (lv_at hl 2 rfl) ?_
  refine ar A hS hl (v := nI 1) dL_law_1258 dL_law_1259 dL_law_1261 (by decide) dL_law_1262 dL_law_1263 (hin 1 (by decide)) ?_
  refine ar A hS hl (v := nI 2) dL_law_1264 dL_law_1265 dL_law_1267 (by decide) dL_law_1268 dL_law_1269 (hin 2 (by decide)) ?_
  refine n_Iw (kV (As := [.int (xs (iv + nI 1).toNatClampNeg), .int (xs (iv + nI 2).toNatClampNeg)]) A.1 (c_X12_two l (xs (iv + nI 1).toNatClampNeg) (xs (iv + nI 2).toNatClampNeg) f2) ⟨wd_1700, wd_1697, wd_1698, wd_1699, wd_6⟩ kd_X12_two ⟨Nat.le_of_ble_eq_true rfl, Nat.le_of_ble_eq_true rfl⟩ hP (lay_X12 B ct S1) rfl rfl hl.1 rfl (Nat.le_of_ble_eq_true rfl) dL_law_1270 ⟨by omega, by omega⟩) hS (fun H locs hP hS => ?_)
  refine lv_icmp_eq (tgt := 1864) hx hb dL_law_1273 (by decide) (fun _ => ?_) (fun q => absurd rfl q)
  exact W.widen (by omega) (by omega) (fin _ _ _ _ _ c2 g2 hP hS hl)
set_option maxRecDepth 100000 in
set_option maxHeartbeats 4000000 in
theorem L_32 (A : LH p s m meth c D ct B b L xs adK adV sa) (c0 : IC S (T, im, sh)) (g0 : IR S (T, im, sh)) (hP : MP D ct B s.heap S H) (hS : va_S (AB B) s.heap H locs) (hl : lv_has ls 8 (LV b B iv)) (hin : ∀ j : Nat, j < 6 → vp_in (iv + nI j) L) (hc : cells + 50 ≤ room_1.cells) (hs : slots + 100 ≤ room_1.slots) (fin : FIN p e s m below meth c l D ct B b cells slots Q iv) : W p l e room_1 s m #[Value.ref b] below meth c H locs cells slots Q (F0 m 1278 ls []) := by
  obtain ⟨hx, hb, hr, hml, hown, hts, hK, hlocks, hN⟩ := id A.1
  obtain ⟨r, S1, S2, M2, f1, f2, c2, g2⟩ := J_without c0 g0 
  refine lv_aload_n hx hb dL_law_1278 rfl (lv_at hl 1 rfl) ?_
  refine n_Iw (kV (As := []) A.1 (c_X11_without l f1) ⟨wd_868, wd_865, wd_866, wd_867, wd_1⟩ kd_X11_without ⟨Nat.le_of_ble_eq_true rfl, Nat.le_of_ble_eq_true rfl⟩ hP (lay_X11 B ct S) rfl rfl hl.1 rfl (Nat.le_of_ble_eq_true rfl) dL_law_1279 ⟨by omega, by omega⟩) hS (fun H locs hP hS => ?_)
  refine lv_aload_n hx hb dL_law_1282 rfl (lv_at hl 2 rfl) ?_
  refine n_Iw (kV (As := []) A.1 (c_X12_without l f2) ⟨wd_1707, wd_1704, wd_1705, wd_1706, wd_6⟩ kd_X12_without ⟨Nat.le_of_ble_eq_true rfl, Nat.le_of_ble_eq_true rfl⟩ hP (lay_X12 B ct S1) rfl rfl hl.1 rfl (Nat.le_of_ble_eq_true rfl) dL_law_1283 ⟨by omega, by omega⟩) hS (fun H locs hP hS => ?_)
  refine lv_icmp_eq (tgt := 1864) hx hb dL_law_1286 (by decide) (fun _ => ?_) (fun q => absurd rfl q)
  exact W.widen (by omega) (by omega) (fin _ _ _ _ _ c2 g2 hP hS hl)
set_option maxRecDepth 100000 in
set_option maxHeartbeats 4000000 in
theorem L_33 (A : LH p s m meth c D ct B b L xs adK adV sa) (c0 : IC S (T, im, sh)) (g0 : IR S (T, im, sh)) (hP : MP D ct B s.heap S H) (hS : va_S (AB B) s.heap H locs) (hl : lv_has ls 8 (LV b B iv)) (hin : ∀ j : Nat, j < 6 → vp_in (iv + nI j) L) (hc : cells + 50 ≤ room_1.cells) (hs : slots + 100 ≤ room_1.slots) (fin : FIN p e s m below meth c l D ct B b cells slots Q iv) : W p l e room_1 s m #[Value.ref b] below meth c H locs cells slots Q (F0 m 1291 ls []) := by
  obtain ⟨hx, hb, hr, hml, hown, hts, hK, hlocks, hN⟩ := id A.1
  obtain ⟨r, S1, S2, M2, f1, f2, c2, g2⟩ := J_again c0 g0 (xs (iv + nI 1).toNatClampNeg)
  refine lv_aload_n hx hb dL_law_1291 rfl (lv_at hl 1 rfl) ?_
  refine ar A hS hl (v := nI 1) dL_law_1292 dL_law_1293 dL_law_1295 (by decide) dL_law_1296 dL_law_1297 (hin 1 (by decide)) ?_
  refine n_Iw (kV (As := [.int (xs (iv + nI 1).toNatClampNeg)]) A.1 (c_X11_again l (xs (iv + nI 1).toNatClampNeg) f1) ⟨wd_873, wd_870, wd_871, wd_872, wd_1⟩ kd_X11_again ⟨Nat.le_of_ble_eq_true rfl, Nat.le_of_ble_eq_true rfl⟩ hP (lay_X11 B ct S) rfl rfl hl.1 rfl (Nat.le_of_ble_eq_true rfl) dL_law_1298 ⟨by omega, by omega⟩) hS (fun H locs hP hS => ?_)
  refine lv_aload_n hx hb dL_law_1301 rfl (lv_at hl 2 rfl) ?_
  refine ar A hS hl (v := nI 1) dL_law_1302 dL_law_1303 dL_law_1305 (by decide) dL_law_1306 dL_law_1307 (hin 1 (by decide)) ?_
  refine n_Iw (kV (As := [.int (xs (iv + nI 1).toNatClampNeg)]) A.1 (c_X12_again l (xs (iv + nI 1).toNatClampNeg) f2) ⟨wd_1711, wd_1708, wd_1709, wd_1710, wd_6⟩ kd_X12_again ⟨Nat.le_of_ble_eq_true rfl, Nat.le_of_ble_eq_true rfl⟩ hP (lay_X12 B ct S1) rfl rfl hl.1 rfl (Nat.le_of_ble_eq_true rfl) dL_law_1308 ⟨by omega, by omega⟩) hS (fun H locs hP hS => ?_)
  refine lv_icmp_eq (tgt := 1864) hx hb dL_law_1311 (by decide) (fun _ => ?_) (fun q => absurd rfl q)
  exact W.widen (by omega) (by omega) (fin _ _ _ _ _ c2 g2 hP hS hl)
set_option maxRecDepth 100000 in
set_option maxHeartbeats 4000000 in
theorem L_34 (A : LH p s m meth c D ct B b L xs adK adV sa) (c0 : IC S (T, im, sh)) (g0 : IR S (T, im, sh)) (hP : MP D ct B s.heap S H) (hS : va_S (AB B) s.heap H locs) (hl : lv_has ls 8 (LV b B iv)) (hin : ∀ j : Nat, j < 6 → vp_in (iv + nI j) L) (hc : cells + 50 ≤ room_1.cells) (hs : slots + 100 ≤ room_1.slots) (fin : FIN p e s m below meth c l D ct B b cells slots Q iv) : W p l e room_1 s m #[Value.ref b] below meth c H locs cells slots Q (F0 m 1316 ls []) := by
  obtain ⟨hx, hb, hr, hml, hown, hts, hK, hlocks, hN⟩ := id A.1
  obtain ⟨r, S1, S2, M2, f1, f2, c2, g2⟩ := J_explained c0 g0 (xs (iv + nI 1).toNatClampNeg) (xs (iv + nI 2).toNatClampNeg)
  refine lv_aload_n hx hb dL_law_1316 rfl (lv_at hl 1 rfl) ?_
  refine ar A hS hl (v := nI 1) dL_law_1317 dL_law_1318 dL_law_1320 (by decide) dL_law_1321 dL_law_1322 (hin 1 (by decide)) ?_
  refine ar A hS hl (v := nI 2) dL_law_1323 dL_law_1324 dL_law_1326 (by decide) dL_law_1327 dL_law_1328 (hin 2 (by decide)) ?_
  refine n_Iw (kV (As := [.int (xs (iv + nI 1).toNatClampNeg), .int (xs (iv + nI 2).toNatClampNeg)]) A.1 (c_X11_explained l (xs (iv + nI 1).toNatClampNeg) (xs (iv + nI 2).toNatClampNeg) f1) ⟨wd_882, wd_879, wd_880, wd_881, wd_1⟩ kd_X11_explained ⟨Nat.le_of_ble_eq_true rfl, Nat.le_of_ble_eq_true rfl⟩ hP (lay_X11 B ct S) rfl rfl hl.1 rfl (Nat.le_of_ble_eq_true rfl) dL_law_1329 ⟨by omega, by omega⟩) hS (fun H locs hP hS => ?_)
  refine lv_aload_n hx hb dL_law_1332 rfl (lv_at hl 2 rfl) ?_
  refine ar A hS hl (v := nI 1) dL_law_1333 dL_law_1334 dL_law_1336 (by decide) dL_law_1337 dL_law_1338 (hin 1 (by decide)) ?_
  refine ar A hS hl (v := nI 2) dL_law_1339 dL_law_1340 dL_law_1342 (by decide) dL_law_1343 dL_law_1344 (hin 2 (by decide)) ?_
  refine n_Iw (kV (As := [.int (xs (iv + nI 1).toNatClampNeg), .int (xs (iv + nI 2).toNatClampNeg)]) A.1 (c_X12_explained l (xs (iv + nI 1).toNatClampNeg) (xs (iv + nI 2).toNatClampNeg) f2) ⟨wd_1723, wd_1720, wd_1721, wd_1722, wd_6⟩ kd_X12_explained ⟨Nat.le_of_ble_eq_true rfl, Nat.le_of_ble_eq_true rfl⟩ hP (lay_X12 B ct S1) rfl rfl hl.1 rfl (Nat.le_of_ble_eq_true rfl) dL_law_1345 ⟨by omega, by omega⟩) hS (fun H locs hP hS => ?_)
  refine lv_icmp_eq (tgt := 1864) hx hb dL_law_1348 (by decide) (fun _ => ?_) (fun q => absurd rfl q)
  exact W.widen (by omega) (by omega) (fin _ _ _ _ _ c2 g2 hP hS hl)
set_option maxRecDepth 100000 in
set_option maxHeartbeats 4000000 in
theorem L_35 (A : LH p s m meth c D ct B b L xs adK adV sa) (c0 : IC S (T, im, sh)) (g0 : IR S (T, im, sh)) (hP : MP D ct B s.heap S H) (hS : va_S (AB B) s.heap H locs) (hl : lv_has ls 8 (LV b B iv)) (hin : ∀ j : Nat, j < 6 → vp_in (iv + nI j) L) (hc : cells + 50 ≤ room_1.cells) (hs : slots + 100 ≤ room_1.slots) (fin : FIN p e s m below meth c l D ct B b cells slots Q iv) : W p l e room_1 s m #[Value.ref b] below meth c H locs cells slots Q (F0 m 1353 ls []) := by
  obtain ⟨hx, hb, hr, hml, hown, hts, hK, hlocks, hN⟩ := id A.1
  obtain ⟨r, S1, S2, M2, f1, f2, c2, g2⟩ := J_forged c0 g0 (xs (iv + nI 1).toNatClampNeg)
  refine lv_aload_n hx hb dL_law_1353 rfl (lv_at hl 1 rfl) ?_
  refine ar A hS hl (v := nI 1) dL_law_1354 dL_law_1355 dL_law_1357 (by decide) dL_law_1358 dL_law_1359 (hin 1 (by decide)) ?_
  refine n_Iw (kV (As := [.int (xs (iv + nI 1).toNatClampNeg)]) A.1 (c_X11_forged l (xs (iv + nI 1).toNatClampNeg) f1) ⟨wd_901, wd_898, wd_899, wd_900, wd_1⟩ kd_X11_forged ⟨Nat.le_of_ble_eq_true rfl, Nat.le_of_ble_eq_true rfl⟩ hP (lay_X11 B ct S) rfl rfl hl.1 rfl (Nat.le_of_ble_eq_true rfl) dL_law_1360 ⟨by omega, by omega⟩) hS (fun H locs hP hS => ?_)
  refine lv_aload_n hx hb dL_law_1363 rfl (lv_at hl 2 rfl) ?_
  refine ar A hS hl (v := nI 1) dL_law_1364 dL_law_1365 dL_law_1367 (by decide) dL_law_1368 dL_law_1369 (hin 1 (by decide)) ?_
  refine n_Iw (kV (As := [.int (xs (iv + nI 1).toNatClampNeg)]) A.1 (c_X12_forged l (xs (iv + nI 1).toNatClampNeg) f2) ⟨wd_1746, wd_1743, wd_1744, wd_1745, wd_6⟩ kd_X12_forged ⟨Nat.le_of_ble_eq_true rfl, Nat.le_of_ble_eq_true rfl⟩ hP (lay_X12 B ct S1) rfl rfl hl.1 rfl (Nat.le_of_ble_eq_true rfl) dL_law_1370 ⟨by omega, by omega⟩) hS (fun H locs hP hS => ?_)
  refine lv_icmp_eq (tgt := 1864) hx hb dL_law_1373 (by decide) (fun _ => ?_) (fun q => absurd rfl q)
  exact W.widen (by omega) (by omega) (fin _ _ _ _ _ c2 g2 hP hS hl)
set_option maxRecDepth 100000 in
set_option maxHeartbeats 4000000 in
theorem L_36 (A : LH p s m meth c D ct B b L xs adK adV sa) (c0 : IC S (T, im, sh)) (g0 : IR S (T, im, sh)) (hP : MP D ct B s.heap S H) (hS : va_S (AB B) s.heap H locs) (hl : lv_has ls 8 (LV b B iv)) (hin : ∀ j : Nat, j < 6 → vp_in (iv + nI j) L) (hc : cells + 50 ≤ room_1.cells) (hs : slots + 100 ≤ room_1.slots) (fin : FIN p e s m below meth c l D ct B b cells slots Q iv) : W p l e room_1 s m #[Value.ref b] below meth c H locs cells slots Q (F0 m 1378 ls []) := by
  obtain ⟨hx, hb, hr, hml, hown, hts, hK, hlocks, hN⟩ := id A.1
  obtain ⟨r, S1, S2, M2, f1, f2, c2, g2⟩ := J_judge c0 g0 (xs (iv + nI 1).toNatClampNeg) (xs (iv + nI 2).toNatClampNeg)
  refine lv_aload_n hx hb dL_law_1378 rfl (lv_at hl 1 rfl) ?_
  refine ar A hS hl (v := nI 1) dL_law_1379 dL_law_1380 dL_law_1382 (by decide) dL_law_1383 dL_law_1384 (hin 1 (by decide)) ?_
  refine ar A hS hl (v := nI 2) dL_law_1385 dL_law_1386 dL_law_1388 (by decide) dL_law_1389 dL_law_1390 (hin 2 (by decide)) ?_
  refine n_Iw (kV (As := [.int (xs (iv + nI 1).toNatClampNeg), .int (xs (iv + nI 2).toNatClampNeg)]) A.1 (c_X11_judge l (xs (iv + nI 1).toNatClampNeg) (xs (iv + nI 2).toNatClampNeg) f1) ⟨wd_905, wd_902, wd_903, wd_904, wd_1⟩ kd_X11_judge ⟨Nat.le_of_ble_eq_true rfl, Nat.le_of_ble_eq_true rfl⟩ hP (lay_X11 B ct S) rfl rfl hl.1 rfl (Nat.le_of_ble_eq_true rfl) dL_law_1391 ⟨by omega, by omega⟩) hS (fun H locs hP hS => ?_)
  refine lv_aload_n hx hb dL_law_1394 rfl (lv_at hl 2 rfl) ?_
  refine ar A hS hl (v := nI 1) dL_law_1395 dL_law_1396 dL_law_1398 (by decide) dL_law_1399 dL_law_1400 (hin 1 (by decide)) ?_
  refine ar A hS hl (v := nI 2) dL_law_1401 dL_law_1402 dL_law_1404 (by decide) dL_law_1405 dL_law_1406 (hin 2 (by decide)) ?_
  refine n_Iw (kV (As := [.int (xs (iv + nI 1).toNatClampNeg), .int (xs (iv + nI 2).toNatClampNeg)]) A.1 (c_X12_judge l (xs (iv + nI 1).toNatClampNeg) (xs (iv + nI 2).toNatClampNeg) f2) ⟨wd_1750, wd_1747, wd_1748, wd_1749, wd_6⟩ kd_X12_judge ⟨Nat.le_of_ble_eq_true rfl, Nat.le_of_ble_eq_true rfl⟩ hP (lay_X12 B ct S1) rfl rfl hl.1 rfl (Nat.le_of_ble_eq_true rfl) dL_law_1407 ⟨by omega, by omega⟩) hS (fun H locs hP hS => ?_)
  refine lv_icmp_eq (tgt := 1864) hx hb dL_law_1410 (by decide) (fun _ => ?_) (fun q => absurd rfl q)
  exact W.widen (by omega) (by omega) (fin _ _ _ _ _ c2 g2 hP hS hl)
set_option maxRecDepth 100000 in
set_option maxHeartbeats 4000000 in
theorem L_37 (A : LH p s m meth c D ct B b L xs adK adV sa) (c0 : IC S (T, im, sh)) (g0 : IR S (T, im, sh)) (hP : MP D ct B s.heap S H) (hS : va_S (AB B) s.heap H locs) (hl : lv_has ls 8 (LV b B iv)) (hin : ∀ j : Nat, j < 6 → vp_in (iv + nI j) L) (hc : cells + 50 ≤ room_1.cells) (hs : slots + 100 ≤ room_1.slots) (fin : FIN p e s m below meth c l D ct B b cells slots Q iv) : W p l e room_1 s m #[Value.ref b] below meth c H locs cells slots Q (F0 m 1415 ls []) := by
  obtain ⟨hx, hb, hr, hml, hown, hts, hK, hlocks, hN⟩ := id A.1
  obtain ⟨r, S1, S2, M2, f1, f2, c2, g2⟩ := J_seeds c0 g0 (xs (iv + nI 1).toNatClampNeg) (xs (iv + nI 2).toNatClampNeg) (xs (iv + nI 3).toNatClampNeg)
  refine lv_aload_n hx hb dL_law_1415 rfl (lv_at hl 1 rfl) ?_
  refine ar A hS hl (v := nI 1) dL_law_1416 dL_law_1417 dL_law_1419 (by decide) dL_law_1420 dL_law_1421 (hin 1 (by decide)) ?_
  refine ar A hS hl (v := nI 2) dL_law_1422 dL_law_1423 dL_law_1425 (by decide) dL_law_1426 dL_law_1427 (hin 2 (by decide)) ?_
  refine ar A hS hl (v := nI 3) dL_law_1428 dL_law_1429 dL_law_1431 (by decide) dL_law_1432 dL_law_1433 (hin 3 (by decide)) ?_
  refine n_Iw (kV (As := [.int (xs (iv + nI 1).toNatClampNeg), .int (xs (iv + nI 2).toNatClampNeg), .int (xs (iv + nI 3).toNatClampNeg)]) A.1 (c_X11_seeds l (xs (iv + nI 1).toNatClampNeg) (xs (iv + nI 2).toNatClampNeg) (xs (iv + nI 3).toNatClampNeg) f1) ⟨wd_909, wd_906, wd_907, wd_908, wd_1⟩ kd_X11_seeds ⟨Nat.le_of_ble_eq_true rfl, Nat.le_of_ble_eq_true rfl⟩ hP (lay_X11 B ct S) rfl rfl hl.1 rfl (Nat.le_of_ble_eq_true rfl) dL_law_1434 ⟨by omega, by omega⟩) hS (fun H locs hP hS => ?_)
  refine lv_aload_n hx hb dL_law_1437 rfl (lv_at hl 2 rfl) ?_
  refine ar A hS hl (v := nI 1) dL_law_1438 dL_law_1439 dL_law_1441 (by decide) dL_law_1442 dL_law_1443 (hin 1 (by decide)) ?_
  refine ar A hS hl (v := nI 2) dL_law_1444 dL_law_1445 dL_law_1447 (by decide) dL_law_1448 dL_law_1449 (hin 2 (by decide)) ?_
  refine ar A hS hl (v := nI 3) dL_law_1450 dL_law_1451 dL_law_1453 (by decide) dL_law_1454 dL_law_1455 (hin 3 (by decide)) ?_
  refine n_Iw (kV (As := [.int (xs (iv + nI 1).toNatClampNeg), .int (xs (iv + nI 2).toNatClampNeg), .int (xs (iv + nI 3).toNatClampNeg)]) A.1 (c_X12_seeds l (xs (iv + nI 1).toNatClampNeg) (xs (iv + nI 2).toNatClampNeg) (xs (iv + nI 3).toNatClampNeg) f2) ⟨wd_1754, wd_1751, wd_1752, wd_1753, wd_6⟩ kd_X12_seeds ⟨Nat.le_of_ble_eq_true rfl, Nat.le_of_ble_eq_true rfl⟩ hP (lay_X12 B ct S1) rfl rfl hl.1 rfl (Nat.le_of_ble_eq_true rfl) dL_law_1456 ⟨by omega, by omega⟩) hS (fun H locs hP hS => ?_)
  refine lv_icmp_eq (tgt := 1864) hx hb dL_law_1459 (by decide) (fun _ => ?_) (fun q => absurd rfl q)
  exact W.widen (by omega) (by omega) (fin _ _ _ _ _ c2 g2 hP hS hl)
set_option maxRecDepth 100000 in
set_option maxHeartbeats 4000000 in
theorem L_38 (A : LH p s m meth c D ct B b L xs adK adV sa) (c0 : IC S (T, im, sh)) (g0 : IR S (T, im, sh)) (hP : MP D ct B s.heap S H) (hS : va_S (AB B) s.heap H locs) (hl : lv_has ls 8 (LV b B iv)) (hin : ∀ j : Nat, j < 6 → vp_in (iv + nI j) L) (hc : cells + 50 ≤ room_1.cells) (hs : slots + 100 ≤ room_1.slots) (fin : FIN p e s m below meth c l D ct B b cells slots Q iv) : W p l e room_1 s m #[Value.ref b] below meth c H locs cells slots Q (F0 m 1464 ls []) := by
  obtain ⟨hx, hb, hr, hml, hown, hts, hK, hlocks, hN⟩ := id A.1
  obtain ⟨r, S1, S2, M2, f1, f2, c2, g2⟩ := J_image c0 g0 
  refine lv_aload_n hx hb dL_law_1464 rfl (lv_at hl 1 rfl) ?_
  refine n_Iw (kV (As := []) A.1 (c_X11_image l f1) ⟨wd_917, wd_914, wd_915, wd_916, wd_1⟩ kd_X11_image ⟨Nat.le_of_ble_eq_true rfl, Nat.le_of_ble_eq_true rfl⟩ hP (lay_X11 B ct S) rfl rfl hl.1 rfl (Nat.le_of_ble_eq_true rfl) dL_law_1465 ⟨by omega, by omega⟩) hS (fun H locs hP hS => ?_)
  refine lv_aload_n hx hb dL_law_1468 rfl (lv_at hl 2 rfl) ?_
  refine n_Iw (kV (As := []) A.1 (c_X12_image l f2) ⟨wd_1346, wd_1343, wd_1344, wd_1345, wd_6⟩ kd_X12_image ⟨Nat.le_of_ble_eq_true rfl, Nat.le_of_ble_eq_true rfl⟩ hP (lay_X12 B ct S1) rfl rfl hl.1 rfl (Nat.le_of_ble_eq_true rfl) dL_law_1469 ⟨by omega, by omega⟩) hS (fun H locs hP hS => ?_)
  refine lv_icmp_eq (tgt := 1864) hx hb dL_law_1472 (by decide) (fun _ => ?_) (fun q => absurd rfl q)
  exact W.widen (by omega) (by omega) (fin _ _ _ _ _ c2 g2 hP hS hl)
set_option maxRecDepth 100000 in
set_option maxHeartbeats 4000000 in
theorem L_39 (A : LH p s m meth c D ct B b L xs adK adV sa) (c0 : IC S (T, im, sh)) (g0 : IR S (T, im, sh)) (hP : MP D ct B s.heap S H) (hS : va_S (AB B) s.heap H locs) (hl : lv_has ls 8 (LV b B iv)) (hin : ∀ j : Nat, j < 6 → vp_in (iv + nI j) L) (hc : cells + 50 ≤ room_1.cells) (hs : slots + 100 ≤ room_1.slots) (fin : FIN p e s m below meth c l D ct B b cells slots Q iv) : W p l e room_1 s m #[Value.ref b] below meth c H locs cells slots Q (F0 m 1477 ls []) := by
  obtain ⟨hx, hb, hr, hml, hown, hts, hK, hlocks, hN⟩ := id A.1
  obtain ⟨r, S1, S2, M2, f1, f2, c2, g2⟩ := J_restore c0 g0 
  refine lv_aload_n hx hb dL_law_1477 rfl (lv_at hl 1 rfl) ?_
  refine n_Iw (kV (As := []) A.1 (c_X11_restore l f1) ⟨wd_921, wd_918, wd_919, wd_920, wd_1⟩ kd_X11_restore ⟨Nat.le_of_ble_eq_true rfl, Nat.le_of_ble_eq_true rfl⟩ hP (lay_X11 B ct S) rfl rfl hl.1 rfl (Nat.le_of_ble_eq_true rfl) dL_law_1478 ⟨by omega, by omega⟩) hS (fun H locs hP hS => ?_)
  refine lv_aload_n hx hb dL_law_1481 rfl (lv_at hl 2 rfl) ?_
  refine n_Iw (kV (As := []) A.1 (c_X12_restore l f2) ⟨wd_1358, wd_1355, wd_1356, wd_1357, wd_6⟩ kd_X12_restore ⟨Nat.le_of_ble_eq_true rfl, Nat.le_of_ble_eq_true rfl⟩ hP (lay_X12 B ct S1) rfl rfl hl.1 rfl (Nat.le_of_ble_eq_true rfl) dL_law_1482 ⟨by omega, by omega⟩) hS (fun H locs hP hS => ?_)
  refine lv_icmp_eq (tgt := 1864) hx hb dL_law_1485 (by decide) (fun _ => ?_) (fun q => absurd rfl q)
  exact W.widen (by omega) (by omega) (fin _ _ _ _ _ c2 g2 hP hS hl)
set_option maxRecDepth 100000 in
set_option maxHeartbeats 4000000 in
theorem L_40 (A : LH p s m meth c D ct B b L xs adK adV sa) (c0 : IC S (T, im, sh)) (g0 : IR S (T, im, sh)) (hP : MP D ct B s.heap S H) (hS : va_S (AB B) s.heap H locs) (hl : lv_has ls 8 (LV b B iv)) (hin : ∀ j : Nat, j < 6 → vp_in (iv + nI j) L) (hc : cells + 50 ≤ room_1.cells) (hs : slots + 100 ≤ room_1.slots) (fin : FIN p e s m below meth c l D ct B b cells slots Q iv) : W p l e room_1 s m #[Value.ref b] below meth c H locs cells slots Q (F0 m 1490 ls []) := by
  obtain ⟨hx, hb, hr, hml, hown, hts, hK, hlocks, hN⟩ := id A.1
  obtain ⟨r, S2, f1, f2, c2, g2⟩ := J_count c0 g0 (xs (iv + nI 1).toNatClampNeg)
  refine lv_aload_n hx hb dL_law_1490 rfl (lv_at hl 1 rfl) ?_
  refine ar A hS hl (v := nI 1) dL_law_1491 dL_law_1492 dL_law_1494 (by decide) dL_law_1495 dL_law_1496 (hin 1 (by decide)) ?_
  refine n_I (kV (As := [.int (xs (iv + nI 1).toNatClampNeg)]) A.1 (c_X11_count l (xs (iv + nI 1).toNatClampNeg) f1) ⟨wd_925, wd_922, wd_923, wd_924, wd_1⟩ kd_X11_count ⟨Nat.le_of_ble_eq_true rfl, Nat.le_of_ble_eq_true rfl⟩ hP (lay_X11 B ct S) rfl rfl hl.1 rfl (Nat.le_of_ble_eq_true rfl) dL_law_1497 ⟨by omega, by omega⟩) hS (fun H locs hP hS => ?_)
  refine lv_aload_n hx hb dL_law_1500 rfl (lv_at hl 2 rfl) ?_
  refine ar A hS hl (v := nI 1) dL_law_1501 dL_law_1502 dL_law_1504 (by decide) dL_law_1505 dL_law_1506 (hin 1 (by decide)) ?_
  refine n_Iw (kV (As := [.int (xs (iv + nI 1).toNatClampNeg)]) A.1 (c_X12_count l (xs (iv + nI 1).toNatClampNeg) f2) ⟨wd_1762, wd_1759, wd_1760, wd_1761, wd_6⟩ kd_X12_count ⟨Nat.le_of_ble_eq_true rfl, Nat.le_of_ble_eq_true rfl⟩ hP (lay_X12 B ct S) rfl rfl hl.1 rfl (Nat.le_of_ble_eq_true rfl) dL_law_1507 ⟨by omega, by omega⟩) hS (fun H locs hP hS => ?_)
  refine lv_icmp_eq (tgt := 1864) hx hb dL_law_1510 (by decide) (fun _ => ?_) (fun q => absurd rfl q)
  exact W.widen (by omega) (by omega) (fin _ _ _ _ _ c2 g2 hP hS hl)
set_option maxRecDepth 100000 in
set_option maxHeartbeats 4000000 in
theorem L_41 (A : LH p s m meth c D ct B b L xs adK adV sa) (c0 : IC S (T, im, sh)) (g0 : IR S (T, im, sh)) (hP : MP D ct B s.heap S H) (hS : va_S (AB B) s.heap H locs) (hl : lv_has ls 8 (LV b B iv)) (hin : ∀ j : Nat, j < 6 → vp_in (iv + nI j) L) (hc : cells + 50 ≤ room_1.cells) (hs : slots + 100 ≤ room_1.slots) (fin : FIN p e s m below meth c l D ct B b cells slots Q iv) : W p l e room_1 s m #[Value.ref b] below meth c H locs cells slots Q (F0 m 1515 ls []) := by
  obtain ⟨hx, hb, hr, hml, hown, hts, hK, hlocks, hN⟩ := id A.1
  obtain ⟨r, S1, S2, M2, f1, f2, c2, g2⟩ := J_keep c0 g0 (xs (iv + nI 1).toNatClampNeg) (xs (iv + nI 2).toNatClampNeg) (xs (iv + nI 3).toNatClampNeg) (xs (iv + nI 4).toNatClampNeg)
  refine lv_aload_n hx hb dL_law_1515 rfl (lv_at hl 1 rfl) ?_
  refine ar A hS hl (v := nI 1) dL_law_1516 dL_law_1517 dL_law_1519 (by decide) dL_law_1520 dL_law_1521 (hin 1 (by decide)) ?_
  refine ar A hS hl (v := nI 2) dL_law_1522 dL_law_1523 dL_law_1525 (by decide) dL_law_1526 dL_law_1527 (hin 2 (by decide)) ?_
  refine ar A hS hl (v := nI 3) dL_law_1528 dL_law_1529 dL_law_1531 (by decide) dL_law_1532 dL_law_1533 (hin 3 (by decide)) ?_
  refine ar A hS hl (v := nI 4) dL_law_1534 dL_law_1535 dL_law_1537 (by decide) dL_law_1538 dL_law_1539 (hin 4 (by decide)) ?_
  refine n_Iw (kV (As := [.int (xs (iv + nI 1).toNatClampNeg), .int (xs (iv + nI 2).toNatClampNeg), .int (xs (iv + nI 3).toNatClampNeg), .int (xs (iv + nI 4).toNatClampNeg)]) A.1 (c_X11_keep l (xs (iv + nI 1).toNatClampNeg) (xs (iv + nI 2).toNatClampNeg) (xs (iv + nI 3).toNatClampNeg) (xs (iv + nI 4).toNatClampNeg) f1) ⟨wd_937, wd_934, wd_935, wd_936, wd_1⟩ kd_X11_keep ⟨Nat.le_of_ble_eq_true rfl, Nat.le_of_ble_eq_true rfl⟩ hP (lay_X11 B ct S) rfl rfl hl.1 rfl (Nat.le_of_ble_eq_true rfl) dL_law_1540 ⟨by omega, by omega⟩) hS (fun H locs hP hS => ?_)
  refine lv_aload_n hx hb dL_law_1543 rfl (lv_at hl 2 rfl) ?_
  refine ar A hS hl (v := nI 1) dL_law_1544 dL_law_1545 dL_law_1547 (by decide) dL_law_1548 dL_law_1549 (hin 1 (by decide)) ?_
  refine ar A hS hl (v := nI 2) dL_law_1550 dL_law_1551 dL_law_1553 (by decide) dL_law_1554 dL_law_1555 (hin 2 (by decide)) ?_
  refine ar A hS hl (v := nI 3) dL_law_1556 dL_law_1557 dL_law_1559 (by decide) dL_law_1560 dL_law_1561 (hin 3 (by decide)) ?_
  refine ar A hS hl (v := nI 4) dL_law_1562 dL_law_1563 dL_law_1565 (by decide) dL_law_1566 dL_law_1567 (hin 4 (by decide)) ?_
  refine n_Iw (kV (As := [.int (xs (iv + nI 1).toNatClampNeg), .int (xs (iv + nI 2).toNatClampNeg), .int (xs (iv + nI 3).toNatClampNeg), .int (xs (iv + nI 4).toNatClampNeg)]) A.1 (c_X12_keep l (xs (iv + nI 1).toNatClampNeg) (xs (iv + nI 2).toNatClampNeg) (xs (iv + nI 3).toNatClampNeg) (xs (iv + nI 4).toNatClampNeg) f2) ⟨wd_1766, wd_1763, wd_1764, wd_1765, wd_6⟩ kd_X12_keep ⟨Nat.le_of_ble_eq_true rfl, Nat.le_of_ble_eq_true rfl⟩ hP (lay_X12 B ct S1) rfl rfl hl.1 rfl (Nat.le_of_ble_eq_true rfl) dL_law_1568 ⟨by omega, by omega⟩) hS (fun H locs hP hS => ?_)
  refine lv_icmp_eq (tgt := 1864) hx hb dL_law_1571 (by decide) (fun _ => ?_) (fun q => absurd rfl q)
  exact W.widen (by omega) (by omega) (fin _ _ _ _ _ c2 g2 hP hS hl)
set_option maxRecDepth 100000 in
set_option maxHeartbeats 4000000 in
theorem L_42 (A : LH p s m meth c D ct B b L xs adK adV sa) (c0 : IC S (T, im, sh)) (g0 : IR S (T, im, sh)) (hP : MP D ct B s.heap S H) (hS : va_S (AB B) s.heap H locs) (hl : lv_has ls 8 (LV b B iv)) (hin : ∀ j : Nat, j < 6 → vp_in (iv + nI j) L) (hc : cells + 50 ≤ room_1.cells) (hs : slots + 100 ≤ room_1.slots) (fin : FIN p e s m below meth c l D ct B b cells slots Q iv) : W p l e room_1 s m #[Value.ref b] below meth c H locs cells slots Q (F0 m 1576 ls []) := by
  obtain ⟨hx, hb, hr, hml, hown, hts, hK, hlocks, hN⟩ := id A.1
  obtain ⟨r, S1, S2, M2, f1, f2, c2, g2⟩ := J_row c0 g0 (xs (iv + nI 1).toNatClampNeg) (xs (iv + nI 2).toNatClampNeg) (xs (iv + nI 3).toNatClampNeg)
  refine lv_aload_n hx hb dL_law_1576 rfl (lv_at hl 1 rfl) ?_
  refine ar A hS hl (v := nI 1) dL_law_1577 dL_law_1578 dL_law_1580 (by decide) dL_law_1581 dL_law_1582 (hin 1 (by decide)) ?_
  refine ar A hS hl (v := nI 2) dL_law_1583 dL_law_1584 dL_law_1586 (by decide) dL_law_1587 dL_law_1588 (hin 2 (by decide)) ?_
  refine ar A hS hl (v := nI 3) dL_law_1589 dL_law_1590 dL_law_1592 (by decide) dL_law_1593 dL_law_1594 (hin 3 (by decide)) ?_
  refine n_Iw (kV (As := [.int (xs (iv + nI 1).toNatClampNeg), .int (xs (iv + nI 2).toNatClampNeg), .int (xs (iv + nI 3).toNatClampNeg)]) A.1 (c_X11_row l (xs (iv + nI 1).toNatClampNeg) (xs (iv + nI 2).toNatClampNeg) (xs (iv + nI 3).toNatClampNeg) f1) ⟨wd_942, wd_939, wd_940, wd_941, wd_1⟩ kd_X11_row ⟨Nat.le_of_ble_eq_true rfl, Nat.le_of_ble_eq_true rfl⟩ hP (lay_X11 B ct S) rfl rfl hl.1 rfl (Nat.le_of_ble_eq_true rfl) dL_law_1595 ⟨by omega, by omega⟩) hS (fun H locs hP hS => ?_)
  refine lv_aload_n hx hb dL_law_1598 rfl (lv_at hl 2 rfl) ?_
  refine ar A hS hl (v := nI 1) dL_law_1599 dL_law_1600 dL_law_1602 (by decide) dL_law_1603 dL_law_1604 (hin 1 (by decide)) ?_
  refine ar A hS hl (v := nI 2) dL_law_1605 dL_law_1606 dL_law_1608 (by decide) dL_law_1609 dL_law_1610 (hin 2 (by decide)) ?_
  refine ar A hS hl (v := nI 3) dL_law_1611 dL_law_1612 dL_law_1614 (by decide) dL_law_1615 dL_law_1616 (hin 3 (by decide)) ?_
  refine n_Iw (kV (As := [.int (xs (iv + nI 1).toNatClampNeg), .int (xs (iv + nI 2).toNatClampNeg), .int (xs (iv + nI 3).toNatClampNeg)]) A.1 (c_X12_row l (xs (iv + nI 1).toNatClampNeg) (xs (iv + nI 2).toNatClampNeg) (xs (iv + nI 3).toNatClampNeg) f2) ⟨wd_1770, wd_1767, wd_1768, wd_1769, wd_6⟩ kd_X12_row ⟨Nat.le_of_ble_eq_true rfl, Nat.le_of_ble_eq_true rfl⟩ hP (lay_X12 B ct S1) rfl rfl hl.1 rfl (Nat.le_of_ble_eq_true rfl) dL_law_1617 ⟨by omega, by omega⟩) hS (fun H locs hP hS => ?_)
  refine lv_icmp_eq (tgt := 1864) hx hb dL_law_1620 (by decide) (fun _ => ?_) (fun q => absurd rfl q)
  exact W.widen (by omega) (by omega) (fin _ _ _ _ _ c2 g2 hP hS hl)
set_option maxRecDepth 100000 in
set_option maxHeartbeats 4000000 in
theorem L_43 (A : LH p s m meth c D ct B b L xs adK adV sa) (c0 : IC S (T, im, sh)) (g0 : IR S (T, im, sh)) (hP : MP D ct B s.heap S H) (hS : va_S (AB B) s.heap H locs) (hl : lv_has ls 8 (LV b B iv)) (hin : ∀ j : Nat, j < 6 → vp_in (iv + nI j) L) (hc : cells + 50 ≤ room_1.cells) (hs : slots + 100 ≤ room_1.slots) (fin : FIN p e s m below meth c l D ct B b cells slots Q iv) : W p l e room_1 s m #[Value.ref b] below meth c H locs cells slots Q (F0 m 1625 ls []) := by
  obtain ⟨hx, hb, hr, hml, hown, hts, hK, hlocks, hN⟩ := id A.1
  obtain ⟨r, S1, S2, M2, f1, f2, c2, g2⟩ := J_put c0 g0 (xs (iv + nI 1).toNatClampNeg) (xs (iv + nI 2).toNatClampNeg) (xs (iv + nI 3).toNatClampNeg)
  refine lv_aload_n hx hb dL_law_1625 rfl (lv_at hl 1 rfl) ?_
  refine ar A hS hl (v := nI 1) dL_law_1626 dL_law_1627 dL_law_1629 (by decide) dL_law_1630 dL_law_1631 (hin 1 (by decide)) ?_
  refine ar A hS hl (v := nI 2) dL_law_1632 dL_law_1633 dL_law_1635 (by decide) dL_law_1636 dL_law_1637 (hin 2 (by decide)) ?_
  refine ar A hS hl (v := nI 3) dL_law_1638 dL_law_1639 dL_law_1641 (by decide) dL_law_1642 dL_law_1643 (hin 3 (by decide)) ?_
  refine n_Iw (kV (As := [.int (xs (iv + nI 1).toNatClampNeg), .int (xs (iv + nI 2).toNatClampNeg), .int (xs (iv + nI 3).toNatClampNeg)]) A.1 (c_X11_put l (xs (iv + nI 1).toNatClampNeg) (xs (iv + nI 2).toNatClampNeg) (xs (iv + nI 3).toNatClampNeg) f1) ⟨wd_950, wd_947, wd_948, wd_949, wd_1⟩ kd_X11_put ⟨Nat.le_of_ble_eq_true rfl, Nat.le_of_ble_eq_true rfl⟩ hP (lay_X11 B ct S) rfl rfl hl.1 rfl (Nat.le_of_ble_eq_true rfl) dL_law_1644 ⟨by omega, by omega⟩) hS (fun H locs hP hS => ?_)
  refine lv_aload_n hx hb dL_law_1647 rfl (lv_at hl 2 rfl) ?_
  refine ar A hS hl (v := nI 1) dL_law_1648 dL_law_1649 dL_law_1651 (by decide) dL_law_1652 dL_law_1653 (hin 1 (by decide)) ?_
  refine ar A hS hl (v := nI 2) dL_law_1654 dL_law_1655 dL_law_1657 (by decide) dL_law_1658 dL_law_1659 (hin 2 (by decide)) ?_
  refine ar A hS hl (v := nI 3) dL_law_1660 dL_law_1661 dL_law_1663 (by decide) dL_law_1664 dL_law_1665 (hin 3 (by decide)) ?_
  refine n_Iw (kV (As := [.int (xs (iv + nI 1).toNatClampNeg), .int (xs (iv + nI 2).toNatClampNeg), .int (xs (iv + nI 3).toNatClampNeg)]) A.1 (c_X12_put l (xs (iv + nI 1).toNatClampNeg) (xs (iv + nI 2).toNatClampNeg) (xs (iv + nI 3).toNatClampNeg) f2) ⟨wd_1775, wd_1772, wd_1773, wd_1774, wd_6⟩ kd_X12_put ⟨Nat.le_of_ble_eq_true rfl, Nat.le_of_ble_eq_true rfl⟩ hP (lay_X12 B ct S1) rfl rfl hl.1 rfl (Nat.le_of_ble_eq_true rfl) dL_law_1666 ⟨by omega, by omega⟩) hS (fun H locs hP hS => ?_)
  refine lv_icmp_eq (tgt := 1864) hx hb dL_law_1669 (by decide) (fun _ => ?_) (fun q => absurd rfl q)
  exact W.widen (by omega) (by omega) (fin _ _ _ _ _ c2 g2 hP hS hl)
end LAW
