set_option maxRecDepth 100000 in
theorem zk_767L : zck 1266 (cL_law.data.toList.drop 1266) [(1266, .iadd, 1), (1267, .iaload, 1), (1268, .aload_n 0, 1), (1269, .iload 4, 2), (1271, .iconst 3, 1), (1272, .iadd, 1), (1273, .iaload, 1), (1274, .invokevirtual 140, 3), (1277, .pop, 1), (1278, .goto 558, 3), (1281, .aload_n 1, 1), (1282, .aload_n 0, 1)] = true := by decide +kernel
theorem zr_767L : decode cL_law 1266 = .ok (.iadd, 1) ∧ decode cL_law 1267 = .ok (.iaload, 1) ∧ decode cL_law 1268 = .ok (.aload_n 0, 1) ∧ decode cL_law 1269 = .ok (.iload 4, 2) ∧ decode cL_law 1271 = .ok (.iconst 3, 1) ∧ decode cL_law 1272 = .ok (.iadd, 1) ∧ decode cL_law 1273 = .ok (.iaload, 1) ∧ decode cL_law 1274 = .ok (.invokevirtual 140, 3) ∧ decode cL_law 1277 = .ok (.pop, 1) ∧ decode cL_law 1278 = .ok (.goto 558, 3) ∧ decode cL_law 1281 = .ok (.aload_n 1, 1) ∧ decode cL_law 1282 = .ok (.aload_n 0, 1) ∧ True := zj_of zk_767L
abbrev dL_law_1266 := zr_767L.1
abbrev dL_law_1267 := zr_767L.2.1
abbrev dL_law_1268 := zr_767L.2.2.1
abbrev dL_law_1269 := zr_767L.2.2.2.1
abbrev dL_law_1271 := zr_767L.2.2.2.2.1
abbrev dL_law_1272 := zr_767L.2.2.2.2.2.1
abbrev dL_law_1273 := zr_767L.2.2.2.2.2.2.1
abbrev dL_law_1274 := zr_767L.2.2.2.2.2.2.2.1
abbrev dL_law_1277 := zr_767L.2.2.2.2.2.2.2.2.1
abbrev dL_law_1278 := zr_767L.2.2.2.2.2.2.2.2.2.1
abbrev dL_law_1281 := zr_767L.2.2.2.2.2.2.2.2.2.2.1
abbrev dL_law_1282 := zr_767L.2.2.2.2.2.2.2.2.2.2.2.1
set_option maxRecDepth 100000 in
theorem zk_768L : zck 1283 (cL_law.data.toList.drop 1283) [(1283, .iload 4, 2), (1285, .iconst 1, 1), (1286, .iadd, 1), (1287, .iaload, 1), (1288, .aload_n 0, 1), (1289, .iload 4, 2), (1291, .iconst 2, 1), (1292, .iadd, 1), (1293, .iaload, 1), (1294, .aload_n 0, 1), (1295, .iload 4, 2), (1297, .iconst 3, 1)] = true := by decide +kernel
theorem zr_768L : decode cL_law 1283 = .ok (.iload 4, 2) ∧ decode cL_law 1285 = .ok (.iconst 1, 1) ∧ decode cL_law 1286 = .ok (.iadd, 1) ∧ decode cL_law 1287 = .ok (.iaload, 1) ∧ decode cL_law 1288 = .ok (.aload_n 0, 1) ∧ decode cL_law 1289 = .ok (.iload 4, 2) ∧ decode cL_law 1291 = .ok (.iconst 2, 1) ∧ decode cL_law 1292 = .ok (.iadd, 1) ∧ decode cL_law 1293 = .ok (.iaload, 1) ∧ decode cL_law 1294 = .ok (.aload_n 0, 1) ∧ decode cL_law 1295 = .ok (.iload 4, 2) ∧ decode cL_law 1297 = .ok (.iconst 3, 1) ∧ True := zj_of zk_768L
abbrev dL_law_1283 := zr_768L.1
abbrev dL_law_1285 := zr_768L.2.1
abbrev dL_law_1286 := zr_768L.2.2.1
abbrev dL_law_1287 := zr_768L.2.2.2.1
abbrev dL_law_1288 := zr_768L.2.2.2.2.1
abbrev dL_law_1289 := zr_768L.2.2.2.2.2.1
abbrev dL_law_1291 := zr_768L.2.2.2.2.2.2.1
abbrev dL_law_1292 := zr_768L.2.2.2.2.2.2.2.1
abbrev dL_law_1293 := zr_768L.2.2.2.2.2.2.2.2.1
abbrev dL_law_1294 := zr_768L.2.2.2.2.2.2.2.2.2.1
abbrev dL_law_1295 := zr_768L.2.2.2.2.2.2.2.2.2.2.1
abbrev dL_law_1297 := zr_768L.2.2.2.2.2.2.2.2.2.2.2.1
set_option maxRecDepth 100000 in
theorem zk_769L : zck 1298 (cL_law.data.toList.drop 1298) [(1298, .iadd, 1), (1299, .iaload, 1), (1300, .invokevirtual 141, 3), (1303, .pop, 1), (1304, .aload_n 2, 1), (1305, .aload_n 0, 1), (1306, .iload 4, 2), (1308, .iconst 1, 1), (1309, .iadd, 1), (1310, .iaload, 1), (1311, .aload_n 0, 1), (1312, .iload 4, 2)] = true := by decide +kernel
theorem zr_769L : decode cL_law 1298 = .ok (.iadd, 1) ∧ decode cL_law 1299 = .ok (.iaload, 1) ∧ decode cL_law 1300 = .ok (.invokevirtual 141, 3) ∧ decode cL_law 1303 = .ok (.pop, 1) ∧ decode cL_law 1304 = .ok (.aload_n 2, 1) ∧ decode cL_law 1305 = .ok (.aload_n 0, 1) ∧ decode cL_law 1306 = .ok (.iload 4, 2) ∧ decode cL_law 1308 = .ok (.iconst 1, 1) ∧ decode cL_law 1309 = .ok (.iadd, 1) ∧ decode cL_law 1310 = .ok (.iaload, 1) ∧ decode cL_law 1311 = .ok (.aload_n 0, 1) ∧ decode cL_law 1312 = .ok (.iload 4, 2) ∧ True := zj_of zk_769L
abbrev dL_law_1298 := zr_769L.1
abbrev dL_law_1299 := zr_769L.2.1
abbrev dL_law_1300 := zr_769L.2.2.1
abbrev dL_law_1303 := zr_769L.2.2.2.1
abbrev dL_law_1304 := zr_769L.2.2.2.2.1
abbrev dL_law_1305 := zr_769L.2.2.2.2.2.1
abbrev dL_law_1306 := zr_769L.2.2.2.2.2.2.1
abbrev dL_law_1308 := zr_769L.2.2.2.2.2.2.2.1
abbrev dL_law_1309 := zr_769L.2.2.2.2.2.2.2.2.1
abbrev dL_law_1310 := zr_769L.2.2.2.2.2.2.2.2.2.1
abbrev dL_law_1311 := zr_769L.2.2.2.2.2.2.2.2.2.2.1
abbrev dL_law_1312 := zr_769L.2.2.2.2.2.2.2.2.2.2.2.1
set_option maxRecDepth 100000 in
theorem zk_770L : zck 1314 (cL_law.data.toList.drop 1314) [(1314, .iconst 2, 1), (1315, .iadd, 1), (1316, .iaload, 1), (1317, .aload_n 0, 1), (1318, .iload 4, 2), (1320, .iconst 3, 1), (1321, .iadd, 1), (1322, .iaload, 1), (1323, .invokevirtual 144, 3), (1326, .pop, 1), (1327, .goto 509, 3), (1330, .aload_n 1, 1)] = true := by decide +kernel
theorem zr_770L : decode cL_law 1314 = .ok (.iconst 2, 1) ∧ decode cL_law 1315 = .ok (.iadd, 1) ∧ decode cL_law 1316 = .ok (.iaload, 1) ∧ decode cL_law 1317 = .ok (.aload_n 0, 1) ∧ decode cL_law 1318 = .ok (.iload 4, 2) ∧ decode cL_law 1320 = .ok (.iconst 3, 1) ∧ decode cL_law 1321 = .ok (.iadd, 1) ∧ decode cL_law 1322 = .ok (.iaload, 1) ∧ decode cL_law 1323 = .ok (.invokevirtual 144, 3) ∧ decode cL_law 1326 = .ok (.pop, 1) ∧ decode cL_law 1327 = .ok (.goto 509, 3) ∧ decode cL_law 1330 = .ok (.aload_n 1, 1) ∧ True := zj_of zk_770L
abbrev dL_law_1314 := zr_770L.1
abbrev dL_law_1315 := zr_770L.2.1
abbrev dL_law_1316 := zr_770L.2.2.1
abbrev dL_law_1317 := zr_770L.2.2.2.1
abbrev dL_law_1318 := zr_770L.2.2.2.2.1
abbrev dL_law_1320 := zr_770L.2.2.2.2.2.1
abbrev dL_law_1321 := zr_770L.2.2.2.2.2.2.1
abbrev dL_law_1322 := zr_770L.2.2.2.2.2.2.2.1
abbrev dL_law_1323 := zr_770L.2.2.2.2.2.2.2.2.1
abbrev dL_law_1326 := zr_770L.2.2.2.2.2.2.2.2.2.1
abbrev dL_law_1327 := zr_770L.2.2.2.2.2.2.2.2.2.2.1
abbrev dL_law_1330 := zr_770L.2.2.2.2.2.2.2.2.2.2.2.1
set_option maxRecDepth 100000 in
theorem zk_771L : zck 1331 (cL_law.data.toList.drop 1331) [(1331, .aload_n 0, 1), (1332, .iload 4, 2), (1334, .iconst 1, 1), (1335, .iadd, 1), (1336, .iaload, 1), (1337, .aload_n 0, 1), (1338, .iload 4, 2), (1340, .iconst 2, 1), (1341, .iadd, 1), (1342, .iaload, 1), (1343, .invokevirtual 145, 3), (1346, .pop, 1)] = true := by decide +kernel
theorem zr_771L : decode cL_law 1331 = .ok (.aload_n 0, 1) ∧ decode cL_law 1332 = .ok (.iload 4, 2) ∧ decode cL_law 1334 = .ok (.iconst 1, 1) ∧ decode cL_law 1335 = .ok (.iadd, 1) ∧ decode cL_law 1336 = .ok (.iaload, 1) ∧ decode cL_law 1337 = .ok (.aload_n 0, 1) ∧ decode cL_law 1338 = .ok (.iload 4, 2) ∧ decode cL_law 1340 = .ok (.iconst 2, 1) ∧ decode cL_law 1341 = .ok (.iadd, 1) ∧ decode cL_law 1342 = .ok (.iaload, 1) ∧ decode cL_law 1343 = .ok (.invokevirtual 145, 3) ∧ decode cL_law 1346 = .ok (.pop, 1) ∧ True := zj_of zk_771L
abbrev dL_law_1331 := zr_771L.1
abbrev dL_law_1332 := zr_771L.2.1
abbrev dL_law_1334 := zr_771L.2.2.1
abbrev dL_law_1335 := zr_771L.2.2.2.1
abbrev dL_law_1336 := zr_771L.2.2.2.2.1
abbrev dL_law_1337 := zr_771L.2.2.2.2.2.1
abbrev dL_law_1338 := zr_771L.2.2.2.2.2.2.1
abbrev dL_law_1340 := zr_771L.2.2.2.2.2.2.2.1
abbrev dL_law_1341 := zr_771L.2.2.2.2.2.2.2.2.1
abbrev dL_law_1342 := zr_771L.2.2.2.2.2.2.2.2.2.1
abbrev dL_law_1343 := zr_771L.2.2.2.2.2.2.2.2.2.2.1
abbrev dL_law_1346 := zr_771L.2.2.2.2.2.2.2.2.2.2.2.1
set_option maxRecDepth 100000 in
theorem zk_772L : zck 1347 (cL_law.data.toList.drop 1347) [(1347, .aload_n 2, 1), (1348, .aload_n 0, 1), (1349, .iload 4, 2), (1351, .iconst 1, 1), (1352, .iadd, 1), (1353, .iaload, 1), (1354, .aload_n 0, 1), (1355, .iload 4, 2), (1357, .iconst 2, 1), (1358, .iadd, 1), (1359, .iaload, 1), (1360, .invokevirtual 148, 3)] = true := by decide +kernel
theorem zr_772L : decode cL_law 1347 = .ok (.aload_n 2, 1) ∧ decode cL_law 1348 = .ok (.aload_n 0, 1) ∧ decode cL_law 1349 = .ok (.iload 4, 2) ∧ decode cL_law 1351 = .ok (.iconst 1, 1) ∧ decode cL_law 1352 = .ok (.iadd, 1) ∧ decode cL_law 1353 = .ok (.iaload, 1) ∧ decode cL_law 1354 = .ok (.aload_n 0, 1) ∧ decode cL_law 1355 = .ok (.iload 4, 2) ∧ decode cL_law 1357 = .ok (.iconst 2, 1) ∧ decode cL_law 1358 = .ok (.iadd, 1) ∧ decode cL_law 1359 = .ok (.iaload, 1) ∧ decode cL_law 1360 = .ok (.invokevirtual 148, 3) ∧ True := zj_of zk_772L
abbrev dL_law_1347 := zr_772L.1
abbrev dL_law_1348 := zr_772L.2.1
abbrev dL_law_1349 := zr_772L.2.2.1
abbrev dL_law_1351 := zr_772L.2.2.2.1
abbrev dL_law_1352 := zr_772L.2.2.2.2.1
abbrev dL_law_1353 := zr_772L.2.2.2.2.2.1
abbrev dL_law_1354 := zr_772L.2.2.2.2.2.2.1
abbrev dL_law_1355 := zr_772L.2.2.2.2.2.2.2.1
abbrev dL_law_1357 := zr_772L.2.2.2.2.2.2.2.2.1
abbrev dL_law_1358 := zr_772L.2.2.2.2.2.2.2.2.2.1
abbrev dL_law_1359 := zr_772L.2.2.2.2.2.2.2.2.2.2.1
abbrev dL_law_1360 := zr_772L.2.2.2.2.2.2.2.2.2.2.2.1
set_option maxRecDepth 100000 in
theorem zk_773L : zck 1363 (cL_law.data.toList.drop 1363) [(1363, .pop, 1), (1364, .goto 472, 3), (1367, .aload_n 1, 1), (1368, .aload_n 0, 1), (1369, .iload 4, 2), (1371, .iconst 1, 1), (1372, .iadd, 1), (1373, .iaload, 1), (1374, .aload_n 0, 1), (1375, .iload 4, 2), (1377, .iconst 2, 1), (1378, .iadd, 1)] = true := by decide +kernel
theorem zr_773L : decode cL_law 1363 = .ok (.pop, 1) ∧ decode cL_law 1364 = .ok (.goto 472, 3) ∧ decode cL_law 1367 = .ok (.aload_n 1, 1) ∧ decode cL_law 1368 = .ok (.aload_n 0, 1) ∧ decode cL_law 1369 = .ok (.iload 4, 2) ∧ decode cL_law 1371 = .ok (.iconst 1, 1) ∧ decode cL_law 1372 = .ok (.iadd, 1) ∧ decode cL_law 1373 = .ok (.iaload, 1) ∧ decode cL_law 1374 = .ok (.aload_n 0, 1) ∧ decode cL_law 1375 = .ok (.iload 4, 2) ∧ decode cL_law 1377 = .ok (.iconst 2, 1) ∧ decode cL_law 1378 = .ok (.iadd, 1) ∧ True := zj_of zk_773L
abbrev dL_law_1363 := zr_773L.1
abbrev dL_law_1364 := zr_773L.2.1
abbrev dL_law_1367 := zr_773L.2.2.1
abbrev dL_law_1368 := zr_773L.2.2.2.1
abbrev dL_law_1369 := zr_773L.2.2.2.2.1
abbrev dL_law_1371 := zr_773L.2.2.2.2.2.1
abbrev dL_law_1372 := zr_773L.2.2.2.2.2.2.1
abbrev dL_law_1373 := zr_773L.2.2.2.2.2.2.2.1
abbrev dL_law_1374 := zr_773L.2.2.2.2.2.2.2.2.1
abbrev dL_law_1375 := zr_773L.2.2.2.2.2.2.2.2.2.1
abbrev dL_law_1377 := zr_773L.2.2.2.2.2.2.2.2.2.2.1
abbrev dL_law_1378 := zr_773L.2.2.2.2.2.2.2.2.2.2.2.1
set_option maxRecDepth 100000 in
theorem zk_774L : zck 1379 (cL_law.data.toList.drop 1379) [(1379, .iaload, 1), (1380, .invokevirtual 149, 3), (1383, .pop, 1), (1384, .aload_n 2, 1), (1385, .aload_n 0, 1), (1386, .iload 4, 2), (1388, .iconst 1, 1), (1389, .iadd, 1), (1390, .iaload, 1), (1391, .aload_n 0, 1), (1392, .iload 4, 2), (1394, .iconst 2, 1)] = true := by decide +kernel
theorem zr_774L : decode cL_law 1379 = .ok (.iaload, 1) ∧ decode cL_law 1380 = .ok (.invokevirtual 149, 3) ∧ decode cL_law 1383 = .ok (.pop, 1) ∧ decode cL_law 1384 = .ok (.aload_n 2, 1) ∧ decode cL_law 1385 = .ok (.aload_n 0, 1) ∧ decode cL_law 1386 = .ok (.iload 4, 2) ∧ decode cL_law 1388 = .ok (.iconst 1, 1) ∧ decode cL_law 1389 = .ok (.iadd, 1) ∧ decode cL_law 1390 = .ok (.iaload, 1) ∧ decode cL_law 1391 = .ok (.aload_n 0, 1) ∧ decode cL_law 1392 = .ok (.iload 4, 2) ∧ decode cL_law 1394 = .ok (.iconst 2, 1) ∧ True := zj_of zk_774L
abbrev dL_law_1379 := zr_774L.1
abbrev dL_law_1380 := zr_774L.2.1
abbrev dL_law_1383 := zr_774L.2.2.1
abbrev dL_law_1384 := zr_774L.2.2.2.1
abbrev dL_law_1385 := zr_774L.2.2.2.2.1
abbrev dL_law_1386 := zr_774L.2.2.2.2.2.1
abbrev dL_law_1388 := zr_774L.2.2.2.2.2.2.1
abbrev dL_law_1389 := zr_774L.2.2.2.2.2.2.2.1
abbrev dL_law_1390 := zr_774L.2.2.2.2.2.2.2.2.1
abbrev dL_law_1391 := zr_774L.2.2.2.2.2.2.2.2.2.1
abbrev dL_law_1392 := zr_774L.2.2.2.2.2.2.2.2.2.2.1
abbrev dL_law_1394 := zr_774L.2.2.2.2.2.2.2.2.2.2.2.1
set_option maxRecDepth 100000 in
theorem zk_775L : zck 1395 (cL_law.data.toList.drop 1395) [(1395, .iadd, 1), (1396, .iaload, 1), (1397, .invokevirtual 152, 3), (1400, .pop, 1), (1401, .goto 435, 3), (1404, .aload_n 1, 1), (1405, .aload_n 0, 1), (1406, .iload 4, 2), (1408, .iconst 1, 1), (1409, .iadd, 1), (1410, .iaload, 1), (1411, .aload_n 0, 1)] = true := by decide +kernel
theorem zr_775L : decode cL_law 1395 = .ok (.iadd, 1) ∧ decode cL_law 1396 = .ok (.iaload, 1) ∧ decode cL_law 1397 = .ok (.invokevirtual 152, 3) ∧ decode cL_law 1400 = .ok (.pop, 1) ∧ decode cL_law 1401 = .ok (.goto 435, 3) ∧ decode cL_law 1404 = .ok (.aload_n 1, 1) ∧ decode cL_law 1405 = .ok (.aload_n 0, 1) ∧ decode cL_law 1406 = .ok (.iload 4, 2) ∧ decode cL_law 1408 = .ok (.iconst 1, 1) ∧ decode cL_law 1409 = .ok (.iadd, 1) ∧ decode cL_law 1410 = .ok (.iaload, 1) ∧ decode cL_law 1411 = .ok (.aload_n 0, 1) ∧ True := zj_of zk_775L
abbrev dL_law_1395 := zr_775L.1
abbrev dL_law_1396 := zr_775L.2.1
abbrev dL_law_1397 := zr_775L.2.2.1
abbrev dL_law_1400 := zr_775L.2.2.2.1
abbrev dL_law_1401 := zr_775L.2.2.2.2.1
abbrev dL_law_1404 := zr_775L.2.2.2.2.2.1
abbrev dL_law_1405 := zr_775L.2.2.2.2.2.2.1
abbrev dL_law_1406 := zr_775L.2.2.2.2.2.2.2.1
abbrev dL_law_1408 := zr_775L.2.2.2.2.2.2.2.2.1
abbrev dL_law_1409 := zr_775L.2.2.2.2.2.2.2.2.2.1
abbrev dL_law_1410 := zr_775L.2.2.2.2.2.2.2.2.2.2.1
abbrev dL_law_1411 := zr_775L.2.2.2.2.2.2.2.2.2.2.2.1
set_option maxRecDepth 100000 in
theorem zk_776L : zck 1412 (cL_law.data.toList.drop 1412) [(1412, .iload 4, 2), (1414, .iconst 2, 1), (1415, .iadd, 1), (1416, .iaload, 1), (1417, .invokevirtual 153, 3), (1420, .pop, 1), (1421, .aload_n 2, 1), (1422, .aload_n 0, 1), (1423, .iload 4, 2), (1425, .iconst 1, 1), (1426, .iadd, 1), (1427, .iaload, 1)] = true := by decide +kernel
theorem zr_776L : decode cL_law 1412 = .ok (.iload 4, 2) ∧ decode cL_law 1414 = .ok (.iconst 2, 1) ∧ decode cL_law 1415 = .ok (.iadd, 1) ∧ decode cL_law 1416 = .ok (.iaload, 1) ∧ decode cL_law 1417 = .ok (.invokevirtual 153, 3) ∧ decode cL_law 1420 = .ok (.pop, 1) ∧ decode cL_law 1421 = .ok (.aload_n 2, 1) ∧ decode cL_law 1422 = .ok (.aload_n 0, 1) ∧ decode cL_law 1423 = .ok (.iload 4, 2) ∧ decode cL_law 1425 = .ok (.iconst 1, 1) ∧ decode cL_law 1426 = .ok (.iadd, 1) ∧ decode cL_law 1427 = .ok (.iaload, 1) ∧ True := zj_of zk_776L
abbrev dL_law_1412 := zr_776L.1
abbrev dL_law_1414 := zr_776L.2.1
abbrev dL_law_1415 := zr_776L.2.2.1
abbrev dL_law_1416 := zr_776L.2.2.2.1
abbrev dL_law_1417 := zr_776L.2.2.2.2.1
abbrev dL_law_1420 := zr_776L.2.2.2.2.2.1
abbrev dL_law_1421 := zr_776L.2.2.2.2.2.2.1
abbrev dL_law_1422 := zr_776L.2.2.2.2.2.2.2.1
abbrev dL_law_1423 := zr_776L.2.2.2.2.2.2.2.2.1
abbrev dL_law_1425 := zr_776L.2.2.2.2.2.2.2.2.2.1
abbrev dL_law_1426 := zr_776L.2.2.2.2.2.2.2.2.2.2.1
abbrev dL_law_1427 := zr_776L.2.2.2.2.2.2.2.2.2.2.2.1
set_option maxRecDepth 100000 in
theorem zk_777L : zck 1428 (cL_law.data.toList.drop 1428) [(1428, .aload_n 0, 1), (1429, .iload 4, 2), (1431, .iconst 2, 1), (1432, .iadd, 1), (1433, .iaload, 1), (1434, .invokevirtual 156, 3), (1437, .pop, 1), (1438, .goto 398, 3), (1441, .aload_n 1, 1), (1442, .aload_n 0, 1), (1443, .iload 4, 2), (1445, .iconst 1, 1)] = true := by decide +kernel
theorem zr_777L : decode cL_law 1428 = .ok (.aload_n 0, 1) ∧ decode cL_law 1429 = .ok (.iload 4, 2) ∧ decode cL_law 1431 = .ok (.iconst 2, 1) ∧ decode cL_law 1432 = .ok (.iadd, 1) ∧ decode cL_law 1433 = .ok (.iaload, 1) ∧ decode cL_law 1434 = .ok (.invokevirtual 156, 3) ∧ decode cL_law 1437 = .ok (.pop, 1) ∧ decode cL_law 1438 = .ok (.goto 398, 3) ∧ decode cL_law 1441 = .ok (.aload_n 1, 1) ∧ decode cL_law 1442 = .ok (.aload_n 0, 1) ∧ decode cL_law 1443 = .ok (.iload 4, 2) ∧ decode cL_law 1445 = .ok (.iconst 1, 1) ∧ True := zj_of zk_777L
abbrev dL_law_1428 := zr_777L.1
abbrev dL_law_1429 := zr_777L.2.1
abbrev dL_law_1431 := zr_777L.2.2.1
abbrev dL_law_1432 := zr_777L.2.2.2.1
abbrev dL_law_1433 := zr_777L.2.2.2.2.1
abbrev dL_law_1434 := zr_777L.2.2.2.2.2.1
abbrev dL_law_1437 := zr_777L.2.2.2.2.2.2.1
abbrev dL_law_1438 := zr_777L.2.2.2.2.2.2.2.1
abbrev dL_law_1441 := zr_777L.2.2.2.2.2.2.2.2.1
abbrev dL_law_1442 := zr_777L.2.2.2.2.2.2.2.2.2.1
abbrev dL_law_1443 := zr_777L.2.2.2.2.2.2.2.2.2.2.1
abbrev dL_law_1445 := zr_777L.2.2.2.2.2.2.2.2.2.2.2.1
set_option maxRecDepth 100000 in
theorem zk_778L : zck 1446 (cL_law.data.toList.drop 1446) [(1446, .iadd, 1), (1447, .iaload, 1), (1448, .aload_n 0, 1), (1449, .iload 4, 2), (1451, .iconst 2, 1), (1452, .iadd, 1), (1453, .iaload, 1), (1454, .invokevirtual 157, 3), (1457, .pop, 1), (1458, .aload_n 2, 1), (1459, .aload_n 0, 1), (1460, .iload 4, 2)] = true := by decide +kernel
theorem zr_778L : decode cL_law 1446 = .ok (.iadd, 1) ∧ decode cL_law 1447 = .ok (.iaload, 1) ∧ decode cL_law 1448 = .ok (.aload_n 0, 1) ∧ decode cL_law 1449 = .ok (.iload 4, 2) ∧ decode cL_law 1451 = .ok (.iconst 2, 1) ∧ decode cL_law 1452 = .ok (.iadd, 1) ∧ decode cL_law 1453 = .ok (.iaload, 1) ∧ decode cL_law 1454 = .ok (.invokevirtual 157, 3) ∧ decode cL_law 1457 = .ok (.pop, 1) ∧ decode cL_law 1458 = .ok (.aload_n 2, 1) ∧ decode cL_law 1459 = .ok (.aload_n 0, 1) ∧ decode cL_law 1460 = .ok (.iload 4, 2) ∧ True := zj_of zk_778L
abbrev dL_law_1446 := zr_778L.1
abbrev dL_law_1447 := zr_778L.2.1
abbrev dL_law_1448 := zr_778L.2.2.1
abbrev dL_law_1449 := zr_778L.2.2.2.1
abbrev dL_law_1451 := zr_778L.2.2.2.2.1
abbrev dL_law_1452 := zr_778L.2.2.2.2.2.1
abbrev dL_law_1453 := zr_778L.2.2.2.2.2.2.1
abbrev dL_law_1454 := zr_778L.2.2.2.2.2.2.2.1
abbrev dL_law_1457 := zr_778L.2.2.2.2.2.2.2.2.1
abbrev dL_law_1458 := zr_778L.2.2.2.2.2.2.2.2.2.1
abbrev dL_law_1459 := zr_778L.2.2.2.2.2.2.2.2.2.2.1
abbrev dL_law_1460 := zr_778L.2.2.2.2.2.2.2.2.2.2.2.1
set_option maxRecDepth 100000 in
theorem zk_779L : zck 1462 (cL_law.data.toList.drop 1462) [(1462, .iconst 1, 1), (1463, .iadd, 1), (1464, .iaload, 1), (1465, .aload_n 0, 1), (1466, .iload 4, 2), (1468, .iconst 2, 1), (1469, .iadd, 1), (1470, .iaload, 1), (1471, .invokevirtual 160, 3), (1474, .pop, 1), (1475, .goto 361, 3), (1478, .aload_n 1, 1)] = true := by decide +kernel
theorem zr_779L : decode cL_law 1462 = .ok (.iconst 1, 1) ∧ decode cL_law 1463 = .ok (.iadd, 1) ∧ decode cL_law 1464 = .ok (.iaload, 1) ∧ decode cL_law 1465 = .ok (.aload_n 0, 1) ∧ decode cL_law 1466 = .ok (.iload 4, 2) ∧ decode cL_law 1468 = .ok (.iconst 2, 1) ∧ decode cL_law 1469 = .ok (.iadd, 1) ∧ decode cL_law 1470 = .ok (.iaload, 1) ∧ decode cL_law 1471 = .ok (.invokevirtual 160, 3) ∧ decode cL_law 1474 = .ok (.pop, 1) ∧ decode cL_law 1475 = .ok (.goto 361, 3) ∧ decode cL_law 1478 = .ok (.aload_n 1, 1) ∧ True := zj_of zk_779L
abbrev dL_law_1462 := zr_779L.1
abbrev dL_law_1463 := zr_779L.2.1
abbrev dL_law_1464 := zr_779L.2.2.1
abbrev dL_law_1465 := zr_779L.2.2.2.1
abbrev dL_law_1466 := zr_779L.2.2.2.2.1
abbrev dL_law_1468 := zr_779L.2.2.2.2.2.1
abbrev dL_law_1469 := zr_779L.2.2.2.2.2.2.1
abbrev dL_law_1470 := zr_779L.2.2.2.2.2.2.2.1
abbrev dL_law_1471 := zr_779L.2.2.2.2.2.2.2.2.1
abbrev dL_law_1474 := zr_779L.2.2.2.2.2.2.2.2.2.1
abbrev dL_law_1475 := zr_779L.2.2.2.2.2.2.2.2.2.2.1
abbrev dL_law_1478 := zr_779L.2.2.2.2.2.2.2.2.2.2.2.1
set_option maxRecDepth 100000 in
theorem zk_780L : zck 1479 (cL_law.data.toList.drop 1479) [(1479, .aload_n 0, 1), (1480, .iload 4, 2), (1482, .iconst 1, 1), (1483, .iadd, 1), (1484, .iaload, 1), (1485, .aload_n 0, 1), (1486, .iload 4, 2), (1488, .iconst 2, 1), (1489, .iadd, 1), (1490, .iaload, 1), (1491, .aload_n 0, 1), (1492, .iload 4, 2)] = true := by decide +kernel
theorem zr_780L : decode cL_law 1479 = .ok (.aload_n 0, 1) ∧ decode cL_law 1480 = .ok (.iload 4, 2) ∧ decode cL_law 1482 = .ok (.iconst 1, 1) ∧ decode cL_law 1483 = .ok (.iadd, 1) ∧ decode cL_law 1484 = .ok (.iaload, 1) ∧ decode cL_law 1485 = .ok (.aload_n 0, 1) ∧ decode cL_law 1486 = .ok (.iload 4, 2) ∧ decode cL_law 1488 = .ok (.iconst 2, 1) ∧ decode cL_law 1489 = .ok (.iadd, 1) ∧ decode cL_law 1490 = .ok (.iaload, 1) ∧ decode cL_law 1491 = .ok (.aload_n 0, 1) ∧ decode cL_law 1492 = .ok (.iload 4, 2) ∧ True := zj_of zk_780L
abbrev dL_law_1479 := zr_780L.1
abbrev dL_law_1480 := zr_780L.2.1
abbrev dL_law_1482 := zr_780L.2.2.1
abbrev dL_law_1483 := zr_780L.2.2.2.1
abbrev dL_law_1484 := zr_780L.2.2.2.2.1
abbrev dL_law_1485 := zr_780L.2.2.2.2.2.1
abbrev dL_law_1486 := zr_780L.2.2.2.2.2.2.1
abbrev dL_law_1488 := zr_780L.2.2.2.2.2.2.2.1
abbrev dL_law_1489 := zr_780L.2.2.2.2.2.2.2.2.1
abbrev dL_law_1490 := zr_780L.2.2.2.2.2.2.2.2.2.1
abbrev dL_law_1491 := zr_780L.2.2.2.2.2.2.2.2.2.2.1
abbrev dL_law_1492 := zr_780L.2.2.2.2.2.2.2.2.2.2.2.1
set_option maxRecDepth 100000 in
theorem zk_781L : zck 1494 (cL_law.data.toList.drop 1494) [(1494, .iconst 3, 1), (1495, .iadd, 1), (1496, .iaload, 1), (1497, .invokevirtual 161, 3), (1500, .pop, 1), (1501, .aload_n 2, 1), (1502, .aload_n 0, 1), (1503, .iload 4, 2), (1505, .iconst 1, 1), (1506, .iadd, 1), (1507, .iaload, 1), (1508, .aload_n 0, 1)] = true := by decide +kernel
theorem zr_781L : decode cL_law 1494 = .ok (.iconst 3, 1) ∧ decode cL_law 1495 = .ok (.iadd, 1) ∧ decode cL_law 1496 = .ok (.iaload, 1) ∧ decode cL_law 1497 = .ok (.invokevirtual 161, 3) ∧ decode cL_law 1500 = .ok (.pop, 1) ∧ decode cL_law 1501 = .ok (.aload_n 2, 1) ∧ decode cL_law 1502 = .ok (.aload_n 0, 1) ∧ decode cL_law 1503 = .ok (.iload 4, 2) ∧ decode cL_law 1505 = .ok (.iconst 1, 1) ∧ decode cL_law 1506 = .ok (.iadd, 1) ∧ decode cL_law 1507 = .ok (.iaload, 1) ∧ decode cL_law 1508 = .ok (.aload_n 0, 1) ∧ True := zj_of zk_781L
abbrev dL_law_1494 := zr_781L.1
abbrev dL_law_1495 := zr_781L.2.1
abbrev dL_law_1496 := zr_781L.2.2.1
abbrev dL_law_1497 := zr_781L.2.2.2.1
abbrev dL_law_1500 := zr_781L.2.2.2.2.1
abbrev dL_law_1501 := zr_781L.2.2.2.2.2.1
abbrev dL_law_1502 := zr_781L.2.2.2.2.2.2.1
abbrev dL_law_1503 := zr_781L.2.2.2.2.2.2.2.1
abbrev dL_law_1505 := zr_781L.2.2.2.2.2.2.2.2.1
abbrev dL_law_1506 := zr_781L.2.2.2.2.2.2.2.2.2.1
abbrev dL_law_1507 := zr_781L.2.2.2.2.2.2.2.2.2.2.1
abbrev dL_law_1508 := zr_781L.2.2.2.2.2.2.2.2.2.2.2.1
set_option maxRecDepth 100000 in
theorem zk_782L : zck 1509 (cL_law.data.toList.drop 1509) [(1509, .iload 4, 2), (1511, .iconst 2, 1), (1512, .iadd, 1), (1513, .iaload, 1), (1514, .aload_n 0, 1), (1515, .iload 4, 2), (1517, .iconst 3, 1), (1518, .iadd, 1), (1519, .iaload, 1), (1520, .invokevirtual 164, 3), (1523, .pop, 1), (1524, .goto 312, 3)] = true := by decide +kernel
theorem zr_782L : decode cL_law 1509 = .ok (.iload 4, 2) ∧ decode cL_law 1511 = .ok (.iconst 2, 1) ∧ decode cL_law 1512 = .ok (.iadd, 1) ∧ decode cL_law 1513 = .ok (.iaload, 1) ∧ decode cL_law 1514 = .ok (.aload_n 0, 1) ∧ decode cL_law 1515 = .ok (.iload 4, 2) ∧ decode cL_law 1517 = .ok (.iconst 3, 1) ∧ decode cL_law 1518 = .ok (.iadd, 1) ∧ decode cL_law 1519 = .ok (.iaload, 1) ∧ decode cL_law 1520 = .ok (.invokevirtual 164, 3) ∧ decode cL_law 1523 = .ok (.pop, 1) ∧ decode cL_law 1524 = .ok (.goto 312, 3) ∧ True := zj_of zk_782L
abbrev dL_law_1509 := zr_782L.1
abbrev dL_law_1511 := zr_782L.2.1
abbrev dL_law_1512 := zr_782L.2.2.1
abbrev dL_law_1513 := zr_782L.2.2.2.1
abbrev dL_law_1514 := zr_782L.2.2.2.2.1
abbrev dL_law_1515 := zr_782L.2.2.2.2.2.1
abbrev dL_law_1517 := zr_782L.2.2.2.2.2.2.1
abbrev dL_law_1518 := zr_782L.2.2.2.2.2.2.2.1
abbrev dL_law_1519 := zr_782L.2.2.2.2.2.2.2.2.1
abbrev dL_law_1520 := zr_782L.2.2.2.2.2.2.2.2.2.1
abbrev dL_law_1523 := zr_782L.2.2.2.2.2.2.2.2.2.2.1
abbrev dL_law_1524 := zr_782L.2.2.2.2.2.2.2.2.2.2.2.1
set_option maxRecDepth 100000 in
theorem zk_783L : zck 1527 (cL_law.data.toList.drop 1527) [(1527, .aload_n 1, 1), (1528, .aload_n 0, 1), (1529, .iload 4, 2), (1531, .iconst 1, 1), (1532, .iadd, 1), (1533, .iaload, 1), (1534, .aload_n 0, 1), (1535, .iload 4, 2), (1537, .iconst 2, 1), (1538, .iadd, 1), (1539, .iaload, 1), (1540, .aload_n 0, 1)] = true := by decide +kernel
theorem zr_783L : decode cL_law 1527 = .ok (.aload_n 1, 1) ∧ decode cL_law 1528 = .ok (.aload_n 0, 1) ∧ decode cL_law 1529 = .ok (.iload 4, 2) ∧ decode cL_law 1531 = .ok (.iconst 1, 1) ∧ decode cL_law 1532 = .ok (.iadd, 1) ∧ decode cL_law 1533 = .ok (.iaload, 1) ∧ decode cL_law 1534 = .ok (.aload_n 0, 1) ∧ decode cL_law 1535 = .ok (.iload 4, 2) ∧ decode cL_law 1537 = .ok (.iconst 2, 1) ∧ decode cL_law 1538 = .ok (.iadd, 1) ∧ decode cL_law 1539 = .ok (.iaload, 1) ∧ decode cL_law 1540 = .ok (.aload_n 0, 1) ∧ True := zj_of zk_783L
abbrev dL_law_1527 := zr_783L.1
abbrev dL_law_1528 := zr_783L.2.1
abbrev dL_law_1529 := zr_783L.2.2.1
abbrev dL_law_1531 := zr_783L.2.2.2.1
abbrev dL_law_1532 := zr_783L.2.2.2.2.1
abbrev dL_law_1533 := zr_783L.2.2.2.2.2.1
abbrev dL_law_1534 := zr_783L.2.2.2.2.2.2.1
abbrev dL_law_1535 := zr_783L.2.2.2.2.2.2.2.1
abbrev dL_law_1537 := zr_783L.2.2.2.2.2.2.2.2.1
abbrev dL_law_1538 := zr_783L.2.2.2.2.2.2.2.2.2.1
abbrev dL_law_1539 := zr_783L.2.2.2.2.2.2.2.2.2.2.1
abbrev dL_law_1540 := zr_783L.2.2.2.2.2.2.2.2.2.2.2.1
set_option maxRecDepth 100000 in
theorem zk_784L : zck 1541 (cL_law.data.toList.drop 1541) [(1541, .iload 4, 2), (1543, .iconst 3, 1), (1544, .iadd, 1), (1545, .iaload, 1), (1546, .aload_n 0, 1), (1547, .iload 4, 2), (1549, .iconst 4, 1), (1550, .iadd, 1), (1551, .iaload, 1), (1552, .invokevirtual 165, 3), (1555, .pop, 1), (1556, .aload_n 2, 1)] = true := by decide +kernel
theorem zr_784L : decode cL_law 1541 = .ok (.iload 4, 2) ∧ decode cL_law 1543 = .ok (.iconst 3, 1) ∧ decode cL_law 1544 = .ok (.iadd, 1) ∧ decode cL_law 1545 = .ok (.iaload, 1) ∧ decode cL_law 1546 = .ok (.aload_n 0, 1) ∧ decode cL_law 1547 = .ok (.iload 4, 2) ∧ decode cL_law 1549 = .ok (.iconst 4, 1) ∧ decode cL_law 1550 = .ok (.iadd, 1) ∧ decode cL_law 1551 = .ok (.iaload, 1) ∧ decode cL_law 1552 = .ok (.invokevirtual 165, 3) ∧ decode cL_law 1555 = .ok (.pop, 1) ∧ decode cL_law 1556 = .ok (.aload_n 2, 1) ∧ True := zj_of zk_784L
abbrev dL_law_1541 := zr_784L.1
abbrev dL_law_1543 := zr_784L.2.1
abbrev dL_law_1544 := zr_784L.2.2.1
abbrev dL_law_1545 := zr_784L.2.2.2.1
abbrev dL_law_1546 := zr_784L.2.2.2.2.1
abbrev dL_law_1547 := zr_784L.2.2.2.2.2.1
abbrev dL_law_1549 := zr_784L.2.2.2.2.2.2.1
abbrev dL_law_1550 := zr_784L.2.2.2.2.2.2.2.1
abbrev dL_law_1551 := zr_784L.2.2.2.2.2.2.2.2.1
abbrev dL_law_1552 := zr_784L.2.2.2.2.2.2.2.2.2.1
abbrev dL_law_1555 := zr_784L.2.2.2.2.2.2.2.2.2.2.1
abbrev dL_law_1556 := zr_784L.2.2.2.2.2.2.2.2.2.2.2.1
set_option maxRecDepth 100000 in
theorem zk_785L : zck 1557 (cL_law.data.toList.drop 1557) [(1557, .aload_n 0, 1), (1558, .iload 4, 2), (1560, .iconst 1, 1), (1561, .iadd, 1), (1562, .iaload, 1), (1563, .aload_n 0, 1), (1564, .iload 4, 2), (1566, .iconst 2, 1), (1567, .iadd, 1), (1568, .iaload, 1), (1569, .aload_n 0, 1), (1570, .iload 4, 2)] = true := by decide +kernel
theorem zr_785L : decode cL_law 1557 = .ok (.aload_n 0, 1) ∧ decode cL_law 1558 = .ok (.iload 4, 2) ∧ decode cL_law 1560 = .ok (.iconst 1, 1) ∧ decode cL_law 1561 = .ok (.iadd, 1) ∧ decode cL_law 1562 = .ok (.iaload, 1) ∧ decode cL_law 1563 = .ok (.aload_n 0, 1) ∧ decode cL_law 1564 = .ok (.iload 4, 2) ∧ decode cL_law 1566 = .ok (.iconst 2, 1) ∧ decode cL_law 1567 = .ok (.iadd, 1) ∧ decode cL_law 1568 = .ok (.iaload, 1) ∧ decode cL_law 1569 = .ok (.aload_n 0, 1) ∧ decode cL_law 1570 = .ok (.iload 4, 2) ∧ True := zj_of zk_785L
abbrev dL_law_1557 := zr_785L.1
abbrev dL_law_1558 := zr_785L.2.1
abbrev dL_law_1560 := zr_785L.2.2.1
abbrev dL_law_1561 := zr_785L.2.2.2.1
abbrev dL_law_1562 := zr_785L.2.2.2.2.1
abbrev dL_law_1563 := zr_785L.2.2.2.2.2.1
abbrev dL_law_1564 := zr_785L.2.2.2.2.2.2.1
abbrev dL_law_1566 := zr_785L.2.2.2.2.2.2.2.1
abbrev dL_law_1567 := zr_785L.2.2.2.2.2.2.2.2.1
abbrev dL_law_1568 := zr_785L.2.2.2.2.2.2.2.2.2.1
abbrev dL_law_1569 := zr_785L.2.2.2.2.2.2.2.2.2.2.1
abbrev dL_law_1570 := zr_785L.2.2.2.2.2.2.2.2.2.2.2.1
set_option maxRecDepth 100000 in
theorem zk_786L : zck 1572 (cL_law.data.toList.drop 1572) [(1572, .iconst 3, 1), (1573, .iadd, 1), (1574, .iaload, 1), (1575, .aload_n 0, 1), (1576, .iload 4, 2), (1578, .iconst 4, 1), (1579, .iadd, 1), (1580, .iaload, 1), (1581, .invokevirtual 168, 3), (1584, .pop, 1), (1585, .goto 251, 3), (1588, .aload_n 1, 1)] = true := by decide +kernel
theorem zr_786L : decode cL_law 1572 = .ok (.iconst 3, 1) ∧ decode cL_law 1573 = .ok (.iadd, 1) ∧ decode cL_law 1574 = .ok (.iaload, 1) ∧ decode cL_law 1575 = .ok (.aload_n 0, 1) ∧ decode cL_law 1576 = .ok (.iload 4, 2) ∧ decode cL_law 1578 = .ok (.iconst 4, 1) ∧ decode cL_law 1579 = .ok (.iadd, 1) ∧ decode cL_law 1580 = .ok (.iaload, 1) ∧ decode cL_law 1581 = .ok (.invokevirtual 168, 3) ∧ decode cL_law 1584 = .ok (.pop, 1) ∧ decode cL_law 1585 = .ok (.goto 251, 3) ∧ decode cL_law 1588 = .ok (.aload_n 1, 1) ∧ True := zj_of zk_786L
abbrev dL_law_1572 := zr_786L.1
abbrev dL_law_1573 := zr_786L.2.1
abbrev dL_law_1574 := zr_786L.2.2.1
abbrev dL_law_1575 := zr_786L.2.2.2.1
abbrev dL_law_1576 := zr_786L.2.2.2.2.1
abbrev dL_law_1578 := zr_786L.2.2.2.2.2.1
abbrev dL_law_1579 := zr_786L.2.2.2.2.2.2.1
abbrev dL_law_1580 := zr_786L.2.2.2.2.2.2.2.1
abbrev dL_law_1581 := zr_786L.2.2.2.2.2.2.2.2.1
abbrev dL_law_1584 := zr_786L.2.2.2.2.2.2.2.2.2.1
abbrev dL_law_1585 := zr_786L.2.2.2.2.2.2.2.2.2.2.1
abbrev dL_law_1588 := zr_786L.2.2.2.2.2.2.2.2.2.2.2.1
set_option maxRecDepth 100000 in
theorem zk_787L : zck 1589 (cL_law.data.toList.drop 1589) [(1589, .aload_n 0, 1), (1590, .iload 4, 2), (1592, .iconst 1, 1), (1593, .iadd, 1), (1594, .iaload, 1), (1595, .aload_n 0, 1), (1596, .iload 4, 2), (1598, .iconst 2, 1), (1599, .iadd, 1), (1600, .iaload, 1), (1601, .aload_n 0, 1), (1602, .iload 4, 2)] = true := by decide +kernel
theorem zr_787L : decode cL_law 1589 = .ok (.aload_n 0, 1) ∧ decode cL_law 1590 = .ok (.iload 4, 2) ∧ decode cL_law 1592 = .ok (.iconst 1, 1) ∧ decode cL_law 1593 = .ok (.iadd, 1) ∧ decode cL_law 1594 = .ok (.iaload, 1) ∧ decode cL_law 1595 = .ok (.aload_n 0, 1) ∧ decode cL_law 1596 = .ok (.iload 4, 2) ∧ decode cL_law 1598 = .ok (.iconst 2, 1) ∧ decode cL_law 1599 = .ok (.iadd, 1) ∧ decode cL_law 1600 = .ok (.iaload, 1) ∧ decode cL_law 1601 = .ok (.aload_n 0, 1) ∧ decode cL_law 1602 = .ok (.iload 4, 2) ∧ True := zj_of zk_787L
abbrev dL_law_1589 := zr_787L.1
abbrev dL_law_1590 := zr_787L.2.1
abbrev dL_law_1592 := zr_787L.2.2.1
abbrev dL_law_1593 := zr_787L.2.2.2.1
abbrev dL_law_1594 := zr_787L.2.2.2.2.1
abbrev dL_law_1595 := zr_787L.2.2.2.2.2.1
abbrev dL_law_1596 := zr_787L.2.2.2.2.2.2.1
abbrev dL_law_1598 := zr_787L.2.2.2.2.2.2.2.1
abbrev dL_law_1599 := zr_787L.2.2.2.2.2.2.2.2.1
abbrev dL_law_1600 := zr_787L.2.2.2.2.2.2.2.2.2.1
abbrev dL_law_1601 := zr_787L.2.2.2.2.2.2.2.2.2.2.1
abbrev dL_law_1602 := zr_787L.2.2.2.2.2.2.2.2.2.2.2.1
set_option maxRecDepth 100000 in
theorem zk_788L : zck 1604 (cL_law.data.toList.drop 1604) [(1604, .iconst 3, 1), (1605, .iadd, 1), (1606, .iaload, 1), (1607, .aload_n 0, 1), (1608, .iload 4, 2), (1610, .iconst 4, 1), (1611, .iadd, 1), (1612, .iaload, 1), (1613, .invokevirtual 169, 3), (1616, .pop, 1), (1617, .aload_n 2, 1), (1618, .aload_n 0, 1)] = true := by decide +kernel
theorem zr_788L : decode cL_law 1604 = .ok (.iconst 3, 1) ∧ decode cL_law 1605 = .ok (.iadd, 1) ∧ decode cL_law 1606 = .ok (.iaload, 1) ∧ decode cL_law 1607 = .ok (.aload_n 0, 1) ∧ decode cL_law 1608 = .ok (.iload 4, 2) ∧ decode cL_law 1610 = .ok (.iconst 4, 1) ∧ decode cL_law 1611 = .ok (.iadd, 1) ∧ decode cL_law 1612 = .ok (.iaload, 1) ∧ decode cL_law 1613 = .ok (.invokevirtual 169, 3) ∧ decode cL_law 1616 = .ok (.pop, 1) ∧ decode cL_law 1617 = .ok (.aload_n 2, 1) ∧ decode cL_law 1618 = .ok (.aload_n 0, 1) ∧ True := zj_of zk_788L
abbrev dL_law_1604 := zr_788L.1
abbrev dL_law_1605 := zr_788L.2.1
abbrev dL_law_1606 := zr_788L.2.2.1
abbrev dL_law_1607 := zr_788L.2.2.2.1
abbrev dL_law_1608 := zr_788L.2.2.2.2.1
abbrev dL_law_1610 := zr_788L.2.2.2.2.2.1
abbrev dL_law_1611 := zr_788L.2.2.2.2.2.2.1
abbrev dL_law_1612 := zr_788L.2.2.2.2.2.2.2.1
abbrev dL_law_1613 := zr_788L.2.2.2.2.2.2.2.2.1
abbrev dL_law_1616 := zr_788L.2.2.2.2.2.2.2.2.2.1
abbrev dL_law_1617 := zr_788L.2.2.2.2.2.2.2.2.2.2.1
abbrev dL_law_1618 := zr_788L.2.2.2.2.2.2.2.2.2.2.2.1
set_option maxRecDepth 100000 in
theorem zk_789L : zck 1619 (cL_law.data.toList.drop 1619) [(1619, .iload 4, 2), (1621, .iconst 1, 1), (1622, .iadd, 1), (1623, .iaload, 1), (1624, .aload_n 0, 1), (1625, .iload 4, 2), (1627, .iconst 2, 1), (1628, .iadd, 1), (1629, .iaload, 1), (1630, .aload_n 0, 1), (1631, .iload 4, 2), (1633, .iconst 3, 1)] = true := by decide +kernel
theorem zr_789L : decode cL_law 1619 = .ok (.iload 4, 2) ∧ decode cL_law 1621 = .ok (.iconst 1, 1) ∧ decode cL_law 1622 = .ok (.iadd, 1) ∧ decode cL_law 1623 = .ok (.iaload, 1) ∧ decode cL_law 1624 = .ok (.aload_n 0, 1) ∧ decode cL_law 1625 = .ok (.iload 4, 2) ∧ decode cL_law 1627 = .ok (.iconst 2, 1) ∧ decode cL_law 1628 = .ok (.iadd, 1) ∧ decode cL_law 1629 = .ok (.iaload, 1) ∧ decode cL_law 1630 = .ok (.aload_n 0, 1) ∧ decode cL_law 1631 = .ok (.iload 4, 2) ∧ decode cL_law 1633 = .ok (.iconst 3, 1) ∧ True := zj_of zk_789L
abbrev dL_law_1619 := zr_789L.1
abbrev dL_law_1621 := zr_789L.2.1
abbrev dL_law_1622 := zr_789L.2.2.1
abbrev dL_law_1623 := zr_789L.2.2.2.1
abbrev dL_law_1624 := zr_789L.2.2.2.2.1
abbrev dL_law_1625 := zr_789L.2.2.2.2.2.1
abbrev dL_law_1627 := zr_789L.2.2.2.2.2.2.1
abbrev dL_law_1628 := zr_789L.2.2.2.2.2.2.2.1
abbrev dL_law_1629 := zr_789L.2.2.2.2.2.2.2.2.1
abbrev dL_law_1630 := zr_789L.2.2.2.2.2.2.2.2.2.1
abbrev dL_law_1631 := zr_789L.2.2.2.2.2.2.2.2.2.2.1
abbrev dL_law_1633 := zr_789L.2.2.2.2.2.2.2.2.2.2.2.1
set_option maxRecDepth 100000 in
theorem zk_790L : zck 1634 (cL_law.data.toList.drop 1634) [(1634, .iadd, 1), (1635, .iaload, 1), (1636, .aload_n 0, 1), (1637, .iload 4, 2), (1639, .iconst 4, 1), (1640, .iadd, 1), (1641, .iaload, 1), (1642, .invokevirtual 172, 3), (1645, .pop, 1), (1646, .goto 190, 3), (1649, .aload_n 1, 1), (1650, .aload_n 0, 1)] = true := by decide +kernel
theorem zr_790L : decode cL_law 1634 = .ok (.iadd, 1) ∧ decode cL_law 1635 = .ok (.iaload, 1) ∧ decode cL_law 1636 = .ok (.aload_n 0, 1) ∧ decode cL_law 1637 = .ok (.iload 4, 2) ∧ decode cL_law 1639 = .ok (.iconst 4, 1) ∧ decode cL_law 1640 = .ok (.iadd, 1) ∧ decode cL_law 1641 = .ok (.iaload, 1) ∧ decode cL_law 1642 = .ok (.invokevirtual 172, 3) ∧ decode cL_law 1645 = .ok (.pop, 1) ∧ decode cL_law 1646 = .ok (.goto 190, 3) ∧ decode cL_law 1649 = .ok (.aload_n 1, 1) ∧ decode cL_law 1650 = .ok (.aload_n 0, 1) ∧ True := zj_of zk_790L
abbrev dL_law_1634 := zr_790L.1
abbrev dL_law_1635 := zr_790L.2.1
abbrev dL_law_1636 := zr_790L.2.2.1
abbrev dL_law_1637 := zr_790L.2.2.2.1
abbrev dL_law_1639 := zr_790L.2.2.2.2.1
abbrev dL_law_1640 := zr_790L.2.2.2.2.2.1
abbrev dL_law_1641 := zr_790L.2.2.2.2.2.2.1
abbrev dL_law_1642 := zr_790L.2.2.2.2.2.2.2.1
abbrev dL_law_1645 := zr_790L.2.2.2.2.2.2.2.2.1
abbrev dL_law_1646 := zr_790L.2.2.2.2.2.2.2.2.2.1
abbrev dL_law_1649 := zr_790L.2.2.2.2.2.2.2.2.2.2.1
abbrev dL_law_1650 := zr_790L.2.2.2.2.2.2.2.2.2.2.2.1
set_option maxRecDepth 100000 in
theorem zk_791L : zck 1651 (cL_law.data.toList.drop 1651) [(1651, .iload 4, 2), (1653, .iconst 1, 1), (1654, .iadd, 1), (1655, .iaload, 1), (1656, .aload_n 0, 1), (1657, .iload 4, 2), (1659, .iconst 2, 1), (1660, .iadd, 1), (1661, .iaload, 1), (1662, .aload_n 0, 1), (1663, .iload 4, 2), (1665, .iconst 3, 1)] = true := by decide +kernel
theorem zr_791L : decode cL_law 1651 = .ok (.iload 4, 2) ∧ decode cL_law 1653 = .ok (.iconst 1, 1) ∧ decode cL_law 1654 = .ok (.iadd, 1) ∧ decode cL_law 1655 = .ok (.iaload, 1) ∧ decode cL_law 1656 = .ok (.aload_n 0, 1) ∧ decode cL_law 1657 = .ok (.iload 4, 2) ∧ decode cL_law 1659 = .ok (.iconst 2, 1) ∧ decode cL_law 1660 = .ok (.iadd, 1) ∧ decode cL_law 1661 = .ok (.iaload, 1) ∧ decode cL_law 1662 = .ok (.aload_n 0, 1) ∧ decode cL_law 1663 = .ok (.iload 4, 2) ∧ decode cL_law 1665 = .ok (.iconst 3, 1) ∧ True := zj_of zk_791L
abbrev dL_law_1651 := zr_791L.1
abbrev dL_law_1653 := zr_791L.2.1
abbrev dL_law_1654 := zr_791L.2.2.1
abbrev dL_law_1655 := zr_791L.2.2.2.1
abbrev dL_law_1656 := zr_791L.2.2.2.2.1
abbrev dL_law_1657 := zr_791L.2.2.2.2.2.1
abbrev dL_law_1659 := zr_791L.2.2.2.2.2.2.1
abbrev dL_law_1660 := zr_791L.2.2.2.2.2.2.2.1
abbrev dL_law_1661 := zr_791L.2.2.2.2.2.2.2.2.1
abbrev dL_law_1662 := zr_791L.2.2.2.2.2.2.2.2.2.1
abbrev dL_law_1663 := zr_791L.2.2.2.2.2.2.2.2.2.2.1
abbrev dL_law_1665 := zr_791L.2.2.2.2.2.2.2.2.2.2.2.1
set_option maxRecDepth 100000 in
theorem zk_792L : zck 1666 (cL_law.data.toList.drop 1666) [(1666, .iadd, 1), (1667, .iaload, 1), (1668, .aload_n 0, 1), (1669, .iload 4, 2), (1671, .iconst 4, 1), (1672, .iadd, 1), (1673, .iaload, 1), (1674, .aload_n 0, 1), (1675, .iload 4, 2), (1677, .iconst 5, 1), (1678, .iadd, 1), (1679, .iaload, 1)] = true := by decide +kernel
theorem zr_792L : decode cL_law 1666 = .ok (.iadd, 1) ∧ decode cL_law 1667 = .ok (.iaload, 1) ∧ decode cL_law 1668 = .ok (.aload_n 0, 1) ∧ decode cL_law 1669 = .ok (.iload 4, 2) ∧ decode cL_law 1671 = .ok (.iconst 4, 1) ∧ decode cL_law 1672 = .ok (.iadd, 1) ∧ decode cL_law 1673 = .ok (.iaload, 1) ∧ decode cL_law 1674 = .ok (.aload_n 0, 1) ∧ decode cL_law 1675 = .ok (.iload 4, 2) ∧ decode cL_law 1677 = .ok (.iconst 5, 1) ∧ decode cL_law 1678 = .ok (.iadd, 1) ∧ decode cL_law 1679 = .ok (.iaload, 1) ∧ True := zj_of zk_792L
abbrev dL_law_1666 := zr_792L.1
abbrev dL_law_1667 := zr_792L.2.1
abbrev dL_law_1668 := zr_792L.2.2.1
abbrev dL_law_1669 := zr_792L.2.2.2.1
abbrev dL_law_1671 := zr_792L.2.2.2.2.1
abbrev dL_law_1672 := zr_792L.2.2.2.2.2.1
abbrev dL_law_1673 := zr_792L.2.2.2.2.2.2.1
abbrev dL_law_1674 := zr_792L.2.2.2.2.2.2.2.1
abbrev dL_law_1675 := zr_792L.2.2.2.2.2.2.2.2.1
abbrev dL_law_1677 := zr_792L.2.2.2.2.2.2.2.2.2.1
abbrev dL_law_1678 := zr_792L.2.2.2.2.2.2.2.2.2.2.1
abbrev dL_law_1679 := zr_792L.2.2.2.2.2.2.2.2.2.2.2.1
set_option maxRecDepth 100000 in
theorem zk_793L : zck 1680 (cL_law.data.toList.drop 1680) [(1680, .invokevirtual 173, 3), (1683, .pop, 1), (1684, .aload_n 2, 1), (1685, .aload_n 0, 1), (1686, .iload 4, 2), (1688, .iconst 1, 1), (1689, .iadd, 1), (1690, .iaload, 1), (1691, .aload_n 0, 1), (1692, .iload 4, 2), (1694, .iconst 2, 1), (1695, .iadd, 1)] = true := by decide +kernel
theorem zr_793L : decode cL_law 1680 = .ok (.invokevirtual 173, 3) ∧ decode cL_law 1683 = .ok (.pop, 1) ∧ decode cL_law 1684 = .ok (.aload_n 2, 1) ∧ decode cL_law 1685 = .ok (.aload_n 0, 1) ∧ decode cL_law 1686 = .ok (.iload 4, 2) ∧ decode cL_law 1688 = .ok (.iconst 1, 1) ∧ decode cL_law 1689 = .ok (.iadd, 1) ∧ decode cL_law 1690 = .ok (.iaload, 1) ∧ decode cL_law 1691 = .ok (.aload_n 0, 1) ∧ decode cL_law 1692 = .ok (.iload 4, 2) ∧ decode cL_law 1694 = .ok (.iconst 2, 1) ∧ decode cL_law 1695 = .ok (.iadd, 1) ∧ True := zj_of zk_793L
abbrev dL_law_1680 := zr_793L.1
abbrev dL_law_1683 := zr_793L.2.1
abbrev dL_law_1684 := zr_793L.2.2.1
abbrev dL_law_1685 := zr_793L.2.2.2.1
abbrev dL_law_1686 := zr_793L.2.2.2.2.1
abbrev dL_law_1688 := zr_793L.2.2.2.2.2.1
abbrev dL_law_1689 := zr_793L.2.2.2.2.2.2.1
abbrev dL_law_1690 := zr_793L.2.2.2.2.2.2.2.1
abbrev dL_law_1691 := zr_793L.2.2.2.2.2.2.2.2.1
abbrev dL_law_1692 := zr_793L.2.2.2.2.2.2.2.2.2.1
abbrev dL_law_1694 := zr_793L.2.2.2.2.2.2.2.2.2.2.1
abbrev dL_law_1695 := zr_793L.2.2.2.2.2.2.2.2.2.2.2.1
set_option maxRecDepth 100000 in
theorem zk_794L : zck 1696 (cL_law.data.toList.drop 1696) [(1696, .iaload, 1), (1697, .aload_n 0, 1), (1698, .iload 4, 2), (1700, .iconst 3, 1), (1701, .iadd, 1), (1702, .iaload, 1), (1703, .aload_n 0, 1), (1704, .iload 4, 2), (1706, .iconst 4, 1), (1707, .iadd, 1), (1708, .iaload, 1), (1709, .aload_n 0, 1)] = true := by decide +kernel
theorem zr_794L : decode cL_law 1696 = .ok (.iaload, 1) ∧ decode cL_law 1697 = .ok (.aload_n 0, 1) ∧ decode cL_law 1698 = .ok (.iload 4, 2) ∧ decode cL_law 1700 = .ok (.iconst 3, 1) ∧ decode cL_law 1701 = .ok (.iadd, 1) ∧ decode cL_law 1702 = .ok (.iaload, 1) ∧ decode cL_law 1703 = .ok (.aload_n 0, 1) ∧ decode cL_law 1704 = .ok (.iload 4, 2) ∧ decode cL_law 1706 = .ok (.iconst 4, 1) ∧ decode cL_law 1707 = .ok (.iadd, 1) ∧ decode cL_law 1708 = .ok (.iaload, 1) ∧ decode cL_law 1709 = .ok (.aload_n 0, 1) ∧ True := zj_of zk_794L
abbrev dL_law_1696 := zr_794L.1
abbrev dL_law_1697 := zr_794L.2.1
abbrev dL_law_1698 := zr_794L.2.2.1
abbrev dL_law_1700 := zr_794L.2.2.2.1
abbrev dL_law_1701 := zr_794L.2.2.2.2.1
abbrev dL_law_1702 := zr_794L.2.2.2.2.2.1
abbrev dL_law_1703 := zr_794L.2.2.2.2.2.2.1
abbrev dL_law_1704 := zr_794L.2.2.2.2.2.2.2.1
abbrev dL_law_1706 := zr_794L.2.2.2.2.2.2.2.2.1
abbrev dL_law_1707 := zr_794L.2.2.2.2.2.2.2.2.2.1
abbrev dL_law_1708 := zr_794L.2.2.2.2.2.2.2.2.2.2.1
abbrev dL_law_1709 := zr_794L.2.2.2.2.2.2.2.2.2.2.2.1
set_option maxRecDepth 100000 in
theorem zk_795L : zck 1710 (cL_law.data.toList.drop 1710) [(1710, .iload 4, 2), (1712, .iconst 5, 1), (1713, .iadd, 1), (1714, .iaload, 1), (1715, .invokevirtual 177, 3), (1718, .pop, 1), (1719, .goto 117, 3), (1722, .aload_n 1, 1), (1723, .aload_n 0, 1), (1724, .iload 4, 2), (1726, .iconst 1, 1), (1727, .iadd, 1)] = true := by decide +kernel
theorem zr_795L : decode cL_law 1710 = .ok (.iload 4, 2) ∧ decode cL_law 1712 = .ok (.iconst 5, 1) ∧ decode cL_law 1713 = .ok (.iadd, 1) ∧ decode cL_law 1714 = .ok (.iaload, 1) ∧ decode cL_law 1715 = .ok (.invokevirtual 177, 3) ∧ decode cL_law 1718 = .ok (.pop, 1) ∧ decode cL_law 1719 = .ok (.goto 117, 3) ∧ decode cL_law 1722 = .ok (.aload_n 1, 1) ∧ decode cL_law 1723 = .ok (.aload_n 0, 1) ∧ decode cL_law 1724 = .ok (.iload 4, 2) ∧ decode cL_law 1726 = .ok (.iconst 1, 1) ∧ decode cL_law 1727 = .ok (.iadd, 1) ∧ True := zj_of zk_795L
abbrev dL_law_1710 := zr_795L.1
abbrev dL_law_1712 := zr_795L.2.1
abbrev dL_law_1713 := zr_795L.2.2.1
abbrev dL_law_1714 := zr_795L.2.2.2.1
abbrev dL_law_1715 := zr_795L.2.2.2.2.1
abbrev dL_law_1718 := zr_795L.2.2.2.2.2.1
abbrev dL_law_1719 := zr_795L.2.2.2.2.2.2.1
abbrev dL_law_1722 := zr_795L.2.2.2.2.2.2.2.1
abbrev dL_law_1723 := zr_795L.2.2.2.2.2.2.2.2.1
abbrev dL_law_1724 := zr_795L.2.2.2.2.2.2.2.2.2.1
abbrev dL_law_1726 := zr_795L.2.2.2.2.2.2.2.2.2.2.1
abbrev dL_law_1727 := zr_795L.2.2.2.2.2.2.2.2.2.2.2.1
set_option maxRecDepth 100000 in
theorem zk_796L : zck 1728 (cL_law.data.toList.drop 1728) [(1728, .iaload, 1), (1729, .aload_n 0, 1), (1730, .iload 4, 2), (1732, .iconst 2, 1), (1733, .iadd, 1), (1734, .iaload, 1), (1735, .aload_n 0, 1), (1736, .iload 4, 2), (1738, .iconst 3, 1), (1739, .iadd, 1), (1740, .iaload, 1), (1741, .aload_n 0, 1)] = true := by decide +kernel
theorem zr_796L : decode cL_law 1728 = .ok (.iaload, 1) ∧ decode cL_law 1729 = .ok (.aload_n 0, 1) ∧ decode cL_law 1730 = .ok (.iload 4, 2) ∧ decode cL_law 1732 = .ok (.iconst 2, 1) ∧ decode cL_law 1733 = .ok (.iadd, 1) ∧ decode cL_law 1734 = .ok (.iaload, 1) ∧ decode cL_law 1735 = .ok (.aload_n 0, 1) ∧ decode cL_law 1736 = .ok (.iload 4, 2) ∧ decode cL_law 1738 = .ok (.iconst 3, 1) ∧ decode cL_law 1739 = .ok (.iadd, 1) ∧ decode cL_law 1740 = .ok (.iaload, 1) ∧ decode cL_law 1741 = .ok (.aload_n 0, 1) ∧ True := zj_of zk_796L
abbrev dL_law_1728 := zr_796L.1
abbrev dL_law_1729 := zr_796L.2.1
abbrev dL_law_1730 := zr_796L.2.2.1
abbrev dL_law_1732 := zr_796L.2.2.2.1
abbrev dL_law_1733 := zr_796L.2.2.2.2.1
abbrev dL_law_1734 := zr_796L.2.2.2.2.2.1
abbrev dL_law_1735 := zr_796L.2.2.2.2.2.2.1
abbrev dL_law_1736 := zr_796L.2.2.2.2.2.2.2.1
abbrev dL_law_1738 := zr_796L.2.2.2.2.2.2.2.2.1
abbrev dL_law_1739 := zr_796L.2.2.2.2.2.2.2.2.2.1
abbrev dL_law_1740 := zr_796L.2.2.2.2.2.2.2.2.2.2.1
abbrev dL_law_1741 := zr_796L.2.2.2.2.2.2.2.2.2.2.2.1
set_option maxRecDepth 100000 in
theorem zk_797L : zck 1742 (cL_law.data.toList.drop 1742) [(1742, .iload 4, 2), (1744, .iconst 4, 1), (1745, .iadd, 1), (1746, .iaload, 1), (1747, .invokevirtual 178, 3), (1750, .pop, 1), (1751, .aload_n 2, 1), (1752, .aload_n 0, 1), (1753, .iload 4, 2), (1755, .iconst 1, 1), (1756, .iadd, 1), (1757, .iaload, 1)] = true := by decide +kernel
theorem zr_797L : decode cL_law 1742 = .ok (.iload 4, 2) ∧ decode cL_law 1744 = .ok (.iconst 4, 1) ∧ decode cL_law 1745 = .ok (.iadd, 1) ∧ decode cL_law 1746 = .ok (.iaload, 1) ∧ decode cL_law 1747 = .ok (.invokevirtual 178, 3) ∧ decode cL_law 1750 = .ok (.pop, 1) ∧ decode cL_law 1751 = .ok (.aload_n 2, 1) ∧ decode cL_law 1752 = .ok (.aload_n 0, 1) ∧ decode cL_law 1753 = .ok (.iload 4, 2) ∧ decode cL_law 1755 = .ok (.iconst 1, 1) ∧ decode cL_law 1756 = .ok (.iadd, 1) ∧ decode cL_law 1757 = .ok (.iaload, 1) ∧ True := zj_of zk_797L
abbrev dL_law_1742 := zr_797L.1
abbrev dL_law_1744 := zr_797L.2.1
abbrev dL_law_1745 := zr_797L.2.2.1
abbrev dL_law_1746 := zr_797L.2.2.2.1
abbrev dL_law_1747 := zr_797L.2.2.2.2.1
abbrev dL_law_1750 := zr_797L.2.2.2.2.2.1
abbrev dL_law_1751 := zr_797L.2.2.2.2.2.2.1
abbrev dL_law_1752 := zr_797L.2.2.2.2.2.2.2.1
abbrev dL_law_1753 := zr_797L.2.2.2.2.2.2.2.2.1
abbrev dL_law_1755 := zr_797L.2.2.2.2.2.2.2.2.2.1
abbrev dL_law_1756 := zr_797L.2.2.2.2.2.2.2.2.2.2.1
abbrev dL_law_1757 := zr_797L.2.2.2.2.2.2.2.2.2.2.2.1
set_option maxRecDepth 100000 in
theorem zk_798L : zck 1758 (cL_law.data.toList.drop 1758) [(1758, .aload_n 0, 1), (1759, .iload 4, 2), (1761, .iconst 2, 1), (1762, .iadd, 1), (1763, .iaload, 1), (1764, .aload_n 0, 1), (1765, .iload 4, 2), (1767, .iconst 3, 1), (1768, .iadd, 1), (1769, .iaload, 1), (1770, .aload_n 0, 1), (1771, .iload 4, 2)] = true := by decide +kernel
theorem zr_798L : decode cL_law 1758 = .ok (.aload_n 0, 1) ∧ decode cL_law 1759 = .ok (.iload 4, 2) ∧ decode cL_law 1761 = .ok (.iconst 2, 1) ∧ decode cL_law 1762 = .ok (.iadd, 1) ∧ decode cL_law 1763 = .ok (.iaload, 1) ∧ decode cL_law 1764 = .ok (.aload_n 0, 1) ∧ decode cL_law 1765 = .ok (.iload 4, 2) ∧ decode cL_law 1767 = .ok (.iconst 3, 1) ∧ decode cL_law 1768 = .ok (.iadd, 1) ∧ decode cL_law 1769 = .ok (.iaload, 1) ∧ decode cL_law 1770 = .ok (.aload_n 0, 1) ∧ decode cL_law 1771 = .ok (.iload 4, 2) ∧ True := zj_of zk_798L
abbrev dL_law_1758 := zr_798L.1
abbrev dL_law_1759 := zr_798L.2.1
abbrev dL_law_1761 := zr_798L.2.2.1
abbrev dL_law_1762 := zr_798L.2.2.2.1
abbrev dL_law_1763 := zr_798L.2.2.2.2.1
abbrev dL_law_1764 := zr_798L.2.2.2.2.2.1
abbrev dL_law_1765 := zr_798L.2.2.2.2.2.2.1
abbrev dL_law_1767 := zr_798L.2.2.2.2.2.2.2.1
abbrev dL_law_1768 := zr_798L.2.2.2.2.2.2.2.2.1
abbrev dL_law_1769 := zr_798L.2.2.2.2.2.2.2.2.2.1
abbrev dL_law_1770 := zr_798L.2.2.2.2.2.2.2.2.2.2.1
abbrev dL_law_1771 := zr_798L.2.2.2.2.2.2.2.2.2.2.2.1
set_option maxRecDepth 100000 in
theorem zk_799L : zck 1773 (cL_law.data.toList.drop 1773) [(1773, .iconst 4, 1), (1774, .iadd, 1), (1775, .iaload, 1), (1776, .invokevirtual 181, 3), (1779, .pop, 1), (1780, .goto 56, 3), (1783, .aload_n 1, 1), (1784, .aload_n 0, 1), (1785, .iload 4, 2), (1787, .iconst 1, 1), (1788, .iadd, 1), (1789, .iaload, 1)] = true := by decide +kernel
theorem zr_799L : decode cL_law 1773 = .ok (.iconst 4, 1) ∧ decode cL_law 1774 = .ok (.iadd, 1) ∧ decode cL_law 1775 = .ok (.iaload, 1) ∧ decode cL_law 1776 = .ok (.invokevirtual 181, 3) ∧ decode cL_law 1779 = .ok (.pop, 1) ∧ decode cL_law 1780 = .ok (.goto 56, 3) ∧ decode cL_law 1783 = .ok (.aload_n 1, 1) ∧ decode cL_law 1784 = .ok (.aload_n 0, 1) ∧ decode cL_law 1785 = .ok (.iload 4, 2) ∧ decode cL_law 1787 = .ok (.iconst 1, 1) ∧ decode cL_law 1788 = .ok (.iadd, 1) ∧ decode cL_law 1789 = .ok (.iaload, 1) ∧ True := zj_of zk_799L
abbrev dL_law_1773 := zr_799L.1
abbrev dL_law_1774 := zr_799L.2.1
abbrev dL_law_1775 := zr_799L.2.2.1
abbrev dL_law_1776 := zr_799L.2.2.2.1
abbrev dL_law_1779 := zr_799L.2.2.2.2.1
abbrev dL_law_1780 := zr_799L.2.2.2.2.2.1
abbrev dL_law_1783 := zr_799L.2.2.2.2.2.2.1
abbrev dL_law_1784 := zr_799L.2.2.2.2.2.2.2.1
abbrev dL_law_1785 := zr_799L.2.2.2.2.2.2.2.2.1
abbrev dL_law_1787 := zr_799L.2.2.2.2.2.2.2.2.2.1
abbrev dL_law_1788 := zr_799L.2.2.2.2.2.2.2.2.2.2.1
abbrev dL_law_1789 := zr_799L.2.2.2.2.2.2.2.2.2.2.2.1
set_option maxRecDepth 100000 in
theorem zk_800L : zck 1790 (cL_law.data.toList.drop 1790) [(1790, .invokevirtual 182, 3), (1793, .aload_n 2, 1), (1794, .aload_n 0, 1), (1795, .iload 4, 2)] = true := by decide +kernel
theorem zr_800L : decode cL_law 1790 = .ok (.invokevirtual 182, 3) ∧ decode cL_law 1793 = .ok (.aload_n 2, 1) ∧ decode cL_law 1794 = .ok (.aload_n 0, 1) ∧ decode cL_law 1795 = .ok (.iload 4, 2) ∧ True := zj_of zk_800L
abbrev dL_law_1790 := zr_800L.1
abbrev dL_law_1793 := zr_800L.2.1
abbrev dL_law_1794 := zr_800L.2.2.1
abbrev dL_law_1795 := zr_800L.2.2.2.1
