/-! the words of the law -/
theorem w_1291 : Cond.classLink "SpiritWallLaw" 13 "java/lang/IndexOutOfBoundsException" ∈ gw := gw_t 1073 (by decide +kernel) rfl
theorem w_1292 : Cond.methodLink "SpiritWallLaw" 7 yX10_estimate ∈ gw := gw_t 1074 (by decide +kernel) rfl
theorem w_1293 : Cond.instanceMethod yX10_estimate ∈ gw := gw_t 1075 (by decide +kernel) rfl
theorem w_1294 : Cond.selects "SpiritWall" yX10_estimate yX10_estimate ∈ gw := gw_t 1076 (by decide +kernel) rfl
theorem w_1295 : Cond.code yX10_estimate cX10_estimate 3 (some .int) ∈ gw := gw_t 1077 (by decide +kernel) rfl
theorem w_1296 : Cond.classLink "SpiritWallLaw" 18 "java/lang/IllegalArgumentException" ∈ gw := gw_t 1154 (by decide +kernel) rfl
theorem w_1297 : Cond.methodLink "SpiritWallLaw" 15 yX10_mark ∈ gw := gw_t 1155 (by decide +kernel) rfl
theorem w_1298 : Cond.instanceMethod yX10_mark ∈ gw := gw_t 1156 (by decide +kernel) rfl
theorem w_1299 : Cond.selects "SpiritWall" yX10_mark yX10_mark ∈ gw := gw_t 1157 (by decide +kernel) rfl
theorem w_1300 : Cond.code yX10_mark cX10_mark 3 (some .int) ∈ gw := gw_t 1158 (by decide +kernel) rfl
theorem w_1301 : Cond.methodLink "SpiritWallLaw" 20 yX10_height ∈ gw := gw_t 1188 (by decide +kernel) rfl
theorem w_1302 : Cond.instanceMethod yX10_height ∈ gw := gw_t 1189 (by decide +kernel) rfl
theorem w_1303 : Cond.selects "SpiritWall" yX10_height yX10_height ∈ gw := gw_t 1190 (by decide +kernel) rfl
theorem w_1304 : Cond.code yX10_height cX10_height 2 (some .int) ∈ gw := gw_t 1191 (by decide +kernel) rfl
theorem w_1305 : Cond.methodLink "SpiritWallLaw" 24 yX10_whyNone ∈ gw := gw_t 1195 (by decide +kernel) rfl
theorem w_1306 : Cond.instanceMethod yX10_whyNone ∈ gw := gw_t 1196 (by decide +kernel) rfl
theorem w_1307 : Cond.selects "SpiritWall" yX10_whyNone yX10_whyNone ∈ gw := gw_t 1197 (by decide +kernel) rfl
theorem w_1308 : Cond.code yX10_whyNone cX10_whyNone 2 (some .int) ∈ gw := gw_t 1198 (by decide +kernel) rfl
theorem w_1309 : Cond.methodLink "SpiritWallLaw" 27 yX10_sight ∈ gw := gw_t 1207 (by decide +kernel) rfl
theorem w_1310 : Cond.instanceMethod yX10_sight ∈ gw := gw_t 1208 (by decide +kernel) rfl
theorem w_1311 : Cond.selects "SpiritWall" yX10_sight yX10_sight ∈ gw := gw_t 1209 (by decide +kernel) rfl
theorem w_1312 : Cond.code yX10_sight cX10_sight 3 (some .int) ∈ gw := gw_t 1210 (by decide +kernel) rfl
theorem w_1313 : Cond.methodLink "SpiritWallLaw" 30 yX10_rise ∈ gw := gw_t 1223 (by decide +kernel) rfl
theorem w_1314 : Cond.instanceMethod yX10_rise ∈ gw := gw_t 1224 (by decide +kernel) rfl
theorem w_1315 : Cond.selects "SpiritWall" yX10_rise yX10_rise ∈ gw := gw_t 1225 (by decide +kernel) rfl
theorem w_1316 : Cond.code yX10_rise cX10_rise 4 (some .int) ∈ gw := gw_t 1226 (by decide +kernel) rfl
theorem w_1317 : Cond.methodLink "SpiritWallLaw" 33 yX10_edge ∈ gw := gw_t 1232 (by decide +kernel) rfl
theorem w_1318 : Cond.instanceMethod yX10_edge ∈ gw := gw_t 1233 (by decide +kernel) rfl
theorem w_1319 : Cond.selects "SpiritWall" yX10_edge yX10_edge ∈ gw := gw_t 1234 (by decide +kernel) rfl
theorem w_1320 : Cond.code yX10_edge cX10_edge 5 (some .int) ∈ gw := gw_t 1235 (by decide +kernel) rfl
theorem w_1321 : Cond.methodLink "SpiritWallLaw" 37 yX10_along ∈ gw := gw_t 1252 (by decide +kernel) rfl
theorem w_1322 : Cond.instanceMethod yX10_along ∈ gw := gw_t 1253 (by decide +kernel) rfl
theorem w_1323 : Cond.selects "SpiritWall" yX10_along yX10_along ∈ gw := gw_t 1254 (by decide +kernel) rfl
theorem w_1324 : Cond.code yX10_along cX10_along 3 (some .int) ∈ gw := gw_t 1255 (by decide +kernel) rfl
theorem w_1325 : Cond.methodLink "SpiritWallLaw" 40 yX10_loop ∈ gw := gw_t 1260 (by decide +kernel) rfl
theorem w_1326 : Cond.instanceMethod yX10_loop ∈ gw := gw_t 1261 (by decide +kernel) rfl
theorem w_1327 : Cond.selects "SpiritWall" yX10_loop yX10_loop ∈ gw := gw_t 1262 (by decide +kernel) rfl
theorem w_1328 : Cond.code yX10_loop cX10_loop 3 (some .int) ∈ gw := gw_t 1263 (by decide +kernel) rfl
theorem w_1329 : Cond.methodLink "SpiritWallLaw" 43 yX10_loopMark ∈ gw := gw_t 1274 (by decide +kernel) rfl
theorem w_1330 : Cond.instanceMethod yX10_loopMark ∈ gw := gw_t 1275 (by decide +kernel) rfl
theorem w_1331 : Cond.selects "SpiritWall" yX10_loopMark yX10_loopMark ∈ gw := gw_t 1276 (by decide +kernel) rfl
theorem w_1332 : Cond.code yX10_loopMark cX10_loopMark 3 (some .int) ∈ gw := gw_t 1277 (by decide +kernel) rfl
theorem w_1333 : Cond.methodLink "SpiritWallLaw" 46 yX10_tension ∈ gw := gw_t 1281 (by decide +kernel) rfl
theorem w_1334 : Cond.instanceMethod yX10_tension ∈ gw := gw_t 1282 (by decide +kernel) rfl
theorem w_1335 : Cond.selects "SpiritWall" yX10_tension yX10_tension ∈ gw := gw_t 1283 (by decide +kernel) rfl
theorem w_1336 : Cond.code yX10_tension cX10_tension 2 (some .int) ∈ gw := gw_t 1284 (by decide +kernel) rfl
theorem w_1337 : Cond.methodLink "SpiritWallLaw" 49 yX10_neighbour ∈ gw := gw_t 1288 (by decide +kernel) rfl
theorem w_1338 : Cond.instanceMethod yX10_neighbour ∈ gw := gw_t 1289 (by decide +kernel) rfl
theorem w_1339 : Cond.selects "SpiritWall" yX10_neighbour yX10_neighbour ∈ gw := gw_t 1290 (by decide +kernel) rfl
theorem w_1340 : Cond.code yX10_neighbour cX10_neighbour 5 (some .int) ∈ gw := gw_t 1291 (by decide +kernel) rfl
theorem w_1341 : Cond.methodLink "SpiritWallLaw" 52 yX10_loopsOf ∈ gw := gw_t 1295 (by decide +kernel) rfl
theorem w_1342 : Cond.instanceMethod yX10_loopsOf ∈ gw := gw_t 1296 (by decide +kernel) rfl
theorem w_1343 : Cond.selects "SpiritWall" yX10_loopsOf yX10_loopsOf ∈ gw := gw_t 1297 (by decide +kernel) rfl
theorem w_1344 : Cond.code yX10_loopsOf cX10_loopsOf 2 (some .int) ∈ gw := gw_t 1298 (by decide +kernel) rfl
theorem w_1345 : Cond.methodLink "SpiritWallLaw" 55 yX10_closedIf ∈ gw := gw_t 1306 (by decide +kernel) rfl
theorem w_1346 : Cond.instanceMethod yX10_closedIf ∈ gw := gw_t 1307 (by decide +kernel) rfl
theorem w_1347 : Cond.selects "SpiritWall" yX10_closedIf yX10_closedIf ∈ gw := gw_t 1308 (by decide +kernel) rfl
theorem w_1348 : Cond.code yX10_closedIf cX10_closedIf 2 (some .int) ∈ gw := gw_t 1309 (by decide +kernel) rfl
theorem w_1349 : Cond.methodLink "SpiritWallLaw" 58 yX10_errorWith ∈ gw := gw_t 1313 (by decide +kernel) rfl
theorem w_1350 : Cond.instanceMethod yX10_errorWith ∈ gw := gw_t 1314 (by decide +kernel) rfl
theorem w_1351 : Cond.selects "SpiritWall" yX10_errorWith yX10_errorWith ∈ gw := gw_t 1315 (by decide +kernel) rfl
theorem w_1352 : Cond.code yX10_errorWith cX10_errorWith 2 (some .int) ∈ gw := gw_t 1316 (by decide +kernel) rfl
theorem w_1353 : Cond.methodLink "SpiritWallLaw" 61 yX10_misfitAfter ∈ gw := gw_t 1326 (by decide +kernel) rfl
theorem w_1354 : Cond.instanceMethod yX10_misfitAfter ∈ gw := gw_t 1327 (by decide +kernel) rfl
theorem w_1355 : Cond.selects "SpiritWall" yX10_misfitAfter yX10_misfitAfter ∈ gw := gw_t 1328 (by decide +kernel) rfl
theorem w_1356 : Cond.code yX10_misfitAfter cX10_misfitAfter 2 (some .long) ∈ gw := gw_t 1329 (by decide +kernel) rfl
theorem w_1357 : Cond.methodLink "SpiritWallLaw" 65 yX10_heightIf ∈ gw := gw_t 1348 (by decide +kernel) rfl
theorem w_1358 : Cond.instanceMethod yX10_heightIf ∈ gw := gw_t 1349 (by decide +kernel) rfl
theorem w_1359 : Cond.selects "SpiritWall" yX10_heightIf yX10_heightIf ∈ gw := gw_t 1350 (by decide +kernel) rfl
theorem w_1360 : Cond.code yX10_heightIf cX10_heightIf 2 (some .int) ∈ gw := gw_t 1351 (by decide +kernel) rfl
theorem w_1361 : Cond.classLink "SpiritWallLaw" 72 "java/lang/IllegalStateException" ∈ gw := gw_t 1355 (by decide +kernel) rfl
theorem w_1362 : Cond.methodLink "SpiritWallLaw" 68 yX10_addSight ∈ gw := gw_t 1356 (by decide +kernel) rfl
theorem w_1363 : Cond.instanceMethod yX10_addSight ∈ gw := gw_t 1357 (by decide +kernel) rfl
theorem w_1364 : Cond.selects "SpiritWall" yX10_addSight yX10_addSight ∈ gw := gw_t 1358 (by decide +kernel) rfl
theorem w_1365 : Cond.code yX10_addSight cX10_addSight 6 (some .int) ∈ gw := gw_t 1359 (by decide +kernel) rfl
theorem w_1366 : Cond.methodLink "SpiritWallLaw" 74 yX10_strike ∈ gw := gw_t 1381 (by decide +kernel) rfl
theorem w_1367 : Cond.instanceMethod yX10_strike ∈ gw := gw_t 1382 (by decide +kernel) rfl
theorem w_1368 : Cond.selects "SpiritWall" yX10_strike yX10_strike ∈ gw := gw_t 1383 (by decide +kernel) rfl
theorem w_1369 : Cond.code yX10_strike cX10_strike 4 (some .boolean) ∈ gw := gw_t 1384 (by decide +kernel) rfl
theorem w_1370 : Cond.methodLink "SpiritWallLaw" 78 yX10_swap ∈ gw := gw_t 1388 (by decide +kernel) rfl
theorem w_1371 : Cond.instanceMethod yX10_swap ∈ gw := gw_t 1389 (by decide +kernel) rfl
theorem w_1372 : Cond.selects "SpiritWall" yX10_swap yX10_swap ∈ gw := gw_t 1390 (by decide +kernel) rfl
theorem w_1373 : Cond.code yX10_swap cX10_swap 4 (some .int) ∈ gw := gw_t 1391 (by decide +kernel) rfl
theorem w_1374 : Cond.methodLink "SpiritWallLaw" 81 yX10_fix ∈ gw := gw_t 1395 (by decide +kernel) rfl
theorem w_1375 : Cond.instanceMethod yX10_fix ∈ gw := gw_t 1396 (by decide +kernel) rfl
theorem w_1376 : Cond.selects "SpiritWall" yX10_fix yX10_fix ∈ gw := gw_t 1397 (by decide +kernel) rfl
theorem w_1377 : Cond.code yX10_fix cX10_fix 4 (some .boolean) ∈ gw := gw_t 1398 (by decide +kernel) rfl
theorem w_1378 : Cond.methodLink "SpiritWallLaw" 85 yX10_free ∈ gw := gw_t 1405 (by decide +kernel) rfl
theorem w_1379 : Cond.instanceMethod yX10_free ∈ gw := gw_t 1406 (by decide +kernel) rfl
theorem w_1380 : Cond.selects "SpiritWall" yX10_free yX10_free ∈ gw := gw_t 1407 (by decide +kernel) rfl
theorem w_1381 : Cond.code yX10_free cX10_free 2 (some .int) ∈ gw := gw_t 1408 (by decide +kernel) rfl
theorem w_1382 : Cond.methodLink "SpiritWallLaw" 88 yX10_relax ∈ gw := gw_t 1413 (by decide +kernel) rfl
theorem w_1383 : Cond.instanceMethod yX10_relax ∈ gw := gw_t 1414 (by decide +kernel) rfl
theorem w_1384 : Cond.selects "SpiritWall" yX10_relax yX10_relax ∈ gw := gw_t 1415 (by decide +kernel) rfl
theorem w_1385 : Cond.code yX10_relax cX10_relax 2 (some .int) ∈ gw := gw_t 1416 (by decide +kernel) rfl
theorem w_1386 : Cond.methodLink "SpiritWallLaw" 91 yX10_tellError ∈ gw := gw_t 1420 (by decide +kernel) rfl
theorem w_1387 : Cond.instanceMethod yX10_tellError ∈ gw := gw_t 1421 (by decide +kernel) rfl
theorem w_1388 : Cond.selects "SpiritWall" yX10_tellError yX10_tellError ∈ gw := gw_t 1422 (by decide +kernel) rfl
theorem w_1389 : Cond.code yX10_tellError cX10_tellError 3 (some .int) ∈ gw := gw_t 1423 (by decide +kernel) rfl
theorem w_1390 : Cond.methodLink "SpiritWallLaw" 94 yX10_set ∈ gw := gw_t 1427 (by decide +kernel) rfl
theorem w_1391 : Cond.instanceMethod yX10_set ∈ gw := gw_t 1428 (by decide +kernel) rfl
theorem w_1392 : Cond.selects "SpiritWall" yX10_set yX10_set ∈ gw := gw_t 1429 (by decide +kernel) rfl
theorem w_1393 : Cond.code yX10_set cX10_set 4 (some .int) ∈ gw := gw_t 1430 (by decide +kernel) rfl
theorem w_1394 : Cond.methodLink "SpiritWallLaw" 97 yX10_undo ∈ gw := gw_t 1434 (by decide +kernel) rfl
theorem w_1395 : Cond.instanceMethod yX10_undo ∈ gw := gw_t 1435 (by decide +kernel) rfl
theorem w_1396 : Cond.selects "SpiritWall" yX10_undo yX10_undo ∈ gw := gw_t 1436 (by decide +kernel) rfl
theorem w_1397 : Cond.code yX10_undo cX10_undo 1 (some .int) ∈ gw := gw_t 1437 (by decide +kernel) rfl
theorem w_1398 : Cond.methodLink "SpiritWallLaw" 101 yX10_printLoop ∈ gw := gw_t 1446 (by decide +kernel) rfl
theorem w_1399 : Cond.instanceMethod yX10_printLoop ∈ gw := gw_t 1447 (by decide +kernel) rfl
theorem w_1400 : Cond.selects "SpiritWall" yX10_printLoop yX10_printLoop ∈ gw := gw_t 1448 (by decide +kernel) rfl
theorem w_1401 : Cond.code yX10_printLoop cX10_printLoop 4 (some .int) ∈ gw := gw_t 1449 (by decide +kernel) rfl
theorem w_1402 : Cond.methodLink "SpiritWallLaw" 104 yX10_printSight ∈ gw := gw_t 1453 (by decide +kernel) rfl
theorem w_1403 : Cond.instanceMethod yX10_printSight ∈ gw := gw_t 1454 (by decide +kernel) rfl
theorem w_1404 : Cond.selects "SpiritWall" yX10_printSight yX10_printSight ∈ gw := gw_t 1455 (by decide +kernel) rfl
theorem w_1405 : Cond.code yX10_printSight cX10_printSight 2 (some .int) ∈ gw := gw_t 1456 (by decide +kernel) rfl
theorem w_1406 : Cond.methodLink "SpiritWallLaw" 107 yX10_restoreState ∈ gw := gw_t 1471 (by decide +kernel) rfl
theorem w_1407 : Cond.instanceMethod yX10_restoreState ∈ gw := gw_t 1472 (by decide +kernel) rfl
theorem w_1408 : Cond.selects "SpiritWall" yX10_restoreState yX10_restoreState ∈ gw := gw_t 1473 (by decide +kernel) rfl
theorem w_1409 : Cond.code yX10_restoreState cX10_restoreState 1 (some .int) ∈ gw := gw_t 1474 (by decide +kernel) rfl
theorem w_1410 : Cond.methodLink "SpiritWallLaw" 114 yX10_feed ∈ gw := gw_t 514 (by decide +kernel) rfl
theorem w_1411 : Cond.code yX10_feed cX10_feed 6 (some .int) ∈ gw := gw_t 517 (by decide +kernel) rfl
theorem w_1412 : Cond.instanceMethod yX10_feed ∈ gw := gw_t 515 (by decide +kernel) rfl
theorem w_1413 : Cond.selects "SpiritWall" yX10_feed yX10_feed ∈ gw := gw_t 516 (by decide +kernel) rfl
theorem w_1414 : Cond.methodLink "SpiritWallLaw" 117 yX11_feed ∈ gw := gw_t 2095 (by decide +kernel) rfl
theorem w_1415 : Cond.code yX11_feed cX11_feed 8 (some .int) ∈ gw := gw_t 2098 (by decide +kernel) rfl
theorem w_1416 : Cond.instanceMethod yX11_feed ∈ gw := gw_t 2096 (by decide +kernel) rfl
theorem w_1417 : Cond.selects "SpiritWallModel" yX11_feed yX11_feed ∈ gw := gw_t 2097 (by decide +kernel) rfl
theorem w_1418 : Cond.methodLink "SpiritWallLaw" 118 yX10_truncate ∈ gw := gw_t 529 (by decide +kernel) rfl
theorem w_1419 : Cond.code yX10_truncate cX10_truncate 2 (some .boolean) ∈ gw := gw_t 532 (by decide +kernel) rfl
theorem w_1420 : Cond.instanceMethod yX10_truncate ∈ gw := gw_t 530 (by decide +kernel) rfl
theorem w_1421 : Cond.selects "SpiritWall" yX10_truncate yX10_truncate ∈ gw := gw_t 531 (by decide +kernel) rfl
theorem w_1422 : Cond.methodLink "SpiritWallLaw" 122 yX11_truncate ∈ gw := gw_t 2099 (by decide +kernel) rfl
theorem w_1423 : Cond.code yX11_truncate cX11_truncate 2 (some .boolean) ∈ gw := gw_t 2102 (by decide +kernel) rfl
theorem w_1424 : Cond.instanceMethod yX11_truncate ∈ gw := gw_t 2100 (by decide +kernel) rfl
theorem w_1425 : Cond.selects "SpiritWallModel" yX11_truncate yX11_truncate ∈ gw := gw_t 2101 (by decide +kernel) rfl
theorem w_1426 : Cond.methodLink "SpiritWallLaw" 123 yX10_parse ∈ gw := gw_t 533 (by decide +kernel) rfl
theorem w_1427 : Cond.code yX10_parse cX10_parse 2 (some .int) ∈ gw := gw_t 536 (by decide +kernel) rfl
theorem w_1428 : Cond.instanceMethod yX10_parse ∈ gw := gw_t 534 (by decide +kernel) rfl
theorem w_1429 : Cond.selects "SpiritWall" yX10_parse yX10_parse ∈ gw := gw_t 535 (by decide +kernel) rfl
theorem w_1430 : Cond.methodLink "SpiritWallLaw" 126 yX11_parse ∈ gw := gw_t 2117 (by decide +kernel) rfl
theorem w_1431 : Cond.code yX11_parse cX11_parse 1 (some .int) ∈ gw := gw_t 2120 (by decide +kernel) rfl
theorem w_1432 : Cond.instanceMethod yX11_parse ∈ gw := gw_t 2118 (by decide +kernel) rfl
theorem w_1433 : Cond.selects "SpiritWallModel" yX11_parse yX11_parse ∈ gw := gw_t 2119 (by decide +kernel) rfl
theorem w_1434 : Cond.methodLink "SpiritWallLaw" 127 yX10_errorCode ∈ gw := gw_t 672 (by decide +kernel) rfl
theorem w_1435 : Cond.code yX10_errorCode cX10_errorCode 1 (some .int) ∈ gw := gw_t 675 (by decide +kernel) rfl
theorem w_1436 : Cond.instanceMethod yX10_errorCode ∈ gw := gw_t 673 (by decide +kernel) rfl
theorem w_1437 : Cond.selects "SpiritWall" yX10_errorCode yX10_errorCode ∈ gw := gw_t 674 (by decide +kernel) rfl
theorem w_1438 : Cond.methodLink "SpiritWallLaw" 130 yX11_errorCode ∈ gw := gw_t 2200 (by decide +kernel) rfl
theorem w_1439 : Cond.code yX11_errorCode cX11_errorCode 1 (some .int) ∈ gw := gw_t 2203 (by decide +kernel) rfl
theorem w_1440 : Cond.instanceMethod yX11_errorCode ∈ gw := gw_t 2201 (by decide +kernel) rfl
theorem w_1441 : Cond.selects "SpiritWallModel" yX11_errorCode yX11_errorCode ∈ gw := gw_t 2202 (by decide +kernel) rfl
theorem w_1442 : Cond.methodLink "SpiritWallLaw" 131 yX10_errorOffset ∈ gw := gw_t 676 (by decide +kernel) rfl
theorem w_1443 : Cond.code yX10_errorOffset cX10_errorOffset 1 (some .int) ∈ gw := gw_t 679 (by decide +kernel) rfl
theorem w_1444 : Cond.instanceMethod yX10_errorOffset ∈ gw := gw_t 677 (by decide +kernel) rfl
theorem w_1445 : Cond.selects "SpiritWall" yX10_errorOffset yX10_errorOffset ∈ gw := gw_t 678 (by decide +kernel) rfl
theorem w_1446 : Cond.methodLink "SpiritWallLaw" 134 yX11_errorOffset ∈ gw := gw_t 2204 (by decide +kernel) rfl
theorem w_1447 : Cond.code yX11_errorOffset cX11_errorOffset 1 (some .int) ∈ gw := gw_t 2207 (by decide +kernel) rfl
theorem w_1448 : Cond.instanceMethod yX11_errorOffset ∈ gw := gw_t 2205 (by decide +kernel) rfl
theorem w_1449 : Cond.selects "SpiritWallModel" yX11_errorOffset yX11_errorOffset ∈ gw := gw_t 2206 (by decide +kernel) rfl
theorem w_1450 : Cond.methodLink "SpiritWallLaw" 135 yX10_count ∈ gw := gw_t 680 (by decide +kernel) rfl
theorem w_1451 : Cond.code yX10_count cX10_count 2 (some .int) ∈ gw := gw_t 683 (by decide +kernel) rfl
theorem w_1452 : Cond.instanceMethod yX10_count ∈ gw := gw_t 681 (by decide +kernel) rfl
theorem w_1453 : Cond.selects "SpiritWall" yX10_count yX10_count ∈ gw := gw_t 682 (by decide +kernel) rfl
theorem w_1454 : Cond.methodLink "SpiritWallLaw" 138 yX11_count ∈ gw := gw_t 1607 (by decide +kernel) rfl
theorem w_1455 : Cond.code yX11_count cX11_count 2 (some .int) ∈ gw := gw_t 1610 (by decide +kernel) rfl
theorem w_1456 : Cond.instanceMethod yX11_count ∈ gw := gw_t 1608 (by decide +kernel) rfl
theorem w_1457 : Cond.selects "SpiritWallModel" yX11_count yX11_count ∈ gw := gw_t 1609 (by decide +kernel) rfl
theorem w_1458 : Cond.methodLink "SpiritWallLaw" 139 yX10_setting ∈ gw := gw_t 883 (by decide +kernel) rfl
theorem w_1459 : Cond.code yX10_setting cX10_setting 2 (some .int) ∈ gw := gw_t 886 (by decide +kernel) rfl
theorem w_1460 : Cond.instanceMethod yX10_setting ∈ gw := gw_t 884 (by decide +kernel) rfl
theorem w_1461 : Cond.selects "SpiritWall" yX10_setting yX10_setting ∈ gw := gw_t 885 (by decide +kernel) rfl
theorem w_1462 : Cond.methodLink "SpiritWallLaw" 142 yX11_setting ∈ gw := gw_t 1799 (by decide +kernel) rfl
theorem w_1463 : Cond.code yX11_setting cX11_setting 2 (some .int) ∈ gw := gw_t 1802 (by decide +kernel) rfl
theorem w_1464 : Cond.instanceMethod yX11_setting ∈ gw := gw_t 1800 (by decide +kernel) rfl
theorem w_1465 : Cond.selects "SpiritWallModel" yX11_setting yX11_setting ∈ gw := gw_t 1801 (by decide +kernel) rfl
theorem w_1466 : Cond.methodLink "SpiritWallLaw" 143 yX10_levelError ∈ gw := gw_t 887 (by decide +kernel) rfl
theorem w_1467 : Cond.methodLink "SpiritWallLaw" 146 yX11_levelError ∈ gw := gw_t 1807 (by decide +kernel) rfl
theorem w_1468 : Cond.code yX11_levelError cX11_levelError 1 (some .int) ∈ gw := gw_t 1810 (by decide +kernel) rfl
theorem w_1469 : Cond.instanceMethod yX11_levelError ∈ gw := gw_t 1808 (by decide +kernel) rfl
theorem w_1470 : Cond.selects "SpiritWallModel" yX11_levelError yX11_levelError ∈ gw := gw_t 1809 (by decide +kernel) rfl
theorem w_1471 : Cond.methodLink "SpiritWallLaw" 152 yX11_estimate ∈ gw := gw_t 1811 (by decide +kernel) rfl
theorem w_1472 : Cond.code yX11_estimate cX11_estimate 3 (some .int) ∈ gw := gw_t 1814 (by decide +kernel) rfl
theorem w_1473 : Cond.instanceMethod yX11_estimate ∈ gw := gw_t 1812 (by decide +kernel) rfl
theorem w_1474 : Cond.selects "SpiritWallModel" yX11_estimate yX11_estimate ∈ gw := gw_t 1813 (by decide +kernel) rfl
theorem w_1475 : Cond.methodLink "SpiritWallLaw" 153 yX11_thrown ∈ gw := gw_t 1584 (by decide +kernel) rfl
theorem w_1476 : Cond.code yX11_thrown cX11_thrown 1 (some .int) ∈ gw := gw_t 1587 (by decide +kernel) rfl
theorem w_1477 : Cond.instanceMethod yX11_thrown ∈ gw := gw_t 1585 (by decide +kernel) rfl
theorem w_1478 : Cond.selects "SpiritWallModel" yX11_thrown yX11_thrown ∈ gw := gw_t 1586 (by decide +kernel) rfl
theorem w_1479 : Cond.methodLink "SpiritWallLaw" 147 yL_estimate ∈ gw := gw_t 1070 (by decide +kernel) rfl
theorem w_1480 : Cond.static yL_estimate ∈ gw := gw_t 1071 (by decide +kernel) rfl
theorem w_1481 : Cond.initialized "SpiritWallLaw" ∈ gw := gw_t 0 (by decide +kernel) rfl
theorem w_1482 : Cond.codeWith yL_estimate cL_estimate 5 (some .int) [(0, 10, 13, 13)] ∈ gw := gw_t 1072 (by decide +kernel) rfl
theorem w_1483 : Cond.methodLink "SpiritWallLaw" 156 yX10_find ∈ gw := gw_t 891 (by decide +kernel) rfl
theorem w_1484 : Cond.code yX10_find cX10_find 2 (some .int) ∈ gw := gw_t 894 (by decide +kernel) rfl
theorem w_1485 : Cond.instanceMethod yX10_find ∈ gw := gw_t 892 (by decide +kernel) rfl
theorem w_1486 : Cond.selects "SpiritWall" yX10_find yX10_find ∈ gw := gw_t 893 (by decide +kernel) rfl
theorem w_1487 : Cond.methodLink "SpiritWallLaw" 159 yX11_find ∈ gw := gw_t 2103 (by decide +kernel) rfl
theorem w_1488 : Cond.code yX11_find cX11_find 2 (some .int) ∈ gw := gw_t 2106 (by decide +kernel) rfl
theorem w_1489 : Cond.instanceMethod yX11_find ∈ gw := gw_t 2104 (by decide +kernel) rfl
theorem w_1490 : Cond.selects "SpiritWallModel" yX11_find yX11_find ∈ gw := gw_t 2105 (by decide +kernel) rfl
theorem w_1491 : Cond.methodLink "SpiritWallLaw" 162 yX11_mark ∈ gw := gw_t 1823 (by decide +kernel) rfl
theorem w_1492 : Cond.code yX11_mark cX11_mark 3 (some .int) ∈ gw := gw_t 1826 (by decide +kernel) rfl
theorem w_1493 : Cond.instanceMethod yX11_mark ∈ gw := gw_t 1824 (by decide +kernel) rfl
theorem w_1494 : Cond.selects "SpiritWallModel" yX11_mark yX11_mark ∈ gw := gw_t 1825 (by decide +kernel) rfl
theorem w_1495 : Cond.methodLink "SpiritWallLaw" 160 yL_mark ∈ gw := gw_t 1151 (by decide +kernel) rfl
theorem w_1496 : Cond.static yL_mark ∈ gw := gw_t 1152 (by decide +kernel) rfl
theorem w_1497 : Cond.codeWith yL_mark cL_mark 5 (some .int) [(0, 10, 13, 13), (0, 10, 17, 18)] ∈ gw := gw_t 1153 (by decide +kernel) rfl
theorem w_1498 : Cond.methodLink "SpiritWallLaw" 166 yX11_height ∈ gw := gw_t 1843 (by decide +kernel) rfl
theorem w_1499 : Cond.code yX11_height cX11_height 2 (some .int) ∈ gw := gw_t 1846 (by decide +kernel) rfl
theorem w_1500 : Cond.instanceMethod yX11_height ∈ gw := gw_t 1844 (by decide +kernel) rfl
theorem w_1501 : Cond.selects "SpiritWallModel" yX11_height yX11_height ∈ gw := gw_t 1845 (by decide +kernel) rfl
theorem w_1502 : Cond.methodLink "SpiritWallLaw" 163 yL_height ∈ gw := gw_t 1185 (by decide +kernel) rfl
theorem w_1503 : Cond.static yL_height ∈ gw := gw_t 1186 (by decide +kernel) rfl
theorem w_1504 : Cond.codeWith yL_height cL_height 4 (some .int) [(0, 9, 12, 13)] ∈ gw := gw_t 1187 (by decide +kernel) rfl
theorem w_1505 : Cond.methodLink "SpiritWallLaw" 169 yX11_whyNone ∈ gw := gw_t 1851 (by decide +kernel) rfl
theorem w_1506 : Cond.code yX11_whyNone cX11_whyNone 4 (some .int) ∈ gw := gw_t 1854 (by decide +kernel) rfl
theorem w_1507 : Cond.instanceMethod yX11_whyNone ∈ gw := gw_t 1852 (by decide +kernel) rfl
theorem w_1508 : Cond.selects "SpiritWallModel" yX11_whyNone yX11_whyNone ∈ gw := gw_t 1853 (by decide +kernel) rfl
theorem w_1509 : Cond.methodLink "SpiritWallLaw" 167 yL_whyNone ∈ gw := gw_t 1192 (by decide +kernel) rfl
theorem w_1510 : Cond.static yL_whyNone ∈ gw := gw_t 1193 (by decide +kernel) rfl
theorem w_1511 : Cond.codeWith yL_whyNone cL_whyNone 4 (some .int) [(0, 9, 12, 13)] ∈ gw := gw_t 1194 (by decide +kernel) rfl
theorem w_1512 : Cond.methodLink "SpiritWallLaw" 172 yX11_sight ∈ gw := gw_t 1859 (by decide +kernel) rfl
theorem w_1513 : Cond.code yX11_sight cX11_sight 3 (some .int) ∈ gw := gw_t 1862 (by decide +kernel) rfl
theorem w_1514 : Cond.instanceMethod yX11_sight ∈ gw := gw_t 1860 (by decide +kernel) rfl
theorem w_1515 : Cond.selects "SpiritWallModel" yX11_sight yX11_sight ∈ gw := gw_t 1861 (by decide +kernel) rfl
theorem w_1516 : Cond.methodLink "SpiritWallLaw" 170 yL_sight ∈ gw := gw_t 1204 (by decide +kernel) rfl
theorem w_1517 : Cond.static yL_sight ∈ gw := gw_t 1205 (by decide +kernel) rfl
theorem w_1518 : Cond.codeWith yL_sight cL_sight 5 (some .int) [(0, 10, 13, 13), (0, 10, 17, 18)] ∈ gw := gw_t 1206 (by decide +kernel) rfl
theorem w_1519 : Cond.methodLink "SpiritWallLaw" 175 yX11_rise ∈ gw := gw_t 1868 (by decide +kernel) rfl
theorem w_1520 : Cond.code yX11_rise cX11_rise 3 (some .int) ∈ gw := gw_t 1871 (by decide +kernel) rfl
theorem w_1521 : Cond.instanceMethod yX11_rise ∈ gw := gw_t 1869 (by decide +kernel) rfl
theorem w_1522 : Cond.selects "SpiritWallModel" yX11_rise yX11_rise ∈ gw := gw_t 1870 (by decide +kernel) rfl
theorem w_1523 : Cond.methodLink "SpiritWallLaw" 173 yL_rise ∈ gw := gw_t 1220 (by decide +kernel) rfl
theorem w_1524 : Cond.static yL_rise ∈ gw := gw_t 1221 (by decide +kernel) rfl
theorem w_1525 : Cond.codeWith yL_rise cL_rise 5 (some .int) [(0, 10, 13, 13)] ∈ gw := gw_t 1222 (by decide +kernel) rfl
theorem w_1526 : Cond.methodLink "SpiritWallLaw" 179 yX11_edge ∈ gw := gw_t 1872 (by decide +kernel) rfl
theorem w_1527 : Cond.code yX11_edge cX11_edge 5 (some .int) ∈ gw := gw_t 1875 (by decide +kernel) rfl
theorem w_1528 : Cond.instanceMethod yX11_edge ∈ gw := gw_t 1873 (by decide +kernel) rfl
theorem w_1529 : Cond.selects "SpiritWallModel" yX11_edge yX11_edge ∈ gw := gw_t 1874 (by decide +kernel) rfl
theorem w_1530 : Cond.methodLink "SpiritWallLaw" 176 yL_edge ∈ gw := gw_t 1229 (by decide +kernel) rfl
theorem w_1531 : Cond.static yL_edge ∈ gw := gw_t 1230 (by decide +kernel) rfl
theorem w_1532 : Cond.codeWith yL_edge cL_edge 6 (some .int) [(0, 12, 15, 13), (0, 12, 19, 18)] ∈ gw := gw_t 1231 (by decide +kernel) rfl
theorem w_1533 : Cond.methodLink "SpiritWallLaw" 182 yX11_along ∈ gw := gw_t 1889 (by decide +kernel) rfl
theorem w_1534 : Cond.code yX11_along cX11_along 3 (some .int) ∈ gw := gw_t 1892 (by decide +kernel) rfl
theorem w_1535 : Cond.instanceMethod yX11_along ∈ gw := gw_t 1890 (by decide +kernel) rfl
theorem w_1536 : Cond.selects "SpiritWallModel" yX11_along yX11_along ∈ gw := gw_t 1891 (by decide +kernel) rfl
theorem w_1537 : Cond.methodLink "SpiritWallLaw" 180 yL_along ∈ gw := gw_t 1249 (by decide +kernel) rfl
theorem w_1538 : Cond.static yL_along ∈ gw := gw_t 1250 (by decide +kernel) rfl
theorem w_1539 : Cond.codeWith yL_along cL_along 5 (some .int) [(0, 10, 13, 13)] ∈ gw := gw_t 1251 (by decide +kernel) rfl
theorem w_1540 : Cond.methodLink "SpiritWallLaw" 185 yX11_loop ∈ gw := gw_t 1893 (by decide +kernel) rfl
theorem w_1541 : Cond.code yX11_loop cX11_loop 3 (some .int) ∈ gw := gw_t 1896 (by decide +kernel) rfl
theorem w_1542 : Cond.instanceMethod yX11_loop ∈ gw := gw_t 1894 (by decide +kernel) rfl
theorem w_1543 : Cond.selects "SpiritWallModel" yX11_loop yX11_loop ∈ gw := gw_t 1895 (by decide +kernel) rfl
theorem w_1544 : Cond.methodLink "SpiritWallLaw" 183 yL_loop ∈ gw := gw_t 1257 (by decide +kernel) rfl
theorem w_1545 : Cond.static yL_loop ∈ gw := gw_t 1258 (by decide +kernel) rfl
theorem w_1546 : Cond.codeWith yL_loop cL_loop 5 (some .int) [(0, 10, 13, 13), (0, 10, 17, 18)] ∈ gw := gw_t 1259 (by decide +kernel) rfl
theorem w_1547 : Cond.methodLink "SpiritWallLaw" 188 yX11_loopMark ∈ gw := gw_t 1906 (by decide +kernel) rfl
theorem w_1548 : Cond.code yX11_loopMark cX11_loopMark 3 (some .int) ∈ gw := gw_t 1909 (by decide +kernel) rfl
theorem w_1549 : Cond.instanceMethod yX11_loopMark ∈ gw := gw_t 1907 (by decide +kernel) rfl
theorem w_1550 : Cond.selects "SpiritWallModel" yX11_loopMark yX11_loopMark ∈ gw := gw_t 1908 (by decide +kernel) rfl
theorem w_1551 : Cond.methodLink "SpiritWallLaw" 186 yL_loopMark ∈ gw := gw_t 1271 (by decide +kernel) rfl
theorem w_1552 : Cond.static yL_loopMark ∈ gw := gw_t 1272 (by decide +kernel) rfl
theorem w_1553 : Cond.codeWith yL_loopMark cL_loopMark 5 (some .int) [(0, 10, 13, 13)] ∈ gw := gw_t 1273 (by decide +kernel) rfl
theorem w_1554 : Cond.methodLink "SpiritWallLaw" 189 yX10_worstLoop ∈ gw := gw_t 903 (by decide +kernel) rfl
theorem w_1555 : Cond.code yX10_worstLoop cX10_worstLoop 1 (some .int) ∈ gw := gw_t 906 (by decide +kernel) rfl
theorem w_1556 : Cond.instanceMethod yX10_worstLoop ∈ gw := gw_t 904 (by decide +kernel) rfl
theorem w_1557 : Cond.selects "SpiritWall" yX10_worstLoop yX10_worstLoop ∈ gw := gw_t 905 (by decide +kernel) rfl
theorem w_1558 : Cond.methodLink "SpiritWallLaw" 192 yX11_worstLoop ∈ gw := gw_t 1910 (by decide +kernel) rfl
theorem w_1559 : Cond.code yX11_worstLoop cX11_worstLoop 11 (some .int) ∈ gw := gw_t 1913 (by decide +kernel) rfl
theorem w_1560 : Cond.instanceMethod yX11_worstLoop ∈ gw := gw_t 1911 (by decide +kernel) rfl
theorem w_1561 : Cond.selects "SpiritWallModel" yX11_worstLoop yX11_worstLoop ∈ gw := gw_t 1912 (by decide +kernel) rfl
theorem w_1562 : Cond.methodLink "SpiritWallLaw" 193 yX10_suspect ∈ gw := gw_t 915 (by decide +kernel) rfl
theorem w_1563 : Cond.code yX10_suspect cX10_suspect 2 (some .int) ∈ gw := gw_t 918 (by decide +kernel) rfl
theorem w_1564 : Cond.instanceMethod yX10_suspect ∈ gw := gw_t 916 (by decide +kernel) rfl
theorem w_1565 : Cond.selects "SpiritWall" yX10_suspect yX10_suspect ∈ gw := gw_t 917 (by decide +kernel) rfl
theorem w_1566 : Cond.methodLink "SpiritWallLaw" 196 yX11_suspect ∈ gw := gw_t 1914 (by decide +kernel) rfl
theorem w_1567 : Cond.code yX11_suspect cX11_suspect 7 (some .int) ∈ gw := gw_t 1917 (by decide +kernel) rfl
theorem w_1568 : Cond.instanceMethod yX11_suspect ∈ gw := gw_t 1915 (by decide +kernel) rfl
theorem w_1569 : Cond.selects "SpiritWallModel" yX11_suspect yX11_suspect ∈ gw := gw_t 1916 (by decide +kernel) rfl
theorem w_1570 : Cond.methodLink "SpiritWallLaw" 197 yX10_outlier ∈ gw := gw_t 924 (by decide +kernel) rfl
theorem w_1571 : Cond.code yX10_outlier cX10_outlier 1 (some .int) ∈ gw := gw_t 927 (by decide +kernel) rfl
theorem w_1572 : Cond.instanceMethod yX10_outlier ∈ gw := gw_t 925 (by decide +kernel) rfl
theorem w_1573 : Cond.selects "SpiritWall" yX10_outlier yX10_outlier ∈ gw := gw_t 926 (by decide +kernel) rfl
theorem w_1574 : Cond.methodLink "SpiritWallLaw" 200 yX11_outlier ∈ gw := gw_t 1918 (by decide +kernel) rfl
theorem w_1575 : Cond.code yX11_outlier cX11_outlier 5 (some .int) ∈ gw := gw_t 1921 (by decide +kernel) rfl
theorem w_1576 : Cond.instanceMethod yX11_outlier ∈ gw := gw_t 1919 (by decide +kernel) rfl
theorem w_1577 : Cond.selects "SpiritWallModel" yX11_outlier yX11_outlier ∈ gw := gw_t 1920 (by decide +kernel) rfl
theorem w_1578 : Cond.methodLink "SpiritWallLaw" 201 yX10_misfit ∈ gw := gw_t 939 (by decide +kernel) rfl
theorem w_1579 : Cond.code yX10_misfit cX10_misfit 1 (some .long) ∈ gw := gw_t 942 (by decide +kernel) rfl
theorem w_1580 : Cond.instanceMethod yX10_misfit ∈ gw := gw_t 940 (by decide +kernel) rfl
theorem w_1581 : Cond.selects "SpiritWall" yX10_misfit yX10_misfit ∈ gw := gw_t 941 (by decide +kernel) rfl
theorem w_1582 : Cond.methodLink "SpiritWallLaw" 205 yX11_misfit ∈ gw := gw_t 1922 (by decide +kernel) rfl
theorem w_1583 : Cond.code yX11_misfit cX11_misfit 1 (some .long) ∈ gw := gw_t 1925 (by decide +kernel) rfl
theorem w_1584 : Cond.instanceMethod yX11_misfit ∈ gw := gw_t 1923 (by decide +kernel) rfl
theorem w_1585 : Cond.selects "SpiritWallModel" yX11_misfit yX11_misfit ∈ gw := gw_t 1924 (by decide +kernel) rfl
theorem w_1586 : Cond.methodLink "SpiritWallLaw" 208 yX11_tension ∈ gw := gw_t 1930 (by decide +kernel) rfl
theorem w_1587 : Cond.code yX11_tension cX11_tension 2 (some .int) ∈ gw := gw_t 1933 (by decide +kernel) rfl
theorem w_1588 : Cond.instanceMethod yX11_tension ∈ gw := gw_t 1931 (by decide +kernel) rfl
theorem w_1589 : Cond.selects "SpiritWallModel" yX11_tension yX11_tension ∈ gw := gw_t 1932 (by decide +kernel) rfl
theorem w_1590 : Cond.methodLink "SpiritWallLaw" 206 yL_tension ∈ gw := gw_t 1278 (by decide +kernel) rfl
theorem w_1591 : Cond.static yL_tension ∈ gw := gw_t 1279 (by decide +kernel) rfl
theorem w_1592 : Cond.codeWith yL_tension cL_tension 4 (some .int) [(0, 9, 12, 13)] ∈ gw := gw_t 1280 (by decide +kernel) rfl
theorem w_1593 : Cond.methodLink "SpiritWallLaw" 209 yX10_tensest ∈ gw := gw_t 963 (by decide +kernel) rfl
theorem w_1594 : Cond.code yX10_tensest cX10_tensest 5 (some .int) ∈ gw := gw_t 966 (by decide +kernel) rfl
theorem w_1595 : Cond.instanceMethod yX10_tensest ∈ gw := gw_t 964 (by decide +kernel) rfl
theorem w_1596 : Cond.selects "SpiritWall" yX10_tensest yX10_tensest ∈ gw := gw_t 965 (by decide +kernel) rfl
theorem w_1597 : Cond.methodLink "SpiritWallLaw" 212 yX11_tensest ∈ gw := gw_t 1938 (by decide +kernel) rfl
theorem w_1598 : Cond.code yX11_tensest cX11_tensest 5 (some .int) ∈ gw := gw_t 1941 (by decide +kernel) rfl
theorem w_1599 : Cond.instanceMethod yX11_tensest ∈ gw := gw_t 1939 (by decide +kernel) rfl
theorem w_1600 : Cond.selects "SpiritWallModel" yX11_tensest yX11_tensest ∈ gw := gw_t 1940 (by decide +kernel) rfl
theorem w_1601 : Cond.methodLink "SpiritWallLaw" 215 yX11_neighbour ∈ gw := gw_t 1942 (by decide +kernel) rfl
theorem w_1602 : Cond.code yX11_neighbour cX11_neighbour 5 (some .int) ∈ gw := gw_t 1945 (by decide +kernel) rfl
theorem w_1603 : Cond.instanceMethod yX11_neighbour ∈ gw := gw_t 1943 (by decide +kernel) rfl
theorem w_1604 : Cond.selects "SpiritWallModel" yX11_neighbour yX11_neighbour ∈ gw := gw_t 1944 (by decide +kernel) rfl
theorem w_1605 : Cond.methodLink "SpiritWallLaw" 213 yL_neighbour ∈ gw := gw_t 1285 (by decide +kernel) rfl
theorem w_1606 : Cond.static yL_neighbour ∈ gw := gw_t 1286 (by decide +kernel) rfl
theorem w_1607 : Cond.codeWith yL_neighbour cL_neighbour 5 (some .int) [(0, 10, 13, 13)] ∈ gw := gw_t 1287 (by decide +kernel) rfl
theorem w_1608 : Cond.methodLink "SpiritWallLaw" 218 yX11_loopsOf ∈ gw := gw_t 1946 (by decide +kernel) rfl
theorem w_1609 : Cond.code yX11_loopsOf cX11_loopsOf 4 (some .int) ∈ gw := gw_t 1949 (by decide +kernel) rfl
theorem w_1610 : Cond.instanceMethod yX11_loopsOf ∈ gw := gw_t 1947 (by decide +kernel) rfl
theorem w_1611 : Cond.selects "SpiritWallModel" yX11_loopsOf yX11_loopsOf ∈ gw := gw_t 1948 (by decide +kernel) rfl
theorem w_1612 : Cond.methodLink "SpiritWallLaw" 216 yL_loopsOf ∈ gw := gw_t 1292 (by decide +kernel) rfl
theorem w_1613 : Cond.static yL_loopsOf ∈ gw := gw_t 1293 (by decide +kernel) rfl
theorem w_1614 : Cond.codeWith yL_loopsOf cL_loopsOf 4 (some .int) [(0, 9, 12, 13)] ∈ gw := gw_t 1294 (by decide +kernel) rfl
theorem w_1615 : Cond.methodLink "SpiritWallLaw" 219 yX10_bridges ∈ gw := gw_t 977 (by decide +kernel) rfl
theorem w_1616 : Cond.code yX10_bridges cX10_bridges 3 (some .int) ∈ gw := gw_t 980 (by decide +kernel) rfl
theorem w_1617 : Cond.instanceMethod yX10_bridges ∈ gw := gw_t 978 (by decide +kernel) rfl
theorem w_1618 : Cond.selects "SpiritWall" yX10_bridges yX10_bridges ∈ gw := gw_t 979 (by decide +kernel) rfl
theorem w_1619 : Cond.methodLink "SpiritWallLaw" 222 yX11_bridges ∈ gw := gw_t 1954 (by decide +kernel) rfl
theorem w_1620 : Cond.code yX11_bridges cX11_bridges 3 (some .int) ∈ gw := gw_t 1957 (by decide +kernel) rfl
theorem w_1621 : Cond.instanceMethod yX11_bridges ∈ gw := gw_t 1955 (by decide +kernel) rfl
theorem w_1622 : Cond.selects "SpiritWallModel" yX11_bridges yX11_bridges ∈ gw := gw_t 1956 (by decide +kernel) rfl
theorem w_1623 : Cond.methodLink "SpiritWallLaw" 223 yX10_meanSwings ∈ gw := gw_t 981 (by decide +kernel) rfl
theorem w_1624 : Cond.code yX10_meanSwings cX10_meanSwings 4 (some .double) ∈ gw := gw_t 984 (by decide +kernel) rfl
theorem w_1625 : Cond.instanceMethod yX10_meanSwings ∈ gw := gw_t 982 (by decide +kernel) rfl
theorem w_1626 : Cond.selects "SpiritWall" yX10_meanSwings yX10_meanSwings ∈ gw := gw_t 983 (by decide +kernel) rfl
theorem w_1627 : Cond.methodLink "SpiritWallLaw" 227 yX11_meanSwings ∈ gw := gw_t 1958 (by decide +kernel) rfl
theorem w_1628 : Cond.code yX11_meanSwings cX11_meanSwings 4 (some .double) ∈ gw := gw_t 1961 (by decide +kernel) rfl
theorem w_1629 : Cond.instanceMethod yX11_meanSwings ∈ gw := gw_t 1959 (by decide +kernel) rfl
theorem w_1630 : Cond.selects "SpiritWallModel" yX11_meanSwings yX11_meanSwings ∈ gw := gw_t 1960 (by decide +kernel) rfl
theorem w_1631 : Cond.methodLink "SpiritWallLaw" 228 yX10_closedShare ∈ gw := gw_t 987 (by decide +kernel) rfl
theorem w_1632 : Cond.code yX10_closedShare cX10_closedShare 1 (some .float) ∈ gw := gw_t 990 (by decide +kernel) rfl
theorem w_1633 : Cond.instanceMethod yX10_closedShare ∈ gw := gw_t 988 (by decide +kernel) rfl
theorem w_1634 : Cond.selects "SpiritWall" yX10_closedShare yX10_closedShare ∈ gw := gw_t 989 (by decide +kernel) rfl
theorem w_1635 : Cond.methodLink "SpiritWallLaw" 232 yX11_closedShare ∈ gw := gw_t 1962 (by decide +kernel) rfl
theorem w_1636 : Cond.code yX11_closedShare cX11_closedShare 1 (some .float) ∈ gw := gw_t 1965 (by decide +kernel) rfl
theorem w_1637 : Cond.instanceMethod yX11_closedShare ∈ gw := gw_t 1963 (by decide +kernel) rfl
theorem w_1638 : Cond.selects "SpiritWallModel" yX11_closedShare yX11_closedShare ∈ gw := gw_t 1964 (by decide +kernel) rfl
theorem w_1639 : Cond.methodLink "SpiritWallLaw" 235 yX11_closedIf ∈ gw := gw_t 1966 (by decide +kernel) rfl
theorem w_1640 : Cond.code yX11_closedIf cX11_closedIf 3 (some .int) ∈ gw := gw_t 1969 (by decide +kernel) rfl
theorem w_1641 : Cond.instanceMethod yX11_closedIf ∈ gw := gw_t 1967 (by decide +kernel) rfl
theorem w_1642 : Cond.selects "SpiritWallModel" yX11_closedIf yX11_closedIf ∈ gw := gw_t 1968 (by decide +kernel) rfl
theorem w_1643 : Cond.methodLink "SpiritWallLaw" 233 yL_closedIf ∈ gw := gw_t 1303 (by decide +kernel) rfl
theorem w_1644 : Cond.static yL_closedIf ∈ gw := gw_t 1304 (by decide +kernel) rfl
theorem w_1645 : Cond.codeWith yL_closedIf cL_closedIf 4 (some .int) [(0, 9, 12, 13)] ∈ gw := gw_t 1305 (by decide +kernel) rfl
theorem w_1646 : Cond.methodLink "SpiritWallLaw" 236 yX10_bestStrike ∈ gw := gw_t 991 (by decide +kernel) rfl
theorem w_1647 : Cond.code yX10_bestStrike cX10_bestStrike 5 (some .int) ∈ gw := gw_t 994 (by decide +kernel) rfl
theorem w_1648 : Cond.instanceMethod yX10_bestStrike ∈ gw := gw_t 992 (by decide +kernel) rfl
theorem w_1649 : Cond.selects "SpiritWall" yX10_bestStrike yX10_bestStrike ∈ gw := gw_t 993 (by decide +kernel) rfl
theorem w_1650 : Cond.methodLink "SpiritWallLaw" 239 yX11_bestStrike ∈ gw := gw_t 1978 (by decide +kernel) rfl
theorem w_1651 : Cond.code yX11_bestStrike cX11_bestStrike 5 (some .int) ∈ gw := gw_t 1981 (by decide +kernel) rfl
theorem w_1652 : Cond.instanceMethod yX11_bestStrike ∈ gw := gw_t 1979 (by decide +kernel) rfl
theorem w_1653 : Cond.selects "SpiritWallModel" yX11_bestStrike yX11_bestStrike ∈ gw := gw_t 1980 (by decide +kernel) rfl
theorem w_1654 : Cond.methodLink "SpiritWallLaw" 242 yX11_errorWith ∈ gw := gw_t 1982 (by decide +kernel) rfl
theorem w_1655 : Cond.code yX11_errorWith cX11_errorWith 4 (some .int) ∈ gw := gw_t 1985 (by decide +kernel) rfl
theorem w_1656 : Cond.instanceMethod yX11_errorWith ∈ gw := gw_t 1983 (by decide +kernel) rfl
theorem w_1657 : Cond.selects "SpiritWallModel" yX11_errorWith yX11_errorWith ∈ gw := gw_t 1984 (by decide +kernel) rfl
theorem w_1658 : Cond.methodLink "SpiritWallLaw" 240 yL_errorWith ∈ gw := gw_t 1310 (by decide +kernel) rfl
theorem w_1659 : Cond.static yL_errorWith ∈ gw := gw_t 1311 (by decide +kernel) rfl
theorem w_1660 : Cond.codeWith yL_errorWith cL_errorWith 4 (some .int) [(0, 9, 12, 18)] ∈ gw := gw_t 1312 (by decide +kernel) rfl
theorem w_1661 : Cond.methodLink "SpiritWallLaw" 245 yX11_misfitAfter ∈ gw := gw_t 1987 (by decide +kernel) rfl
theorem w_1662 : Cond.code yX11_misfitAfter cX11_misfitAfter 5 (some .long) ∈ gw := gw_t 1990 (by decide +kernel) rfl
theorem w_1663 : Cond.instanceMethod yX11_misfitAfter ∈ gw := gw_t 1988 (by decide +kernel) rfl
theorem w_1664 : Cond.selects "SpiritWallModel" yX11_misfitAfter yX11_misfitAfter ∈ gw := gw_t 1989 (by decide +kernel) rfl
theorem w_1665 : Cond.methodLink "SpiritWallLaw" 243 yL_misfitAfter ∈ gw := gw_t 1323 (by decide +kernel) rfl
theorem w_1666 : Cond.static yL_misfitAfter ∈ gw := gw_t 1324 (by decide +kernel) rfl
theorem w_1667 : Cond.codeWith yL_misfitAfter cL_misfitAfter 4 (some .int) [(0, 8, 11, 18)] ∈ gw := gw_t 1325 (by decide +kernel) rfl
theorem w_1668 : Cond.methodLink "SpiritWallLaw" 248 yX11_heightIf ∈ gw := gw_t 2020 (by decide +kernel) rfl
theorem w_1669 : Cond.code yX11_heightIf cX11_heightIf 3 (some .int) ∈ gw := gw_t 2023 (by decide +kernel) rfl
theorem w_1670 : Cond.instanceMethod yX11_heightIf ∈ gw := gw_t 2021 (by decide +kernel) rfl
theorem w_1671 : Cond.selects "SpiritWallModel" yX11_heightIf yX11_heightIf ∈ gw := gw_t 2022 (by decide +kernel) rfl
theorem w_1672 : Cond.methodLink "SpiritWallLaw" 246 yL_heightIf ∈ gw := gw_t 1345 (by decide +kernel) rfl
theorem w_1673 : Cond.static yL_heightIf ∈ gw := gw_t 1346 (by decide +kernel) rfl
theorem w_1674 : Cond.codeWith yL_heightIf cL_heightIf 4 (some .int) [(0, 9, 12, 13)] ∈ gw := gw_t 1347 (by decide +kernel) rfl
theorem w_1675 : Cond.methodLink "SpiritWallLaw" 249 yX10_leastLimit ∈ gw := gw_t 999 (by decide +kernel) rfl
theorem w_1676 : Cond.code yX10_leastLimit cX10_leastLimit 3 (some .int) ∈ gw := gw_t 1002 (by decide +kernel) rfl
theorem w_1677 : Cond.instanceMethod yX10_leastLimit ∈ gw := gw_t 1000 (by decide +kernel) rfl
theorem w_1678 : Cond.selects "SpiritWall" yX10_leastLimit yX10_leastLimit ∈ gw := gw_t 1001 (by decide +kernel) rfl
theorem w_1679 : Cond.methodLink "SpiritWallLaw" 252 yX11_leastLimit ∈ gw := gw_t 2024 (by decide +kernel) rfl
theorem w_1680 : Cond.code yX11_leastLimit cX11_leastLimit 3 (some .int) ∈ gw := gw_t 2027 (by decide +kernel) rfl
theorem w_1681 : Cond.instanceMethod yX11_leastLimit ∈ gw := gw_t 2025 (by decide +kernel) rfl
theorem w_1682 : Cond.selects "SpiritWallModel" yX11_leastLimit yX11_leastLimit ∈ gw := gw_t 2026 (by decide +kernel) rfl
theorem w_1683 : Cond.methodLink "SpiritWallLaw" 256 yX11_addSight ∈ gw := gw_t 2028 (by decide +kernel) rfl
theorem w_1684 : Cond.code yX11_addSight cX11_addSight 6 (some .int) ∈ gw := gw_t 2031 (by decide +kernel) rfl
theorem w_1685 : Cond.instanceMethod yX11_addSight ∈ gw := gw_t 2029 (by decide +kernel) rfl
theorem w_1686 : Cond.selects "SpiritWallModel" yX11_addSight yX11_addSight ∈ gw := gw_t 2030 (by decide +kernel) rfl
theorem w_1687 : Cond.methodLink "SpiritWallLaw" 253 yL_addSight ∈ gw := gw_t 1352 (by decide +kernel) rfl
theorem w_1688 : Cond.static yL_addSight ∈ gw := gw_t 1353 (by decide +kernel) rfl
theorem w_1689 : Cond.codeWith yL_addSight cL_addSight 8 (some .int) [(0, 16, 19, 13), (0, 16, 23, 18), (0, 16, 27, 72)] ∈ gw := gw_t 1354 (by decide +kernel) rfl
theorem w_1690 : Cond.methodLink "SpiritWallLaw" 260 yX11_strike ∈ gw := gw_t 2050 (by decide +kernel) rfl
theorem w_1691 : Cond.code yX11_strike cX11_strike 4 (some .boolean) ∈ gw := gw_t 2053 (by decide +kernel) rfl
theorem w_1692 : Cond.instanceMethod yX11_strike ∈ gw := gw_t 2051 (by decide +kernel) rfl
theorem w_1693 : Cond.selects "SpiritWallModel" yX11_strike yX11_strike ∈ gw := gw_t 2052 (by decide +kernel) rfl
theorem w_1694 : Cond.methodLink "SpiritWallLaw" 257 yL_strike ∈ gw := gw_t 1378 (by decide +kernel) rfl
theorem w_1695 : Cond.static yL_strike ∈ gw := gw_t 1379 (by decide +kernel) rfl
theorem w_1696 : Cond.codeWith yL_strike cL_strike 5 (some .int) [(0, 17, 20, 13)] ∈ gw := gw_t 1380 (by decide +kernel) rfl
theorem w_1697 : Cond.methodLink "SpiritWallLaw" 263 yX11_swap ∈ gw := gw_t 2054 (by decide +kernel) rfl
theorem w_1698 : Cond.code yX11_swap cX11_swap 3 (some .int) ∈ gw := gw_t 2057 (by decide +kernel) rfl
theorem w_1699 : Cond.instanceMethod yX11_swap ∈ gw := gw_t 2055 (by decide +kernel) rfl
theorem w_1700 : Cond.selects "SpiritWallModel" yX11_swap yX11_swap ∈ gw := gw_t 2056 (by decide +kernel) rfl
theorem w_1701 : Cond.methodLink "SpiritWallLaw" 261 yL_swap ∈ gw := gw_t 1385 (by decide +kernel) rfl
theorem w_1702 : Cond.static yL_swap ∈ gw := gw_t 1386 (by decide +kernel) rfl
theorem w_1703 : Cond.codeWith yL_swap cL_swap 5 (some .int) [(0, 10, 13, 13), (0, 10, 17, 18)] ∈ gw := gw_t 1387 (by decide +kernel) rfl
theorem w_1704 : Cond.methodLink "SpiritWallLaw" 266 yX11_fix ∈ gw := gw_t 2058 (by decide +kernel) rfl
theorem w_1705 : Cond.code yX11_fix cX11_fix 4 (some .boolean) ∈ gw := gw_t 2061 (by decide +kernel) rfl
theorem w_1706 : Cond.instanceMethod yX11_fix ∈ gw := gw_t 2059 (by decide +kernel) rfl
theorem w_1707 : Cond.selects "SpiritWallModel" yX11_fix yX11_fix ∈ gw := gw_t 2060 (by decide +kernel) rfl
theorem w_1708 : Cond.methodLink "SpiritWallLaw" 264 yL_fix ∈ gw := gw_t 1392 (by decide +kernel) rfl
theorem w_1709 : Cond.static yL_fix ∈ gw := gw_t 1393 (by decide +kernel) rfl
theorem w_1710 : Cond.codeWith yL_fix cL_fix 5 (some .int) [(0, 17, 20, 13), (0, 17, 24, 18)] ∈ gw := gw_t 1394 (by decide +kernel) rfl
theorem w_1711 : Cond.methodLink "SpiritWallLaw" 269 yX11_free ∈ gw := gw_t 2064 (by decide +kernel) rfl
theorem w_1712 : Cond.code yX11_free cX11_free 2 (some .int) ∈ gw := gw_t 2067 (by decide +kernel) rfl
theorem w_1713 : Cond.instanceMethod yX11_free ∈ gw := gw_t 2065 (by decide +kernel) rfl
theorem w_1714 : Cond.selects "SpiritWallModel" yX11_free yX11_free ∈ gw := gw_t 2066 (by decide +kernel) rfl
theorem w_1715 : Cond.methodLink "SpiritWallLaw" 267 yL_free ∈ gw := gw_t 1402 (by decide +kernel) rfl
theorem w_1716 : Cond.static yL_free ∈ gw := gw_t 1403 (by decide +kernel) rfl
theorem w_1717 : Cond.codeWith yL_free cL_free 4 (some .int) [(0, 9, 12, 13), (0, 9, 15, 72)] ∈ gw := gw_t 1404 (by decide +kernel) rfl
theorem w_1718 : Cond.methodLink "SpiritWallLaw" 270 yX10_level ∈ gw := gw_t 1004 (by decide +kernel) rfl
theorem w_1719 : Cond.code yX10_level cX10_level 1 (some .int) ∈ gw := gw_t 1007 (by decide +kernel) rfl
theorem w_1720 : Cond.instanceMethod yX10_level ∈ gw := gw_t 1005 (by decide +kernel) rfl
theorem w_1721 : Cond.selects "SpiritWall" yX10_level yX10_level ∈ gw := gw_t 1006 (by decide +kernel) rfl
theorem w_1722 : Cond.methodLink "SpiritWallLaw" 273 yX11_level ∈ gw := gw_t 2068 (by decide +kernel) rfl
theorem w_1723 : Cond.code yX11_level cX11_level 1 (some .int) ∈ gw := gw_t 2071 (by decide +kernel) rfl
theorem w_1724 : Cond.instanceMethod yX11_level ∈ gw := gw_t 2069 (by decide +kernel) rfl
theorem w_1725 : Cond.selects "SpiritWallModel" yX11_level yX11_level ∈ gw := gw_t 2070 (by decide +kernel) rfl
theorem w_1726 : Cond.methodLink "SpiritWallLaw" 276 yX11_relax ∈ gw := gw_t 2072 (by decide +kernel) rfl
theorem w_1727 : Cond.code yX11_relax cX11_relax 2 (some .int) ∈ gw := gw_t 2075 (by decide +kernel) rfl
theorem w_1728 : Cond.instanceMethod yX11_relax ∈ gw := gw_t 2073 (by decide +kernel) rfl
theorem w_1729 : Cond.selects "SpiritWallModel" yX11_relax yX11_relax ∈ gw := gw_t 2074 (by decide +kernel) rfl
theorem w_1730 : Cond.methodLink "SpiritWallLaw" 274 yL_relax ∈ gw := gw_t 1410 (by decide +kernel) rfl
theorem w_1731 : Cond.static yL_relax ∈ gw := gw_t 1411 (by decide +kernel) rfl
theorem w_1732 : Cond.codeWith yL_relax cL_relax 4 (some .int) [(0, 9, 12, 18)] ∈ gw := gw_t 1412 (by decide +kernel) rfl
theorem w_1733 : Cond.methodLink "SpiritWallLaw" 279 yX11_tellError ∈ gw := gw_t 2076 (by decide +kernel) rfl
theorem w_1734 : Cond.code yX11_tellError cX11_tellError 3 (some .int) ∈ gw := gw_t 2079 (by decide +kernel) rfl
theorem w_1735 : Cond.instanceMethod yX11_tellError ∈ gw := gw_t 2077 (by decide +kernel) rfl
theorem w_1736 : Cond.selects "SpiritWallModel" yX11_tellError yX11_tellError ∈ gw := gw_t 2078 (by decide +kernel) rfl
theorem w_1737 : Cond.methodLink "SpiritWallLaw" 277 yL_tellError ∈ gw := gw_t 1417 (by decide +kernel) rfl
theorem w_1738 : Cond.static yL_tellError ∈ gw := gw_t 1418 (by decide +kernel) rfl
theorem w_1739 : Cond.codeWith yL_tellError cL_tellError 4 (some .int) [(0, 9, 12, 18)] ∈ gw := gw_t 1419 (by decide +kernel) rfl
theorem w_1740 : Cond.methodLink "SpiritWallLaw" 280 yX10_findError ∈ gw := gw_t 1031 (by decide +kernel) rfl
theorem w_1741 : Cond.code yX10_findError cX10_findError 1 (some .int) ∈ gw := gw_t 1034 (by decide +kernel) rfl
theorem w_1742 : Cond.instanceMethod yX10_findError ∈ gw := gw_t 1032 (by decide +kernel) rfl
theorem w_1743 : Cond.selects "SpiritWall" yX10_findError yX10_findError ∈ gw := gw_t 1033 (by decide +kernel) rfl
theorem w_1744 : Cond.methodLink "SpiritWallLaw" 283 yX11_findError ∈ gw := gw_t 2082 (by decide +kernel) rfl
theorem w_1745 : Cond.code yX11_findError cX11_findError 1 (some .int) ∈ gw := gw_t 2085 (by decide +kernel) rfl
theorem w_1746 : Cond.instanceMethod yX11_findError ∈ gw := gw_t 2083 (by decide +kernel) rfl
theorem w_1747 : Cond.selects "SpiritWallModel" yX11_findError yX11_findError ∈ gw := gw_t 2084 (by decide +kernel) rfl
theorem w_1748 : Cond.methodLink "SpiritWallLaw" 286 yX11_set ∈ gw := gw_t 2086 (by decide +kernel) rfl
theorem w_1749 : Cond.code yX11_set cX11_set 4 (some .int) ∈ gw := gw_t 2089 (by decide +kernel) rfl
theorem w_1750 : Cond.instanceMethod yX11_set ∈ gw := gw_t 2087 (by decide +kernel) rfl
theorem w_1751 : Cond.selects "SpiritWallModel" yX11_set yX11_set ∈ gw := gw_t 2088 (by decide +kernel) rfl
theorem w_1752 : Cond.methodLink "SpiritWallLaw" 284 yL_set ∈ gw := gw_t 1424 (by decide +kernel) rfl
theorem w_1753 : Cond.static yL_set ∈ gw := gw_t 1425 (by decide +kernel) rfl
theorem w_1754 : Cond.codeWith yL_set cL_set 5 (some .int) [(0, 10, 13, 18)] ∈ gw := gw_t 1426 (by decide +kernel) rfl
theorem w_1755 : Cond.methodLink "SpiritWallLaw" 290 yX11_undo ∈ gw := gw_t 1588 (by decide +kernel) rfl
theorem w_1756 : Cond.code yX11_undo cX11_undo 2 (some .int) ∈ gw := gw_t 1591 (by decide +kernel) rfl
theorem w_1757 : Cond.instanceMethod yX11_undo ∈ gw := gw_t 1589 (by decide +kernel) rfl
theorem w_1758 : Cond.selects "SpiritWallModel" yX11_undo yX11_undo ∈ gw := gw_t 1590 (by decide +kernel) rfl
theorem w_1759 : Cond.methodLink "SpiritWallLaw" 287 yL_undo ∈ gw := gw_t 1431 (by decide +kernel) rfl
theorem w_1760 : Cond.static yL_undo ∈ gw := gw_t 1432 (by decide +kernel) rfl
theorem w_1761 : Cond.codeWith yL_undo cL_undo 3 (some .int) [(0, 8, 11, 72)] ∈ gw := gw_t 1433 (by decide +kernel) rfl
theorem w_1762 : Cond.methodLink "SpiritWallLaw" 291 yX10_printMarks ∈ gw := gw_t 1036 (by decide +kernel) rfl
theorem w_1763 : Cond.code yX10_printMarks cX10_printMarks 2 (some .int) ∈ gw := gw_t 1039 (by decide +kernel) rfl
theorem w_1764 : Cond.instanceMethod yX10_printMarks ∈ gw := gw_t 1037 (by decide +kernel) rfl
theorem w_1765 : Cond.selects "SpiritWall" yX10_printMarks yX10_printMarks ∈ gw := gw_t 1038 (by decide +kernel) rfl
theorem w_1766 : Cond.methodLink "SpiritWallLaw" 294 yX11_printMarks ∈ gw := gw_t 2208 (by decide +kernel) rfl
theorem w_1767 : Cond.code yX11_printMarks cX11_printMarks 2 (some .int) ∈ gw := gw_t 2211 (by decide +kernel) rfl
theorem w_1768 : Cond.instanceMethod yX11_printMarks ∈ gw := gw_t 2209 (by decide +kernel) rfl
theorem w_1769 : Cond.selects "SpiritWallModel" yX11_printMarks yX11_printMarks ∈ gw := gw_t 2210 (by decide +kernel) rfl
theorem w_1770 : Cond.methodLink "SpiritWallLaw" 297 yX11_printLoop ∈ gw := gw_t 2228 (by decide +kernel) rfl
theorem w_1771 : Cond.code yX11_printLoop cX11_printLoop 3 (some .int) ∈ gw := gw_t 2231 (by decide +kernel) rfl
theorem w_1772 : Cond.instanceMethod yX11_printLoop ∈ gw := gw_t 2229 (by decide +kernel) rfl
theorem w_1773 : Cond.selects "SpiritWallModel" yX11_printLoop yX11_printLoop ∈ gw := gw_t 2230 (by decide +kernel) rfl
theorem w_1774 : Cond.methodLink "SpiritWallLaw" 295 yL_printLoop ∈ gw := gw_t 1443 (by decide +kernel) rfl
theorem w_1775 : Cond.static yL_printLoop ∈ gw := gw_t 1444 (by decide +kernel) rfl
theorem w_1776 : Cond.codeWith yL_printLoop cL_printLoop 4 (some .int) [(0, 9, 12, 13)] ∈ gw := gw_t 1445 (by decide +kernel) rfl
theorem w_1777 : Cond.methodLink "SpiritWallLaw" 300 yX11_printSight ∈ gw := gw_t 2232 (by decide +kernel) rfl
theorem w_1778 : Cond.code yX11_printSight cX11_printSight 2 (some .int) ∈ gw := gw_t 2235 (by decide +kernel) rfl
theorem w_1779 : Cond.instanceMethod yX11_printSight ∈ gw := gw_t 2233 (by decide +kernel) rfl
theorem w_1780 : Cond.selects "SpiritWallModel" yX11_printSight yX11_printSight ∈ gw := gw_t 2234 (by decide +kernel) rfl
theorem w_1781 : Cond.methodLink "SpiritWallLaw" 298 yL_printSight ∈ gw := gw_t 1450 (by decide +kernel) rfl
theorem w_1782 : Cond.static yL_printSight ∈ gw := gw_t 1451 (by decide +kernel) rfl
theorem w_1783 : Cond.codeWith yL_printSight cL_printSight 4 (some .int) [(0, 9, 12, 13)] ∈ gw := gw_t 1452 (by decide +kernel) rfl
theorem w_1784 : Cond.methodLink "SpiritWallLaw" 301 yX10_outputByte ∈ gw := gw_t 1061 (by decide +kernel) rfl
theorem w_1785 : Cond.code yX10_outputByte cX10_outputByte 2 (some .int) ∈ gw := gw_t 1064 (by decide +kernel) rfl
theorem w_1786 : Cond.instanceMethod yX10_outputByte ∈ gw := gw_t 1062 (by decide +kernel) rfl
theorem w_1787 : Cond.selects "SpiritWall" yX10_outputByte yX10_outputByte ∈ gw := gw_t 1063 (by decide +kernel) rfl
theorem w_1788 : Cond.methodLink "SpiritWallLaw" 304 yX11_outputByte ∈ gw := gw_t 2245 (by decide +kernel) rfl
theorem w_1789 : Cond.code yX11_outputByte cX11_outputByte 2 (some .int) ∈ gw := gw_t 2248 (by decide +kernel) rfl
theorem w_1790 : Cond.instanceMethod yX11_outputByte ∈ gw := gw_t 2246 (by decide +kernel) rfl
theorem w_1791 : Cond.selects "SpiritWallModel" yX11_outputByte yX11_outputByte ∈ gw := gw_t 2247 (by decide +kernel) rfl
theorem w_1792 : Cond.methodLink "SpiritWallLaw" 305 yX10_saveState ∈ gw := gw_t 1066 (by decide +kernel) rfl
theorem w_1793 : Cond.code yX10_saveState cX10_saveState 1 (some .int) ∈ gw := gw_t 1069 (by decide +kernel) rfl
theorem w_1794 : Cond.instanceMethod yX10_saveState ∈ gw := gw_t 1067 (by decide +kernel) rfl
theorem w_1795 : Cond.selects "SpiritWall" yX10_saveState yX10_saveState ∈ gw := gw_t 1068 (by decide +kernel) rfl
theorem w_1796 : Cond.methodLink "SpiritWallLaw" 308 yX11_saveState ∈ gw := gw_t 1596 (by decide +kernel) rfl
theorem w_1797 : Cond.code yX11_saveState cX11_saveState 1 (some .int) ∈ gw := gw_t 1599 (by decide +kernel) rfl
theorem w_1798 : Cond.instanceMethod yX11_saveState ∈ gw := gw_t 1597 (by decide +kernel) rfl
theorem w_1799 : Cond.selects "SpiritWallModel" yX11_saveState yX11_saveState ∈ gw := gw_t 1598 (by decide +kernel) rfl
theorem w_1800 : Cond.methodLink "SpiritWallLaw" 311 yX11_restoreState ∈ gw := gw_t 1603 (by decide +kernel) rfl
theorem w_1801 : Cond.code yX11_restoreState cX11_restoreState 1 (some .int) ∈ gw := gw_t 1606 (by decide +kernel) rfl
theorem w_1802 : Cond.instanceMethod yX11_restoreState ∈ gw := gw_t 1604 (by decide +kernel) rfl
theorem w_1803 : Cond.selects "SpiritWallModel" yX11_restoreState yX11_restoreState ∈ gw := gw_t 1605 (by decide +kernel) rfl
theorem w_1804 : Cond.methodLink "SpiritWallLaw" 309 yL_restoreState ∈ gw := gw_t 1468 (by decide +kernel) rfl
theorem w_1805 : Cond.static yL_restoreState ∈ gw := gw_t 1469 (by decide +kernel) rfl
theorem w_1806 : Cond.codeWith yL_restoreState cL_restoreState 3 (some .int) [(0, 8, 11, 72)] ∈ gw := gw_t 1470 (by decide +kernel) rfl
theorem xw_cast1 : Cond.castable (exN 1) (exN 1) ∈ lw_tbl := List.mem_append_right _ (List.mem_of_getElem? (i := 1084) (by decide +kernel))
theorem xw_cast2 : Cond.castable (exN 2) (exN 2) ∈ lw_tbl := List.mem_append_right _ (List.mem_of_getElem? (i := 1171) (by decide +kernel))
theorem xw_cast3 : Cond.castable (exN 3) (exN 3) ∈ lw_tbl := List.mem_append_right _ (List.mem_of_getElem? (i := 1363) (by decide +kernel))
/-! SpiritWallLaw.estimate(LSpiritWall;II[J)I -/
theorem dL_estimate_0 : decode cL_estimate 0 = .ok (.aload_n 3, 1) := by decide +kernel
theorem dL_estimate_1 : decode cL_estimate 1 = .ok (.iconst 0, 1) := by decide +kernel
theorem dL_estimate_2 : decode cL_estimate 2 = .ok (.aload_n 0, 1) := by decide +kernel
theorem dL_estimate_3 : decode cL_estimate 3 = .ok (.iload_n 1, 1) := by decide +kernel
theorem dL_estimate_4 : decode cL_estimate 4 = .ok (.iload_n 2, 1) := by decide +kernel
theorem dL_estimate_5 : decode cL_estimate 5 = .ok (.invokevirtual 7, 3) := by decide +kernel
theorem dL_estimate_8 : decode cL_estimate 8 = .ok (.i2l, 1) := by decide +kernel
theorem dL_estimate_9 : decode cL_estimate 9 = .ok (.lastore, 1) := by decide +kernel
theorem dL_estimate_10 : decode cL_estimate 10 = .ok (.goto 7, 3) := by decide +kernel
theorem dL_estimate_13 : decode cL_estimate 13 = .ok (.astore 4, 2) := by decide +kernel
theorem dL_estimate_15 : decode cL_estimate 15 = .ok (.iconst 1, 1) := by decide +kernel
theorem dL_estimate_16 : decode cL_estimate 16 = .ok (.ireturn, 1) := by decide +kernel
theorem dL_estimate_17 : decode cL_estimate 17 = .ok (.iconst 0, 1) := by decide +kernel
theorem dL_estimate_18 : decode cL_estimate 18 = .ok (.ireturn, 1) := by decide +kernel
def rmL_estimate : Room := rmk 13 2 12 312
theorem nL_estimate : nameOk yL_estimate 4 = true := by decide +kernel
def bL_estimate_0 (J : JT) : List Value → Sem
  | [.ref x0, .int x1, .int x2, .ref x3] =>
    ob 10 x0 (cIx SX10_estimate [.ref x0, .int x1, .int x2] (fun v1 =>
    sJ x3 0 (v1.toInt64) <|
    rI 0)
    fun k => match k with
    | 1 => rI 1
    | _ => no)
  | _ => no
def bL_estimate (J : JT) : JT := fun L a => match L with
  | 0 => bL_estimate_0 J a
  | _ => no
def SL_estimate : ST := mk 5 bL_estimate
def lL_estimate (L : Nat) (a : List Value) : Nat × Nat × Nat × List (Nat × Value) × List Value := match L with
  | 0 => (0, 0, 0, lv_args 0 a, [])
  | _ => (0, 0, 0, [], [])
theorem pL_estimate_0 {Γ : CT} (hC : Ctx Γ "SpiritWallLaw" cL_estimate 5 (some .int) rmL_estimate) (hTab : (kC Γ).exceptionTable.toList = tableOf [(0, 10, 13, 13)]) (hN : NcA (kS Γ)) (J : JT) (a : List Value) : Cor Γ 5 0 0 0 (lv_args 0 a) [] (bL_estimate_0 J a) := by
  unfold bL_estimate_0
  split
  · rename_i x0 x1 x2 x3
    refine c_sub [0, 1, 2, 3] rfl (loc' := [(0, .ref x0), (1, .int x1), (2, .int x2), (3, .ref x3)]) ?_
    refine q_aload_n hC 3 dL_estimate_0 rfl rfl ?_
    refine q_iconst hC dL_estimate_1 rfl ?_
    refine q_aload_n hC 0 dL_estimate_2 rfl rfl ?_
    refine q_iload_n hC 1 dL_estimate_3 rfl rfl ?_
    refine q_iload_n hC 2 dL_estimate_4 rfl rfl ?_
    refine q_xVI hC (stk := [.int 0, .ref x3]) (as := [.int x1, .int x2]) sX10_estimate (ci := 10) (by decide) rfl nX10_estimate rfl w_1292 w_1293 w_1294 w_27 w_1295 (Nat.le_of_ble_eq_true rfl) dL_estimate_5 rfl (fun v1 => ?_) ?_
    · refine q_i2l hC dL_estimate_8 ?_
      refine q_last hC dL_estimate_9 ?_
      refine q_goto hC 17 dL_estimate_10 rfl ?_
      refine q_iconst hC dL_estimate_17 rfl ?_
      exact q_iret hC dL_estimate_18 (Nat.le_of_ble_eq_true rfl) (Nat.le_of_ble_eq_true rfl)
    · intro k
      match k with
      | 1 =>
        refine q_hand hC hTab hN [] [] (by decide) rfl (by intro z hz; cases hz) (by decide) (by decide) w_1291 xw_cast1 (astU hC dL_estimate_13 (by decide) ?_)
        refine q_iconst hC dL_estimate_15 rfl ?_
        exact q_iret hC dL_estimate_16 (Nat.le_of_ble_eq_true rfl) (Nat.le_of_ble_eq_true rfl)
      | 0 => exact q_noH
      | 2 => exact q_noH
      | 3 => exact q_noH
      | k + 4 => exact q_noH
  · exact c_no
theorem sL_estimate : SndN yL_estimate (.codeWith yL_estimate cL_estimate 5 (some .int) [(0, 10, 13, 13)]) rmL_estimate SL_estimate := by
  refine SndN.of lL_estimate (by decide +kernel) (fun _ => rfl) ?_
  intro Γ hC hTab hN J hJ L a
  match L with
  | 0 => exact pL_estimate_0 hC hTab hN J a
  | L + 1 => exact c_no
/-! SpiritWallLaw.mark(LSpiritWall;II[J)I -/
theorem dL_mark_0 : decode cL_mark 0 = .ok (.aload_n 3, 1) := by decide +kernel
theorem dL_mark_1 : decode cL_mark 1 = .ok (.iconst 0, 1) := by decide +kernel
theorem dL_mark_2 : decode cL_mark 2 = .ok (.aload_n 0, 1) := by decide +kernel
theorem dL_mark_3 : decode cL_mark 3 = .ok (.iload_n 1, 1) := by decide +kernel
theorem dL_mark_4 : decode cL_mark 4 = .ok (.iload_n 2, 1) := by decide +kernel
theorem dL_mark_5 : decode cL_mark 5 = .ok (.invokevirtual 15, 3) := by decide +kernel
theorem dL_mark_8 : decode cL_mark 8 = .ok (.i2l, 1) := by decide +kernel
theorem dL_mark_9 : decode cL_mark 9 = .ok (.lastore, 1) := by decide +kernel
theorem dL_mark_10 : decode cL_mark 10 = .ok (.goto 11, 3) := by decide +kernel
theorem dL_mark_13 : decode cL_mark 13 = .ok (.astore 4, 2) := by decide +kernel
theorem dL_mark_15 : decode cL_mark 15 = .ok (.iconst 1, 1) := by decide +kernel
theorem dL_mark_16 : decode cL_mark 16 = .ok (.ireturn, 1) := by decide +kernel
theorem dL_mark_17 : decode cL_mark 17 = .ok (.astore 4, 2) := by decide +kernel
theorem dL_mark_19 : decode cL_mark 19 = .ok (.iconst 2, 1) := by decide +kernel
theorem dL_mark_20 : decode cL_mark 20 = .ok (.ireturn, 1) := by decide +kernel
theorem dL_mark_21 : decode cL_mark 21 = .ok (.iconst 0, 1) := by decide +kernel
theorem dL_mark_22 : decode cL_mark 22 = .ok (.ireturn, 1) := by decide +kernel
def rmL_mark : Room := rmk 14 2 12 333
theorem nL_mark : nameOk yL_mark 4 = true := by decide +kernel
def bL_mark_0 (J : JT) : List Value → Sem
  | [.ref x0, .int x1, .int x2, .ref x3] =>
    ob 10 x0 (cIx SX10_mark [.ref x0, .int x1, .int x2] (fun v1 =>
    sJ x3 0 (v1.toInt64) <|
    rI 0)
    fun k => match k with
    | 1 => rI 1
    | 2 => rI 2
    | _ => no)
  | _ => no
def bL_mark (J : JT) : JT := fun L a => match L with
  | 0 => bL_mark_0 J a
  | _ => no
def SL_mark : ST := mk 5 bL_mark
def lL_mark (L : Nat) (a : List Value) : Nat × Nat × Nat × List (Nat × Value) × List Value := match L with
  | 0 => (0, 0, 0, lv_args 0 a, [])
  | _ => (0, 0, 0, [], [])
theorem pL_mark_0 {Γ : CT} (hC : Ctx Γ "SpiritWallLaw" cL_mark 5 (some .int) rmL_mark) (hTab : (kC Γ).exceptionTable.toList = tableOf [(0, 10, 13, 13), (0, 10, 17, 18)]) (hN : NcA (kS Γ)) (J : JT) (a : List Value) : Cor Γ 5 0 0 0 (lv_args 0 a) [] (bL_mark_0 J a) := by
  unfold bL_mark_0
  split
  · rename_i x0 x1 x2 x3
    refine c_sub [0, 1, 2, 3] rfl (loc' := [(0, .ref x0), (1, .int x1), (2, .int x2), (3, .ref x3)]) ?_
    refine q_aload_n hC 3 dL_mark_0 rfl rfl ?_
    refine q_iconst hC dL_mark_1 rfl ?_
    refine q_aload_n hC 0 dL_mark_2 rfl rfl ?_
    refine q_iload_n hC 1 dL_mark_3 rfl rfl ?_
    refine q_iload_n hC 2 dL_mark_4 rfl rfl ?_
    refine q_xVI hC (stk := [.int 0, .ref x3]) (as := [.int x1, .int x2]) sX10_mark (ci := 10) (by decide) rfl nX10_mark rfl w_1297 w_1298 w_1299 w_27 w_1300 (Nat.le_of_ble_eq_true rfl) dL_mark_5 rfl (fun v1 => ?_) ?_
    · refine q_i2l hC dL_mark_8 ?_
      refine q_last hC dL_mark_9 ?_
      refine q_goto hC 21 dL_mark_10 rfl ?_
      refine q_iconst hC dL_mark_21 rfl ?_
      exact q_iret hC dL_mark_22 (Nat.le_of_ble_eq_true rfl) (Nat.le_of_ble_eq_true rfl)
    · intro k
      match k with
      | 1 =>
        refine q_hand hC hTab hN [] [(0, 10, 17, 18)] (by decide) rfl (by intro z hz; cases hz) (by decide) (by decide) w_1291 xw_cast1 (astU hC dL_mark_13 (by decide) ?_)
        refine q_iconst hC dL_mark_15 rfl ?_
        exact q_iret hC dL_mark_16 (Nat.le_of_ble_eq_true rfl) (Nat.le_of_ble_eq_true rfl)
      | 2 =>
        refine q_hand hC hTab hN [(0, 10, 13, 13)] [] (by decide) rfl (by simp only [List.forall_mem_cons]; exact ⟨⟨by decide, 1, by decide, by decide, by decide, w_1291⟩, fun z hz => nomatch hz⟩) (by decide) (by decide) w_1296 xw_cast2 (astU hC dL_mark_17 (by decide) ?_)
        refine q_iconst hC dL_mark_19 rfl ?_
        exact q_iret hC dL_mark_20 (Nat.le_of_ble_eq_true rfl) (Nat.le_of_ble_eq_true rfl)
      | 0 => exact q_noH
      | 3 => exact q_noH
      | k + 4 => exact q_noH
  · exact c_no
theorem sL_mark : SndN yL_mark (.codeWith yL_mark cL_mark 5 (some .int) [(0, 10, 13, 13), (0, 10, 17, 18)]) rmL_mark SL_mark := by
  refine SndN.of lL_mark (by decide +kernel) (fun _ => rfl) ?_
  intro Γ hC hTab hN J hJ L a
  match L with
  | 0 => exact pL_mark_0 hC hTab hN J a
  | L + 1 => exact c_no
/-! SpiritWallLaw.height(LSpiritWall;I[J)I -/
theorem dL_height_0 : decode cL_height 0 = .ok (.aload_n 2, 1) := by decide +kernel
theorem dL_height_1 : decode cL_height 1 = .ok (.iconst 0, 1) := by decide +kernel
theorem dL_height_2 : decode cL_height 2 = .ok (.aload_n 0, 1) := by decide +kernel
theorem dL_height_3 : decode cL_height 3 = .ok (.iload_n 1, 1) := by decide +kernel
theorem dL_height_4 : decode cL_height 4 = .ok (.invokevirtual 20, 3) := by decide +kernel
theorem dL_height_7 : decode cL_height 7 = .ok (.i2l, 1) := by decide +kernel
theorem dL_height_8 : decode cL_height 8 = .ok (.lastore, 1) := by decide +kernel
theorem dL_height_9 : decode cL_height 9 = .ok (.goto 6, 3) := by decide +kernel
theorem dL_height_12 : decode cL_height 12 = .ok (.astore_n 3, 1) := by decide +kernel
theorem dL_height_13 : decode cL_height 13 = .ok (.iconst 1, 1) := by decide +kernel
theorem dL_height_14 : decode cL_height 14 = .ok (.ireturn, 1) := by decide +kernel
theorem dL_height_15 : decode cL_height 15 = .ok (.iconst 0, 1) := by decide +kernel
theorem dL_height_16 : decode cL_height 16 = .ok (.ireturn, 1) := by decide +kernel
def rmL_height : Room := rmk 10 1 6 234
theorem nL_height : nameOk yL_height 3 = true := by decide +kernel
def bL_height_0 (J : JT) : List Value → Sem
  | [.ref x0, .int x1, .ref x2] =>
    ob 10 x0 (cIx SX10_height [.ref x0, .int x1] (fun v1 =>
    sJ x2 0 (v1.toInt64) <|
    rI 0)
    fun k => match k with
    | 1 => rI 1
    | _ => no)
  | _ => no
def bL_height (J : JT) : JT := fun L a => match L with
  | 0 => bL_height_0 J a
  | _ => no
def SL_height : ST := mk 4 bL_height
def lL_height (L : Nat) (a : List Value) : Nat × Nat × Nat × List (Nat × Value) × List Value := match L with
  | 0 => (0, 0, 0, lv_args 0 a, [])
  | _ => (0, 0, 0, [], [])
theorem pL_height_0 {Γ : CT} (hC : Ctx Γ "SpiritWallLaw" cL_height 4 (some .int) rmL_height) (hTab : (kC Γ).exceptionTable.toList = tableOf [(0, 9, 12, 13)]) (hN : NcA (kS Γ)) (J : JT) (a : List Value) : Cor Γ 4 0 0 0 (lv_args 0 a) [] (bL_height_0 J a) := by
  unfold bL_height_0
  split
  · rename_i x0 x1 x2
    refine c_sub [0, 1, 2] rfl (loc' := [(0, .ref x0), (1, .int x1), (2, .ref x2)]) ?_
    refine q_aload_n hC 2 dL_height_0 rfl rfl ?_
    refine q_iconst hC dL_height_1 rfl ?_
    refine q_aload_n hC 0 dL_height_2 rfl rfl ?_
    refine q_iload_n hC 1 dL_height_3 rfl rfl ?_
    refine q_xVI hC (stk := [.int 0, .ref x2]) (as := [.int x1]) sX10_height (ci := 10) (by decide) rfl nX10_height rfl w_1301 w_1302 w_1303 w_27 w_1304 (Nat.le_of_ble_eq_true rfl) dL_height_4 rfl (fun v1 => ?_) ?_
    · refine q_i2l hC dL_height_7 ?_
      refine q_last hC dL_height_8 ?_
      refine q_goto hC 15 dL_height_9 rfl ?_
      refine q_iconst hC dL_height_15 rfl ?_
      exact q_iret hC dL_height_16 (Nat.le_of_ble_eq_true rfl) (Nat.le_of_ble_eq_true rfl)
    · intro k
      match k with
      | 1 =>
        refine q_hand hC hTab hN [] [] (by decide) rfl (by intro z hz; cases hz) (by decide) (by decide) w_1291 xw_cast1 (astU_n hC dL_height_12 rfl (by decide) ?_)
        refine q_iconst hC dL_height_13 rfl ?_
        exact q_iret hC dL_height_14 (Nat.le_of_ble_eq_true rfl) (Nat.le_of_ble_eq_true rfl)
      | 0 => exact q_noH
      | 2 => exact q_noH
      | 3 => exact q_noH
      | k + 4 => exact q_noH
  · exact c_no
theorem sL_height : SndN yL_height (.codeWith yL_height cL_height 4 (some .int) [(0, 9, 12, 13)]) rmL_height SL_height := by
  refine SndN.of lL_height (by decide +kernel) (fun _ => rfl) ?_
  intro Γ hC hTab hN J hJ L a
  match L with
  | 0 => exact pL_height_0 hC hTab hN J a
  | L + 1 => exact c_no
/-! SpiritWallLaw.whyNone(LSpiritWall;I[J)I -/
theorem dL_whyNone_0 : decode cL_whyNone 0 = .ok (.aload_n 2, 1) := by decide +kernel
theorem dL_whyNone_1 : decode cL_whyNone 1 = .ok (.iconst 0, 1) := by decide +kernel
theorem dL_whyNone_2 : decode cL_whyNone 2 = .ok (.aload_n 0, 1) := by decide +kernel
theorem dL_whyNone_3 : decode cL_whyNone 3 = .ok (.iload_n 1, 1) := by decide +kernel
theorem dL_whyNone_4 : decode cL_whyNone 4 = .ok (.invokevirtual 24, 3) := by decide +kernel
theorem dL_whyNone_7 : decode cL_whyNone 7 = .ok (.i2l, 1) := by decide +kernel
theorem dL_whyNone_8 : decode cL_whyNone 8 = .ok (.lastore, 1) := by decide +kernel
theorem dL_whyNone_9 : decode cL_whyNone 9 = .ok (.goto 6, 3) := by decide +kernel
theorem dL_whyNone_12 : decode cL_whyNone 12 = .ok (.astore_n 3, 1) := by decide +kernel
theorem dL_whyNone_13 : decode cL_whyNone 13 = .ok (.iconst 1, 1) := by decide +kernel
theorem dL_whyNone_14 : decode cL_whyNone 14 = .ok (.ireturn, 1) := by decide +kernel
theorem dL_whyNone_15 : decode cL_whyNone 15 = .ok (.iconst 0, 1) := by decide +kernel
theorem dL_whyNone_16 : decode cL_whyNone 16 = .ok (.ireturn, 1) := by decide +kernel
def rmL_whyNone : Room := rmk 14 1 6 332
theorem nL_whyNone : nameOk yL_whyNone 3 = true := by decide +kernel
def bL_whyNone_0 (J : JT) : List Value → Sem
  | [.ref x0, .int x1, .ref x2] =>
    ob 10 x0 (cIx SX10_whyNone [.ref x0, .int x1] (fun v1 =>
    sJ x2 0 (v1.toInt64) <|
    rI 0)
    fun k => match k with
    | 1 => rI 1
    | _ => no)
  | _ => no
def bL_whyNone (J : JT) : JT := fun L a => match L with
  | 0 => bL_whyNone_0 J a
  | _ => no
def SL_whyNone : ST := mk 4 bL_whyNone
def lL_whyNone (L : Nat) (a : List Value) : Nat × Nat × Nat × List (Nat × Value) × List Value := match L with
  | 0 => (0, 0, 0, lv_args 0 a, [])
  | _ => (0, 0, 0, [], [])
theorem pL_whyNone_0 {Γ : CT} (hC : Ctx Γ "SpiritWallLaw" cL_whyNone 4 (some .int) rmL_whyNone) (hTab : (kC Γ).exceptionTable.toList = tableOf [(0, 9, 12, 13)]) (hN : NcA (kS Γ)) (J : JT) (a : List Value) : Cor Γ 4 0 0 0 (lv_args 0 a) [] (bL_whyNone_0 J a) := by
  unfold bL_whyNone_0
  split
  · rename_i x0 x1 x2
    refine c_sub [0, 1, 2] rfl (loc' := [(0, .ref x0), (1, .int x1), (2, .ref x2)]) ?_
    refine q_aload_n hC 2 dL_whyNone_0 rfl rfl ?_
    refine q_iconst hC dL_whyNone_1 rfl ?_
    refine q_aload_n hC 0 dL_whyNone_2 rfl rfl ?_
    refine q_iload_n hC 1 dL_whyNone_3 rfl rfl ?_
    refine q_xVI hC (stk := [.int 0, .ref x2]) (as := [.int x1]) sX10_whyNone (ci := 10) (by decide) rfl nX10_whyNone rfl w_1305 w_1306 w_1307 w_27 w_1308 (Nat.le_of_ble_eq_true rfl) dL_whyNone_4 rfl (fun v1 => ?_) ?_
    · refine q_i2l hC dL_whyNone_7 ?_
      refine q_last hC dL_whyNone_8 ?_
      refine q_goto hC 15 dL_whyNone_9 rfl ?_
      refine q_iconst hC dL_whyNone_15 rfl ?_
      exact q_iret hC dL_whyNone_16 (Nat.le_of_ble_eq_true rfl) (Nat.le_of_ble_eq_true rfl)
    · intro k
      match k with
      | 1 =>
        refine q_hand hC hTab hN [] [] (by decide) rfl (by intro z hz; cases hz) (by decide) (by decide) w_1291 xw_cast1 (astU_n hC dL_whyNone_12 rfl (by decide) ?_)
        refine q_iconst hC dL_whyNone_13 rfl ?_
        exact q_iret hC dL_whyNone_14 (Nat.le_of_ble_eq_true rfl) (Nat.le_of_ble_eq_true rfl)
      | 0 => exact q_noH
      | 2 => exact q_noH
      | 3 => exact q_noH
      | k + 4 => exact q_noH
  · exact c_no
theorem sL_whyNone : SndN yL_whyNone (.codeWith yL_whyNone cL_whyNone 4 (some .int) [(0, 9, 12, 13)]) rmL_whyNone SL_whyNone := by
  refine SndN.of lL_whyNone (by decide +kernel) (fun _ => rfl) ?_
  intro Γ hC hTab hN J hJ L a
  match L with
  | 0 => exact pL_whyNone_0 hC hTab hN J a
  | L + 1 => exact c_no
/-! SpiritWallLaw.sight(LSpiritWall;II[J)I -/
theorem dL_sight_0 : decode cL_sight 0 = .ok (.aload_n 3, 1) := by decide +kernel
theorem dL_sight_1 : decode cL_sight 1 = .ok (.iconst 0, 1) := by decide +kernel
theorem dL_sight_2 : decode cL_sight 2 = .ok (.aload_n 0, 1) := by decide +kernel
theorem dL_sight_3 : decode cL_sight 3 = .ok (.iload_n 1, 1) := by decide +kernel
theorem dL_sight_4 : decode cL_sight 4 = .ok (.iload_n 2, 1) := by decide +kernel
theorem dL_sight_5 : decode cL_sight 5 = .ok (.invokevirtual 27, 3) := by decide +kernel
theorem dL_sight_8 : decode cL_sight 8 = .ok (.i2l, 1) := by decide +kernel
theorem dL_sight_9 : decode cL_sight 9 = .ok (.lastore, 1) := by decide +kernel
theorem dL_sight_10 : decode cL_sight 10 = .ok (.goto 11, 3) := by decide +kernel
theorem dL_sight_13 : decode cL_sight 13 = .ok (.astore 4, 2) := by decide +kernel
theorem dL_sight_15 : decode cL_sight 15 = .ok (.iconst 1, 1) := by decide +kernel
theorem dL_sight_16 : decode cL_sight 16 = .ok (.ireturn, 1) := by decide +kernel
theorem dL_sight_17 : decode cL_sight 17 = .ok (.astore 4, 2) := by decide +kernel
theorem dL_sight_19 : decode cL_sight 19 = .ok (.iconst 2, 1) := by decide +kernel
theorem dL_sight_20 : decode cL_sight 20 = .ok (.ireturn, 1) := by decide +kernel
theorem dL_sight_21 : decode cL_sight 21 = .ok (.iconst 0, 1) := by decide +kernel
theorem dL_sight_22 : decode cL_sight 22 = .ok (.ireturn, 1) := by decide +kernel
def rmL_sight : Room := rmk 13 2 12 312
theorem nL_sight : nameOk yL_sight 4 = true := by decide +kernel
def bL_sight_0 (J : JT) : List Value → Sem
  | [.ref x0, .int x1, .int x2, .ref x3] =>
    ob 10 x0 (cIx SX10_sight [.ref x0, .int x1, .int x2] (fun v1 =>
    sJ x3 0 (v1.toInt64) <|
    rI 0)
    fun k => match k with
    | 1 => rI 1
    | 2 => rI 2
    | _ => no)
  | _ => no
def bL_sight (J : JT) : JT := fun L a => match L with
  | 0 => bL_sight_0 J a
  | _ => no
def SL_sight : ST := mk 5 bL_sight
def lL_sight (L : Nat) (a : List Value) : Nat × Nat × Nat × List (Nat × Value) × List Value := match L with
  | 0 => (0, 0, 0, lv_args 0 a, [])
  | _ => (0, 0, 0, [], [])
theorem pL_sight_0 {Γ : CT} (hC : Ctx Γ "SpiritWallLaw" cL_sight 5 (some .int) rmL_sight) (hTab : (kC Γ).exceptionTable.toList = tableOf [(0, 10, 13, 13), (0, 10, 17, 18)]) (hN : NcA (kS Γ)) (J : JT) (a : List Value) : Cor Γ 5 0 0 0 (lv_args 0 a) [] (bL_sight_0 J a) := by
  unfold bL_sight_0
  split
  · rename_i x0 x1 x2 x3
    refine c_sub [0, 1, 2, 3] rfl (loc' := [(0, .ref x0), (1, .int x1), (2, .int x2), (3, .ref x3)]) ?_
    refine q_aload_n hC 3 dL_sight_0 rfl rfl ?_
    refine q_iconst hC dL_sight_1 rfl ?_
    refine q_aload_n hC 0 dL_sight_2 rfl rfl ?_
    refine q_iload_n hC 1 dL_sight_3 rfl rfl ?_
    refine q_iload_n hC 2 dL_sight_4 rfl rfl ?_
    refine q_xVI hC (stk := [.int 0, .ref x3]) (as := [.int x1, .int x2]) sX10_sight (ci := 10) (by decide) rfl nX10_sight rfl w_1309 w_1310 w_1311 w_27 w_1312 (Nat.le_of_ble_eq_true rfl) dL_sight_5 rfl (fun v1 => ?_) ?_
    · refine q_i2l hC dL_sight_8 ?_
      refine q_last hC dL_sight_9 ?_
      refine q_goto hC 21 dL_sight_10 rfl ?_
      refine q_iconst hC dL_sight_21 rfl ?_
      exact q_iret hC dL_sight_22 (Nat.le_of_ble_eq_true rfl) (Nat.le_of_ble_eq_true rfl)
    · intro k
      match k with
      | 1 =>
        refine q_hand hC hTab hN [] [(0, 10, 17, 18)] (by decide) rfl (by intro z hz; cases hz) (by decide) (by decide) w_1291 xw_cast1 (astU hC dL_sight_13 (by decide) ?_)
        refine q_iconst hC dL_sight_15 rfl ?_
        exact q_iret hC dL_sight_16 (Nat.le_of_ble_eq_true rfl) (Nat.le_of_ble_eq_true rfl)
      | 2 =>
        refine q_hand hC hTab hN [(0, 10, 13, 13)] [] (by decide) rfl (by simp only [List.forall_mem_cons]; exact ⟨⟨by decide, 1, by decide, by decide, by decide, w_1291⟩, fun z hz => nomatch hz⟩) (by decide) (by decide) w_1296 xw_cast2 (astU hC dL_sight_17 (by decide) ?_)
        refine q_iconst hC dL_sight_19 rfl ?_
        exact q_iret hC dL_sight_20 (Nat.le_of_ble_eq_true rfl) (Nat.le_of_ble_eq_true rfl)
      | 0 => exact q_noH
      | 3 => exact q_noH
      | k + 4 => exact q_noH
  · exact c_no
theorem sL_sight : SndN yL_sight (.codeWith yL_sight cL_sight 5 (some .int) [(0, 10, 13, 13), (0, 10, 17, 18)]) rmL_sight SL_sight := by
  refine SndN.of lL_sight (by decide +kernel) (fun _ => rfl) ?_
  intro Γ hC hTab hN J hJ L a
  match L with
  | 0 => exact pL_sight_0 hC hTab hN J a
  | L + 1 => exact c_no
/-! SpiritWallLaw.rise(LSpiritWall;II[J)I -/
theorem dL_rise_0 : decode cL_rise 0 = .ok (.aload_n 3, 1) := by decide +kernel
theorem dL_rise_1 : decode cL_rise 1 = .ok (.iconst 0, 1) := by decide +kernel
theorem dL_rise_2 : decode cL_rise 2 = .ok (.aload_n 0, 1) := by decide +kernel
theorem dL_rise_3 : decode cL_rise 3 = .ok (.iload_n 1, 1) := by decide +kernel
theorem dL_rise_4 : decode cL_rise 4 = .ok (.iload_n 2, 1) := by decide +kernel
theorem dL_rise_5 : decode cL_rise 5 = .ok (.invokevirtual 30, 3) := by decide +kernel
theorem dL_rise_8 : decode cL_rise 8 = .ok (.i2l, 1) := by decide +kernel
theorem dL_rise_9 : decode cL_rise 9 = .ok (.lastore, 1) := by decide +kernel
theorem dL_rise_10 : decode cL_rise 10 = .ok (.goto 7, 3) := by decide +kernel
theorem dL_rise_13 : decode cL_rise 13 = .ok (.astore 4, 2) := by decide +kernel
theorem dL_rise_15 : decode cL_rise 15 = .ok (.iconst 1, 1) := by decide +kernel
theorem dL_rise_16 : decode cL_rise 16 = .ok (.ireturn, 1) := by decide +kernel
theorem dL_rise_17 : decode cL_rise 17 = .ok (.iconst 0, 1) := by decide +kernel
theorem dL_rise_18 : decode cL_rise 18 = .ok (.ireturn, 1) := by decide +kernel
def rmL_rise : Room := rmk 13 2 12 313
theorem nL_rise : nameOk yL_rise 4 = true := by decide +kernel
def bL_rise_0 (J : JT) : List Value → Sem
  | [.ref x0, .int x1, .int x2, .ref x3] =>
    ob 10 x0 (cIx SX10_rise [.ref x0, .int x1, .int x2] (fun v1 =>
    sJ x3 0 (v1.toInt64) <|
    rI 0)
    fun k => match k with
    | 1 => rI 1
    | _ => no)
  | _ => no
def bL_rise (J : JT) : JT := fun L a => match L with
  | 0 => bL_rise_0 J a
  | _ => no
def SL_rise : ST := mk 5 bL_rise
def lL_rise (L : Nat) (a : List Value) : Nat × Nat × Nat × List (Nat × Value) × List Value := match L with
  | 0 => (0, 0, 0, lv_args 0 a, [])
  | _ => (0, 0, 0, [], [])
theorem pL_rise_0 {Γ : CT} (hC : Ctx Γ "SpiritWallLaw" cL_rise 5 (some .int) rmL_rise) (hTab : (kC Γ).exceptionTable.toList = tableOf [(0, 10, 13, 13)]) (hN : NcA (kS Γ)) (J : JT) (a : List Value) : Cor Γ 5 0 0 0 (lv_args 0 a) [] (bL_rise_0 J a) := by
  unfold bL_rise_0
  split
  · rename_i x0 x1 x2 x3
    refine c_sub [0, 1, 2, 3] rfl (loc' := [(0, .ref x0), (1, .int x1), (2, .int x2), (3, .ref x3)]) ?_
    refine q_aload_n hC 3 dL_rise_0 rfl rfl ?_
    refine q_iconst hC dL_rise_1 rfl ?_
    refine q_aload_n hC 0 dL_rise_2 rfl rfl ?_
    refine q_iload_n hC 1 dL_rise_3 rfl rfl ?_
    refine q_iload_n hC 2 dL_rise_4 rfl rfl ?_
    refine q_xVI hC (stk := [.int 0, .ref x3]) (as := [.int x1, .int x2]) sX10_rise (ci := 10) (by decide) rfl nX10_rise rfl w_1313 w_1314 w_1315 w_27 w_1316 (Nat.le_of_ble_eq_true rfl) dL_rise_5 rfl (fun v1 => ?_) ?_
    · refine q_i2l hC dL_rise_8 ?_
      refine q_last hC dL_rise_9 ?_
      refine q_goto hC 17 dL_rise_10 rfl ?_
      refine q_iconst hC dL_rise_17 rfl ?_
      exact q_iret hC dL_rise_18 (Nat.le_of_ble_eq_true rfl) (Nat.le_of_ble_eq_true rfl)
    · intro k
      match k with
      | 1 =>
        refine q_hand hC hTab hN [] [] (by decide) rfl (by intro z hz; cases hz) (by decide) (by decide) w_1291 xw_cast1 (astU hC dL_rise_13 (by decide) ?_)
        refine q_iconst hC dL_rise_15 rfl ?_
        exact q_iret hC dL_rise_16 (Nat.le_of_ble_eq_true rfl) (Nat.le_of_ble_eq_true rfl)
      | 0 => exact q_noH
      | 2 => exact q_noH
      | 3 => exact q_noH
      | k + 4 => exact q_noH
  · exact c_no
theorem sL_rise : SndN yL_rise (.codeWith yL_rise cL_rise 5 (some .int) [(0, 10, 13, 13)]) rmL_rise SL_rise := by
  refine SndN.of lL_rise (by decide +kernel) (fun _ => rfl) ?_
  intro Γ hC hTab hN J hJ L a
  match L with
  | 0 => exact pL_rise_0 hC hTab hN J a
  | L + 1 => exact c_no
/-! SpiritWallLaw.edge(LSpiritWall;III[J)I -/
theorem dL_edge_0 : decode cL_edge 0 = .ok (.aload 4, 2) := by decide +kernel
theorem dL_edge_2 : decode cL_edge 2 = .ok (.iconst 0, 1) := by decide +kernel
theorem dL_edge_3 : decode cL_edge 3 = .ok (.aload_n 0, 1) := by decide +kernel
theorem dL_edge_4 : decode cL_edge 4 = .ok (.iload_n 1, 1) := by decide +kernel
theorem dL_edge_5 : decode cL_edge 5 = .ok (.iload_n 2, 1) := by decide +kernel
theorem dL_edge_6 : decode cL_edge 6 = .ok (.iload_n 3, 1) := by decide +kernel
theorem dL_edge_7 : decode cL_edge 7 = .ok (.invokevirtual 33, 3) := by decide +kernel
theorem dL_edge_10 : decode cL_edge 10 = .ok (.i2l, 1) := by decide +kernel
theorem dL_edge_11 : decode cL_edge 11 = .ok (.lastore, 1) := by decide +kernel
theorem dL_edge_12 : decode cL_edge 12 = .ok (.goto 11, 3) := by decide +kernel
theorem dL_edge_15 : decode cL_edge 15 = .ok (.astore 5, 2) := by decide +kernel
theorem dL_edge_17 : decode cL_edge 17 = .ok (.iconst 1, 1) := by decide +kernel
theorem dL_edge_18 : decode cL_edge 18 = .ok (.ireturn, 1) := by decide +kernel
theorem dL_edge_19 : decode cL_edge 19 = .ok (.astore 5, 2) := by decide +kernel
theorem dL_edge_21 : decode cL_edge 21 = .ok (.iconst 2, 1) := by decide +kernel
theorem dL_edge_22 : decode cL_edge 22 = .ok (.ireturn, 1) := by decide +kernel
theorem dL_edge_23 : decode cL_edge 23 = .ok (.iconst 0, 1) := by decide +kernel
theorem dL_edge_24 : decode cL_edge 24 = .ok (.ireturn, 1) := by decide +kernel
def rmL_edge : Room := rmk 14 3 18 335
theorem nL_edge : nameOk yL_edge 5 = true := by decide +kernel
def bL_edge_0 (J : JT) : List Value → Sem
  | [.ref x0, .int x1, .int x2, .int x3, .ref x4] =>
    ob 10 x0 (cIx SX10_edge [.ref x0, .int x1, .int x2, .int x3] (fun v1 =>
    sJ x4 0 (v1.toInt64) <|
    rI 0)
    fun k => match k with
    | 1 => rI 1
    | 2 => rI 2
    | _ => no)
  | _ => no
def bL_edge (J : JT) : JT := fun L a => match L with
  | 0 => bL_edge_0 J a
  | _ => no
def SL_edge : ST := mk 6 bL_edge
def lL_edge (L : Nat) (a : List Value) : Nat × Nat × Nat × List (Nat × Value) × List Value := match L with
  | 0 => (0, 0, 0, lv_args 0 a, [])
  | _ => (0, 0, 0, [], [])
theorem pL_edge_0 {Γ : CT} (hC : Ctx Γ "SpiritWallLaw" cL_edge 6 (some .int) rmL_edge) (hTab : (kC Γ).exceptionTable.toList = tableOf [(0, 12, 15, 13), (0, 12, 19, 18)]) (hN : NcA (kS Γ)) (J : JT) (a : List Value) : Cor Γ 6 0 0 0 (lv_args 0 a) [] (bL_edge_0 J a) := by
  unfold bL_edge_0
  split
  · rename_i x0 x1 x2 x3 x4
    refine c_sub [0, 1, 2, 3, 4] rfl (loc' := [(0, .ref x0), (1, .int x1), (2, .int x2), (3, .int x3), (4, .ref x4)]) ?_
    refine q_aload hC 4 dL_edge_0 rfl ?_
    refine q_iconst hC dL_edge_2 rfl ?_
    refine q_aload_n hC 0 dL_edge_3 rfl rfl ?_
    refine q_iload_n hC 1 dL_edge_4 rfl rfl ?_
    refine q_iload_n hC 2 dL_edge_5 rfl rfl ?_
    refine q_iload_n hC 3 dL_edge_6 rfl rfl ?_
    refine q_xVI hC (stk := [.int 0, .ref x4]) (as := [.int x1, .int x2, .int x3]) sX10_edge (ci := 10) (by decide) rfl nX10_edge rfl w_1317 w_1318 w_1319 w_27 w_1320 (Nat.le_of_ble_eq_true rfl) dL_edge_7 rfl (fun v1 => ?_) ?_
    · refine q_i2l hC dL_edge_10 ?_
      refine q_last hC dL_edge_11 ?_
      refine q_goto hC 23 dL_edge_12 rfl ?_
      refine q_iconst hC dL_edge_23 rfl ?_
      exact q_iret hC dL_edge_24 (Nat.le_of_ble_eq_true rfl) (Nat.le_of_ble_eq_true rfl)
    · intro k
      match k with
      | 1 =>
        refine q_hand hC hTab hN [] [(0, 12, 19, 18)] (by decide) rfl (by intro z hz; cases hz) (by decide) (by decide) w_1291 xw_cast1 (astU hC dL_edge_15 (by decide) ?_)
        refine q_iconst hC dL_edge_17 rfl ?_
        exact q_iret hC dL_edge_18 (Nat.le_of_ble_eq_true rfl) (Nat.le_of_ble_eq_true rfl)
      | 2 =>
        refine q_hand hC hTab hN [(0, 12, 15, 13)] [] (by decide) rfl (by simp only [List.forall_mem_cons]; exact ⟨⟨by decide, 1, by decide, by decide, by decide, w_1291⟩, fun z hz => nomatch hz⟩) (by decide) (by decide) w_1296 xw_cast2 (astU hC dL_edge_19 (by decide) ?_)
        refine q_iconst hC dL_edge_21 rfl ?_
        exact q_iret hC dL_edge_22 (Nat.le_of_ble_eq_true rfl) (Nat.le_of_ble_eq_true rfl)
      | 0 => exact q_noH
      | 3 => exact q_noH
      | k + 4 => exact q_noH
  · exact c_no
theorem sL_edge : SndN yL_edge (.codeWith yL_edge cL_edge 6 (some .int) [(0, 12, 15, 13), (0, 12, 19, 18)]) rmL_edge SL_edge := by
  refine SndN.of lL_edge (by decide +kernel) (fun _ => rfl) ?_
  intro Γ hC hTab hN J hJ L a
  match L with
  | 0 => exact pL_edge_0 hC hTab hN J a
  | L + 1 => exact c_no
/-! SpiritWallLaw.along(LSpiritWall;II[J)I -/
theorem dL_along_0 : decode cL_along 0 = .ok (.aload_n 3, 1) := by decide +kernel
theorem dL_along_1 : decode cL_along 1 = .ok (.iconst 0, 1) := by decide +kernel
theorem dL_along_2 : decode cL_along 2 = .ok (.aload_n 0, 1) := by decide +kernel
theorem dL_along_3 : decode cL_along 3 = .ok (.iload_n 1, 1) := by decide +kernel
theorem dL_along_4 : decode cL_along 4 = .ok (.iload_n 2, 1) := by decide +kernel
theorem dL_along_5 : decode cL_along 5 = .ok (.invokevirtual 37, 3) := by decide +kernel
theorem dL_along_8 : decode cL_along 8 = .ok (.i2l, 1) := by decide +kernel
theorem dL_along_9 : decode cL_along 9 = .ok (.lastore, 1) := by decide +kernel
theorem dL_along_10 : decode cL_along 10 = .ok (.goto 7, 3) := by decide +kernel
theorem dL_along_13 : decode cL_along 13 = .ok (.astore 4, 2) := by decide +kernel
theorem dL_along_15 : decode cL_along 15 = .ok (.iconst 1, 1) := by decide +kernel
theorem dL_along_16 : decode cL_along 16 = .ok (.ireturn, 1) := by decide +kernel
theorem dL_along_17 : decode cL_along 17 = .ok (.iconst 0, 1) := by decide +kernel
theorem dL_along_18 : decode cL_along 18 = .ok (.ireturn, 1) := by decide +kernel
def rmL_along : Room := rmk 14 2 12 333
theorem nL_along : nameOk yL_along 4 = true := by decide +kernel
def bL_along_0 (J : JT) : List Value → Sem
  | [.ref x0, .int x1, .int x2, .ref x3] =>
    ob 10 x0 (cIx SX10_along [.ref x0, .int x1, .int x2] (fun v1 =>
    sJ x3 0 (v1.toInt64) <|
    rI 0)
    fun k => match k with
    | 1 => rI 1
    | _ => no)
  | _ => no
def bL_along (J : JT) : JT := fun L a => match L with
  | 0 => bL_along_0 J a
  | _ => no
def SL_along : ST := mk 5 bL_along
def lL_along (L : Nat) (a : List Value) : Nat × Nat × Nat × List (Nat × Value) × List Value := match L with
  | 0 => (0, 0, 0, lv_args 0 a, [])
  | _ => (0, 0, 0, [], [])
theorem pL_along_0 {Γ : CT} (hC : Ctx Γ "SpiritWallLaw" cL_along 5 (some .int) rmL_along) (hTab : (kC Γ).exceptionTable.toList = tableOf [(0, 10, 13, 13)]) (hN : NcA (kS Γ)) (J : JT) (a : List Value) : Cor Γ 5 0 0 0 (lv_args 0 a) [] (bL_along_0 J a) := by
  unfold bL_along_0
  split
  · rename_i x0 x1 x2 x3
    refine c_sub [0, 1, 2, 3] rfl (loc' := [(0, .ref x0), (1, .int x1), (2, .int x2), (3, .ref x3)]) ?_
    refine q_aload_n hC 3 dL_along_0 rfl rfl ?_
    refine q_iconst hC dL_along_1 rfl ?_
    refine q_aload_n hC 0 dL_along_2 rfl rfl ?_
    refine q_iload_n hC 1 dL_along_3 rfl rfl ?_
    refine q_iload_n hC 2 dL_along_4 rfl rfl ?_
    refine q_xVI hC (stk := [.int 0, .ref x3]) (as := [.int x1, .int x2]) sX10_along (ci := 10) (by decide) rfl nX10_along rfl w_1321 w_1322 w_1323 w_27 w_1324 (Nat.le_of_ble_eq_true rfl) dL_along_5 rfl (fun v1 => ?_) ?_
    · refine q_i2l hC dL_along_8 ?_
      refine q_last hC dL_along_9 ?_
      refine q_goto hC 17 dL_along_10 rfl ?_
      refine q_iconst hC dL_along_17 rfl ?_
      exact q_iret hC dL_along_18 (Nat.le_of_ble_eq_true rfl) (Nat.le_of_ble_eq_true rfl)
    · intro k
      match k with
      | 1 =>
        refine q_hand hC hTab hN [] [] (by decide) rfl (by intro z hz; cases hz) (by decide) (by decide) w_1291 xw_cast1 (astU hC dL_along_13 (by decide) ?_)
        refine q_iconst hC dL_along_15 rfl ?_
        exact q_iret hC dL_along_16 (Nat.le_of_ble_eq_true rfl) (Nat.le_of_ble_eq_true rfl)
      | 0 => exact q_noH
      | 2 => exact q_noH
      | 3 => exact q_noH
      | k + 4 => exact q_noH
  · exact c_no
theorem sL_along : SndN yL_along (.codeWith yL_along cL_along 5 (some .int) [(0, 10, 13, 13)]) rmL_along SL_along := by
  refine SndN.of lL_along (by decide +kernel) (fun _ => rfl) ?_
  intro Γ hC hTab hN J hJ L a
  match L with
  | 0 => exact pL_along_0 hC hTab hN J a
  | L + 1 => exact c_no
/-! SpiritWallLaw.loop(LSpiritWall;II[J)I -/
theorem dL_loop_0 : decode cL_loop 0 = .ok (.aload_n 3, 1) := by decide +kernel
theorem dL_loop_1 : decode cL_loop 1 = .ok (.iconst 0, 1) := by decide +kernel
theorem dL_loop_2 : decode cL_loop 2 = .ok (.aload_n 0, 1) := by decide +kernel
theorem dL_loop_3 : decode cL_loop 3 = .ok (.iload_n 1, 1) := by decide +kernel
theorem dL_loop_4 : decode cL_loop 4 = .ok (.iload_n 2, 1) := by decide +kernel
theorem dL_loop_5 : decode cL_loop 5 = .ok (.invokevirtual 40, 3) := by decide +kernel
theorem dL_loop_8 : decode cL_loop 8 = .ok (.i2l, 1) := by decide +kernel
theorem dL_loop_9 : decode cL_loop 9 = .ok (.lastore, 1) := by decide +kernel
theorem dL_loop_10 : decode cL_loop 10 = .ok (.goto 11, 3) := by decide +kernel
theorem dL_loop_13 : decode cL_loop 13 = .ok (.astore 4, 2) := by decide +kernel
theorem dL_loop_15 : decode cL_loop 15 = .ok (.iconst 1, 1) := by decide +kernel
theorem dL_loop_16 : decode cL_loop 16 = .ok (.ireturn, 1) := by decide +kernel
theorem dL_loop_17 : decode cL_loop 17 = .ok (.astore 4, 2) := by decide +kernel
theorem dL_loop_19 : decode cL_loop 19 = .ok (.iconst 2, 1) := by decide +kernel
theorem dL_loop_20 : decode cL_loop 20 = .ok (.ireturn, 1) := by decide +kernel
theorem dL_loop_21 : decode cL_loop 21 = .ok (.iconst 0, 1) := by decide +kernel
theorem dL_loop_22 : decode cL_loop 22 = .ok (.ireturn, 1) := by decide +kernel
def rmL_loop : Room := rmk 14 2 12 333
theorem nL_loop : nameOk yL_loop 4 = true := by decide +kernel
def bL_loop_0 (J : JT) : List Value → Sem
  | [.ref x0, .int x1, .int x2, .ref x3] =>
    ob 10 x0 (cIx SX10_loop [.ref x0, .int x1, .int x2] (fun v1 =>
    sJ x3 0 (v1.toInt64) <|
    rI 0)
    fun k => match k with
    | 1 => rI 1
    | 2 => rI 2
    | _ => no)
  | _ => no
def bL_loop (J : JT) : JT := fun L a => match L with
  | 0 => bL_loop_0 J a
  | _ => no
def SL_loop : ST := mk 5 bL_loop
def lL_loop (L : Nat) (a : List Value) : Nat × Nat × Nat × List (Nat × Value) × List Value := match L with
  | 0 => (0, 0, 0, lv_args 0 a, [])
  | _ => (0, 0, 0, [], [])
theorem pL_loop_0 {Γ : CT} (hC : Ctx Γ "SpiritWallLaw" cL_loop 5 (some .int) rmL_loop) (hTab : (kC Γ).exceptionTable.toList = tableOf [(0, 10, 13, 13), (0, 10, 17, 18)]) (hN : NcA (kS Γ)) (J : JT) (a : List Value) : Cor Γ 5 0 0 0 (lv_args 0 a) [] (bL_loop_0 J a) := by
  unfold bL_loop_0
  split
  · rename_i x0 x1 x2 x3
    refine c_sub [0, 1, 2, 3] rfl (loc' := [(0, .ref x0), (1, .int x1), (2, .int x2), (3, .ref x3)]) ?_
    refine q_aload_n hC 3 dL_loop_0 rfl rfl ?_
    refine q_iconst hC dL_loop_1 rfl ?_
    refine q_aload_n hC 0 dL_loop_2 rfl rfl ?_
    refine q_iload_n hC 1 dL_loop_3 rfl rfl ?_
    refine q_iload_n hC 2 dL_loop_4 rfl rfl ?_
    refine q_xVI hC (stk := [.int 0, .ref x3]) (as := [.int x1, .int x2]) sX10_loop (ci := 10) (by decide) rfl nX10_loop rfl w_1325 w_1326 w_1327 w_27 w_1328 (Nat.le_of_ble_eq_true rfl) dL_loop_5 rfl (fun v1 => ?_) ?_
    · refine q_i2l hC dL_loop_8 ?_
      refine q_last hC dL_loop_9 ?_
      refine q_goto hC 21 dL_loop_10 rfl ?_
      refine q_iconst hC dL_loop_21 rfl ?_
      exact q_iret hC dL_loop_22 (Nat.le_of_ble_eq_true rfl) (Nat.le_of_ble_eq_true rfl)
    · intro k
      match k with
      | 1 =>
        refine q_hand hC hTab hN [] [(0, 10, 17, 18)] (by decide) rfl (by intro z hz; cases hz) (by decide) (by decide) w_1291 xw_cast1 (astU hC dL_loop_13 (by decide) ?_)
        refine q_iconst hC dL_loop_15 rfl ?_
        exact q_iret hC dL_loop_16 (Nat.le_of_ble_eq_true rfl) (Nat.le_of_ble_eq_true rfl)
      | 2 =>
        refine q_hand hC hTab hN [(0, 10, 13, 13)] [] (by decide) rfl (by simp only [List.forall_mem_cons]; exact ⟨⟨by decide, 1, by decide, by decide, by decide, w_1291⟩, fun z hz => nomatch hz⟩) (by decide) (by decide) w_1296 xw_cast2 (astU hC dL_loop_17 (by decide) ?_)
        refine q_iconst hC dL_loop_19 rfl ?_
        exact q_iret hC dL_loop_20 (Nat.le_of_ble_eq_true rfl) (Nat.le_of_ble_eq_true rfl)
      | 0 => exact q_noH
      | 3 => exact q_noH
      | k + 4 => exact q_noH
  · exact c_no
theorem sL_loop : SndN yL_loop (.codeWith yL_loop cL_loop 5 (some .int) [(0, 10, 13, 13), (0, 10, 17, 18)]) rmL_loop SL_loop := by
  refine SndN.of lL_loop (by decide +kernel) (fun _ => rfl) ?_
  intro Γ hC hTab hN J hJ L a
  match L with
  | 0 => exact pL_loop_0 hC hTab hN J a
  | L + 1 => exact c_no
/-! SpiritWallLaw.loopMark(LSpiritWall;II[J)I -/
theorem dL_loopMark_0 : decode cL_loopMark 0 = .ok (.aload_n 3, 1) := by decide +kernel
theorem dL_loopMark_1 : decode cL_loopMark 1 = .ok (.iconst 0, 1) := by decide +kernel
theorem dL_loopMark_2 : decode cL_loopMark 2 = .ok (.aload_n 0, 1) := by decide +kernel
theorem dL_loopMark_3 : decode cL_loopMark 3 = .ok (.iload_n 1, 1) := by decide +kernel
theorem dL_loopMark_4 : decode cL_loopMark 4 = .ok (.iload_n 2, 1) := by decide +kernel
theorem dL_loopMark_5 : decode cL_loopMark 5 = .ok (.invokevirtual 43, 3) := by decide +kernel
theorem dL_loopMark_8 : decode cL_loopMark 8 = .ok (.i2l, 1) := by decide +kernel
theorem dL_loopMark_9 : decode cL_loopMark 9 = .ok (.lastore, 1) := by decide +kernel
theorem dL_loopMark_10 : decode cL_loopMark 10 = .ok (.goto 7, 3) := by decide +kernel
theorem dL_loopMark_13 : decode cL_loopMark 13 = .ok (.astore 4, 2) := by decide +kernel
theorem dL_loopMark_15 : decode cL_loopMark 15 = .ok (.iconst 1, 1) := by decide +kernel
theorem dL_loopMark_16 : decode cL_loopMark 16 = .ok (.ireturn, 1) := by decide +kernel
theorem dL_loopMark_17 : decode cL_loopMark 17 = .ok (.iconst 0, 1) := by decide +kernel
theorem dL_loopMark_18 : decode cL_loopMark 18 = .ok (.ireturn, 1) := by decide +kernel
def rmL_loopMark : Room := rmk 14 1 6 333
theorem nL_loopMark : nameOk yL_loopMark 4 = true := by decide +kernel
def bL_loopMark_0 (J : JT) : List Value → Sem
  | [.ref x0, .int x1, .int x2, .ref x3] =>
    ob 10 x0 (cIx SX10_loopMark [.ref x0, .int x1, .int x2] (fun v1 =>
    sJ x3 0 (v1.toInt64) <|
    rI 0)
    fun k => match k with
    | 1 => rI 1
    | _ => no)
  | _ => no
def bL_loopMark (J : JT) : JT := fun L a => match L with
  | 0 => bL_loopMark_0 J a
  | _ => no
def SL_loopMark : ST := mk 5 bL_loopMark
def lL_loopMark (L : Nat) (a : List Value) : Nat × Nat × Nat × List (Nat × Value) × List Value := match L with
  | 0 => (0, 0, 0, lv_args 0 a, [])
  | _ => (0, 0, 0, [], [])
theorem pL_loopMark_0 {Γ : CT} (hC : Ctx Γ "SpiritWallLaw" cL_loopMark 5 (some .int) rmL_loopMark) (hTab : (kC Γ).exceptionTable.toList = tableOf [(0, 10, 13, 13)]) (hN : NcA (kS Γ)) (J : JT) (a : List Value) : Cor Γ 5 0 0 0 (lv_args 0 a) [] (bL_loopMark_0 J a) := by
  unfold bL_loopMark_0
  split
  · rename_i x0 x1 x2 x3
    refine c_sub [0, 1, 2, 3] rfl (loc' := [(0, .ref x0), (1, .int x1), (2, .int x2), (3, .ref x3)]) ?_
    refine q_aload_n hC 3 dL_loopMark_0 rfl rfl ?_
    refine q_iconst hC dL_loopMark_1 rfl ?_
    refine q_aload_n hC 0 dL_loopMark_2 rfl rfl ?_
    refine q_iload_n hC 1 dL_loopMark_3 rfl rfl ?_
    refine q_iload_n hC 2 dL_loopMark_4 rfl rfl ?_
    refine q_xVI hC (stk := [.int 0, .ref x3]) (as := [.int x1, .int x2]) sX10_loopMark (ci := 10) (by decide) rfl nX10_loopMark rfl w_1329 w_1330 w_1331 w_27 w_1332 (Nat.le_of_ble_eq_true rfl) dL_loopMark_5 rfl (fun v1 => ?_) ?_
    · refine q_i2l hC dL_loopMark_8 ?_
      refine q_last hC dL_loopMark_9 ?_
      refine q_goto hC 17 dL_loopMark_10 rfl ?_
      refine q_iconst hC dL_loopMark_17 rfl ?_
      exact q_iret hC dL_loopMark_18 (Nat.le_of_ble_eq_true rfl) (Nat.le_of_ble_eq_true rfl)
    · intro k
      match k with
      | 1 =>
        refine q_hand hC hTab hN [] [] (by decide) rfl (by intro z hz; cases hz) (by decide) (by decide) w_1291 xw_cast1 (astU hC dL_loopMark_13 (by decide) ?_)
        refine q_iconst hC dL_loopMark_15 rfl ?_
        exact q_iret hC dL_loopMark_16 (Nat.le_of_ble_eq_true rfl) (Nat.le_of_ble_eq_true rfl)
      | 0 => exact q_noH
      | 2 => exact q_noH
      | 3 => exact q_noH
      | k + 4 => exact q_noH
  · exact c_no
theorem sL_loopMark : SndN yL_loopMark (.codeWith yL_loopMark cL_loopMark 5 (some .int) [(0, 10, 13, 13)]) rmL_loopMark SL_loopMark := by
  refine SndN.of lL_loopMark (by decide +kernel) (fun _ => rfl) ?_
  intro Γ hC hTab hN J hJ L a
  match L with
  | 0 => exact pL_loopMark_0 hC hTab hN J a
  | L + 1 => exact c_no
/-! SpiritWallLaw.tension(LSpiritWall;I[J)I -/
theorem dL_tension_0 : decode cL_tension 0 = .ok (.aload_n 2, 1) := by decide +kernel
theorem dL_tension_1 : decode cL_tension 1 = .ok (.iconst 0, 1) := by decide +kernel
theorem dL_tension_2 : decode cL_tension 2 = .ok (.aload_n 0, 1) := by decide +kernel
theorem dL_tension_3 : decode cL_tension 3 = .ok (.iload_n 1, 1) := by decide +kernel
theorem dL_tension_4 : decode cL_tension 4 = .ok (.invokevirtual 46, 3) := by decide +kernel
theorem dL_tension_7 : decode cL_tension 7 = .ok (.i2l, 1) := by decide +kernel
theorem dL_tension_8 : decode cL_tension 8 = .ok (.lastore, 1) := by decide +kernel
theorem dL_tension_9 : decode cL_tension 9 = .ok (.goto 6, 3) := by decide +kernel
theorem dL_tension_12 : decode cL_tension 12 = .ok (.astore_n 3, 1) := by decide +kernel
theorem dL_tension_13 : decode cL_tension 13 = .ok (.iconst 1, 1) := by decide +kernel
theorem dL_tension_14 : decode cL_tension 14 = .ok (.ireturn, 1) := by decide +kernel
theorem dL_tension_15 : decode cL_tension 15 = .ok (.iconst 0, 1) := by decide +kernel
theorem dL_tension_16 : decode cL_tension 16 = .ok (.ireturn, 1) := by decide +kernel
def rmL_tension : Room := rmk 13 1 6 311
theorem nL_tension : nameOk yL_tension 3 = true := by decide +kernel
def bL_tension_0 (J : JT) : List Value → Sem
  | [.ref x0, .int x1, .ref x2] =>
    ob 10 x0 (cIx SX10_tension [.ref x0, .int x1] (fun v1 =>
    sJ x2 0 (v1.toInt64) <|
    rI 0)
    fun k => match k with
    | 1 => rI 1
    | _ => no)
  | _ => no
def bL_tension (J : JT) : JT := fun L a => match L with
  | 0 => bL_tension_0 J a
  | _ => no
def SL_tension : ST := mk 4 bL_tension
def lL_tension (L : Nat) (a : List Value) : Nat × Nat × Nat × List (Nat × Value) × List Value := match L with
  | 0 => (0, 0, 0, lv_args 0 a, [])
  | _ => (0, 0, 0, [], [])
theorem pL_tension_0 {Γ : CT} (hC : Ctx Γ "SpiritWallLaw" cL_tension 4 (some .int) rmL_tension) (hTab : (kC Γ).exceptionTable.toList = tableOf [(0, 9, 12, 13)]) (hN : NcA (kS Γ)) (J : JT) (a : List Value) : Cor Γ 4 0 0 0 (lv_args 0 a) [] (bL_tension_0 J a) := by
  unfold bL_tension_0
  split
  · rename_i x0 x1 x2
    refine c_sub [0, 1, 2] rfl (loc' := [(0, .ref x0), (1, .int x1), (2, .ref x2)]) ?_
    refine q_aload_n hC 2 dL_tension_0 rfl rfl ?_
    refine q_iconst hC dL_tension_1 rfl ?_
    refine q_aload_n hC 0 dL_tension_2 rfl rfl ?_
    refine q_iload_n hC 1 dL_tension_3 rfl rfl ?_
    refine q_xVI hC (stk := [.int 0, .ref x2]) (as := [.int x1]) sX10_tension (ci := 10) (by decide) rfl nX10_tension rfl w_1333 w_1334 w_1335 w_27 w_1336 (Nat.le_of_ble_eq_true rfl) dL_tension_4 rfl (fun v1 => ?_) ?_
    · refine q_i2l hC dL_tension_7 ?_
      refine q_last hC dL_tension_8 ?_
      refine q_goto hC 15 dL_tension_9 rfl ?_
      refine q_iconst hC dL_tension_15 rfl ?_
      exact q_iret hC dL_tension_16 (Nat.le_of_ble_eq_true rfl) (Nat.le_of_ble_eq_true rfl)
    · intro k
      match k with
      | 1 =>
        refine q_hand hC hTab hN [] [] (by decide) rfl (by intro z hz; cases hz) (by decide) (by decide) w_1291 xw_cast1 (astU_n hC dL_tension_12 rfl (by decide) ?_)
        refine q_iconst hC dL_tension_13 rfl ?_
        exact q_iret hC dL_tension_14 (Nat.le_of_ble_eq_true rfl) (Nat.le_of_ble_eq_true rfl)
      | 0 => exact q_noH
      | 2 => exact q_noH
      | 3 => exact q_noH
      | k + 4 => exact q_noH
  · exact c_no
theorem sL_tension : SndN yL_tension (.codeWith yL_tension cL_tension 4 (some .int) [(0, 9, 12, 13)]) rmL_tension SL_tension := by
  refine SndN.of lL_tension (by decide +kernel) (fun _ => rfl) ?_
  intro Γ hC hTab hN J hJ L a
  match L with
  | 0 => exact pL_tension_0 hC hTab hN J a
  | L + 1 => exact c_no
/-! SpiritWallLaw.neighbour(LSpiritWall;II[J)I -/
theorem dL_neighbour_0 : decode cL_neighbour 0 = .ok (.aload_n 3, 1) := by decide +kernel
theorem dL_neighbour_1 : decode cL_neighbour 1 = .ok (.iconst 0, 1) := by decide +kernel
theorem dL_neighbour_2 : decode cL_neighbour 2 = .ok (.aload_n 0, 1) := by decide +kernel
theorem dL_neighbour_3 : decode cL_neighbour 3 = .ok (.iload_n 1, 1) := by decide +kernel
theorem dL_neighbour_4 : decode cL_neighbour 4 = .ok (.iload_n 2, 1) := by decide +kernel
theorem dL_neighbour_5 : decode cL_neighbour 5 = .ok (.invokevirtual 49, 3) := by decide +kernel
theorem dL_neighbour_8 : decode cL_neighbour 8 = .ok (.i2l, 1) := by decide +kernel
theorem dL_neighbour_9 : decode cL_neighbour 9 = .ok (.lastore, 1) := by decide +kernel
theorem dL_neighbour_10 : decode cL_neighbour 10 = .ok (.goto 7, 3) := by decide +kernel
theorem dL_neighbour_13 : decode cL_neighbour 13 = .ok (.astore 4, 2) := by decide +kernel
theorem dL_neighbour_15 : decode cL_neighbour 15 = .ok (.iconst 1, 1) := by decide +kernel
theorem dL_neighbour_16 : decode cL_neighbour 16 = .ok (.ireturn, 1) := by decide +kernel
theorem dL_neighbour_17 : decode cL_neighbour 17 = .ok (.iconst 0, 1) := by decide +kernel
theorem dL_neighbour_18 : decode cL_neighbour 18 = .ok (.ireturn, 1) := by decide +kernel
def rmL_neighbour : Room := rmk 13 1 6 314
theorem nL_neighbour : nameOk yL_neighbour 4 = true := by decide +kernel
def bL_neighbour_0 (J : JT) : List Value → Sem
  | [.ref x0, .int x1, .int x2, .ref x3] =>
    ob 10 x0 (cIx SX10_neighbour [.ref x0, .int x1, .int x2] (fun v1 =>
    sJ x3 0 (v1.toInt64) <|
    rI 0)
    fun k => match k with
    | 1 => rI 1
    | _ => no)
  | _ => no
def bL_neighbour (J : JT) : JT := fun L a => match L with
  | 0 => bL_neighbour_0 J a
  | _ => no
def SL_neighbour : ST := mk 5 bL_neighbour
def lL_neighbour (L : Nat) (a : List Value) : Nat × Nat × Nat × List (Nat × Value) × List Value := match L with
  | 0 => (0, 0, 0, lv_args 0 a, [])
  | _ => (0, 0, 0, [], [])
theorem pL_neighbour_0 {Γ : CT} (hC : Ctx Γ "SpiritWallLaw" cL_neighbour 5 (some .int) rmL_neighbour) (hTab : (kC Γ).exceptionTable.toList = tableOf [(0, 10, 13, 13)]) (hN : NcA (kS Γ)) (J : JT) (a : List Value) : Cor Γ 5 0 0 0 (lv_args 0 a) [] (bL_neighbour_0 J a) := by
  unfold bL_neighbour_0
  split
  · rename_i x0 x1 x2 x3
    refine c_sub [0, 1, 2, 3] rfl (loc' := [(0, .ref x0), (1, .int x1), (2, .int x2), (3, .ref x3)]) ?_
    refine q_aload_n hC 3 dL_neighbour_0 rfl rfl ?_
    refine q_iconst hC dL_neighbour_1 rfl ?_
    refine q_aload_n hC 0 dL_neighbour_2 rfl rfl ?_
    refine q_iload_n hC 1 dL_neighbour_3 rfl rfl ?_
    refine q_iload_n hC 2 dL_neighbour_4 rfl rfl ?_
    refine q_xVI hC (stk := [.int 0, .ref x3]) (as := [.int x1, .int x2]) sX10_neighbour (ci := 10) (by decide) rfl nX10_neighbour rfl w_1337 w_1338 w_1339 w_27 w_1340 (Nat.le_of_ble_eq_true rfl) dL_neighbour_5 rfl (fun v1 => ?_) ?_
    · refine q_i2l hC dL_neighbour_8 ?_
      refine q_last hC dL_neighbour_9 ?_
      refine q_goto hC 17 dL_neighbour_10 rfl ?_
      refine q_iconst hC dL_neighbour_17 rfl ?_
      exact q_iret hC dL_neighbour_18 (Nat.le_of_ble_eq_true rfl) (Nat.le_of_ble_eq_true rfl)
    · intro k
      match k with
      | 1 =>
        refine q_hand hC hTab hN [] [] (by decide) rfl (by intro z hz; cases hz) (by decide) (by decide) w_1291 xw_cast1 (astU hC dL_neighbour_13 (by decide) ?_)
        refine q_iconst hC dL_neighbour_15 rfl ?_
        exact q_iret hC dL_neighbour_16 (Nat.le_of_ble_eq_true rfl) (Nat.le_of_ble_eq_true rfl)
      | 0 => exact q_noH
      | 2 => exact q_noH
      | 3 => exact q_noH
      | k + 4 => exact q_noH
  · exact c_no
theorem sL_neighbour : SndN yL_neighbour (.codeWith yL_neighbour cL_neighbour 5 (some .int) [(0, 10, 13, 13)]) rmL_neighbour SL_neighbour := by
  refine SndN.of lL_neighbour (by decide +kernel) (fun _ => rfl) ?_
  intro Γ hC hTab hN J hJ L a
  match L with
  | 0 => exact pL_neighbour_0 hC hTab hN J a
  | L + 1 => exact c_no
/-! SpiritWallLaw.loopsOf(LSpiritWall;I[J)I -/
theorem dL_loopsOf_0 : decode cL_loopsOf 0 = .ok (.aload_n 2, 1) := by decide +kernel
theorem dL_loopsOf_1 : decode cL_loopsOf 1 = .ok (.iconst 0, 1) := by decide +kernel
theorem dL_loopsOf_2 : decode cL_loopsOf 2 = .ok (.aload_n 0, 1) := by decide +kernel
theorem dL_loopsOf_3 : decode cL_loopsOf 3 = .ok (.iload_n 1, 1) := by decide +kernel
theorem dL_loopsOf_4 : decode cL_loopsOf 4 = .ok (.invokevirtual 52, 3) := by decide +kernel
theorem dL_loopsOf_7 : decode cL_loopsOf 7 = .ok (.i2l, 1) := by decide +kernel
theorem dL_loopsOf_8 : decode cL_loopsOf 8 = .ok (.lastore, 1) := by decide +kernel
theorem dL_loopsOf_9 : decode cL_loopsOf 9 = .ok (.goto 6, 3) := by decide +kernel
theorem dL_loopsOf_12 : decode cL_loopsOf 12 = .ok (.astore_n 3, 1) := by decide +kernel
theorem dL_loopsOf_13 : decode cL_loopsOf 13 = .ok (.iconst 1, 1) := by decide +kernel
theorem dL_loopsOf_14 : decode cL_loopsOf 14 = .ok (.ireturn, 1) := by decide +kernel
theorem dL_loopsOf_15 : decode cL_loopsOf 15 = .ok (.iconst 0, 1) := by decide +kernel
theorem dL_loopsOf_16 : decode cL_loopsOf 16 = .ok (.ireturn, 1) := by decide +kernel
def rmL_loopsOf : Room := rmk 14 1 6 332
theorem nL_loopsOf : nameOk yL_loopsOf 3 = true := by decide +kernel
def bL_loopsOf_0 (J : JT) : List Value → Sem
  | [.ref x0, .int x1, .ref x2] =>
    ob 10 x0 (cIx SX10_loopsOf [.ref x0, .int x1] (fun v1 =>
    sJ x2 0 (v1.toInt64) <|
    rI 0)
    fun k => match k with
    | 1 => rI 1
    | _ => no)
  | _ => no
def bL_loopsOf (J : JT) : JT := fun L a => match L with
  | 0 => bL_loopsOf_0 J a
  | _ => no
def SL_loopsOf : ST := mk 4 bL_loopsOf
def lL_loopsOf (L : Nat) (a : List Value) : Nat × Nat × Nat × List (Nat × Value) × List Value := match L with
  | 0 => (0, 0, 0, lv_args 0 a, [])
  | _ => (0, 0, 0, [], [])
theorem pL_loopsOf_0 {Γ : CT} (hC : Ctx Γ "SpiritWallLaw" cL_loopsOf 4 (some .int) rmL_loopsOf) (hTab : (kC Γ).exceptionTable.toList = tableOf [(0, 9, 12, 13)]) (hN : NcA (kS Γ)) (J : JT) (a : List Value) : Cor Γ 4 0 0 0 (lv_args 0 a) [] (bL_loopsOf_0 J a) := by
  unfold bL_loopsOf_0
  split
  · rename_i x0 x1 x2
    refine c_sub [0, 1, 2] rfl (loc' := [(0, .ref x0), (1, .int x1), (2, .ref x2)]) ?_
    refine q_aload_n hC 2 dL_loopsOf_0 rfl rfl ?_
    refine q_iconst hC dL_loopsOf_1 rfl ?_
    refine q_aload_n hC 0 dL_loopsOf_2 rfl rfl ?_
    refine q_iload_n hC 1 dL_loopsOf_3 rfl rfl ?_
    refine q_xVI hC (stk := [.int 0, .ref x2]) (as := [.int x1]) sX10_loopsOf (ci := 10) (by decide) rfl nX10_loopsOf rfl w_1341 w_1342 w_1343 w_27 w_1344 (Nat.le_of_ble_eq_true rfl) dL_loopsOf_4 rfl (fun v1 => ?_) ?_
    · refine q_i2l hC dL_loopsOf_7 ?_
      refine q_last hC dL_loopsOf_8 ?_
      refine q_goto hC 15 dL_loopsOf_9 rfl ?_
      refine q_iconst hC dL_loopsOf_15 rfl ?_
      exact q_iret hC dL_loopsOf_16 (Nat.le_of_ble_eq_true rfl) (Nat.le_of_ble_eq_true rfl)
    · intro k
      match k with
      | 1 =>
        refine q_hand hC hTab hN [] [] (by decide) rfl (by intro z hz; cases hz) (by decide) (by decide) w_1291 xw_cast1 (astU_n hC dL_loopsOf_12 rfl (by decide) ?_)
        refine q_iconst hC dL_loopsOf_13 rfl ?_
        exact q_iret hC dL_loopsOf_14 (Nat.le_of_ble_eq_true rfl) (Nat.le_of_ble_eq_true rfl)
      | 0 => exact q_noH
      | 2 => exact q_noH
      | 3 => exact q_noH
      | k + 4 => exact q_noH
  · exact c_no
theorem sL_loopsOf : SndN yL_loopsOf (.codeWith yL_loopsOf cL_loopsOf 4 (some .int) [(0, 9, 12, 13)]) rmL_loopsOf SL_loopsOf := by
  refine SndN.of lL_loopsOf (by decide +kernel) (fun _ => rfl) ?_
  intro Γ hC hTab hN J hJ L a
  match L with
  | 0 => exact pL_loopsOf_0 hC hTab hN J a
  | L + 1 => exact c_no
/-! SpiritWallLaw.closedIf(LSpiritWall;I[J)I -/
theorem dL_closedIf_0 : decode cL_closedIf 0 = .ok (.aload_n 2, 1) := by decide +kernel
theorem dL_closedIf_1 : decode cL_closedIf 1 = .ok (.iconst 0, 1) := by decide +kernel
theorem dL_closedIf_2 : decode cL_closedIf 2 = .ok (.aload_n 0, 1) := by decide +kernel
theorem dL_closedIf_3 : decode cL_closedIf 3 = .ok (.iload_n 1, 1) := by decide +kernel
theorem dL_closedIf_4 : decode cL_closedIf 4 = .ok (.invokevirtual 55, 3) := by decide +kernel
theorem dL_closedIf_7 : decode cL_closedIf 7 = .ok (.i2l, 1) := by decide +kernel
theorem dL_closedIf_8 : decode cL_closedIf 8 = .ok (.lastore, 1) := by decide +kernel
theorem dL_closedIf_9 : decode cL_closedIf 9 = .ok (.goto 6, 3) := by decide +kernel
theorem dL_closedIf_12 : decode cL_closedIf 12 = .ok (.astore_n 3, 1) := by decide +kernel
theorem dL_closedIf_13 : decode cL_closedIf 13 = .ok (.iconst 1, 1) := by decide +kernel
theorem dL_closedIf_14 : decode cL_closedIf 14 = .ok (.ireturn, 1) := by decide +kernel
theorem dL_closedIf_15 : decode cL_closedIf 15 = .ok (.iconst 0, 1) := by decide +kernel
theorem dL_closedIf_16 : decode cL_closedIf 16 = .ok (.ireturn, 1) := by decide +kernel
def rmL_closedIf : Room := rmk 14 1 6 332
theorem nL_closedIf : nameOk yL_closedIf 3 = true := by decide +kernel
def bL_closedIf_0 (J : JT) : List Value → Sem
  | [.ref x0, .int x1, .ref x2] =>
    ob 10 x0 (cIx SX10_closedIf [.ref x0, .int x1] (fun v1 =>
    sJ x2 0 (v1.toInt64) <|
    rI 0)
    fun k => match k with
    | 1 => rI 1
    | _ => no)
  | _ => no
def bL_closedIf (J : JT) : JT := fun L a => match L with
  | 0 => bL_closedIf_0 J a
  | _ => no
def SL_closedIf : ST := mk 4 bL_closedIf
def lL_closedIf (L : Nat) (a : List Value) : Nat × Nat × Nat × List (Nat × Value) × List Value := match L with
  | 0 => (0, 0, 0, lv_args 0 a, [])
  | _ => (0, 0, 0, [], [])
theorem pL_closedIf_0 {Γ : CT} (hC : Ctx Γ "SpiritWallLaw" cL_closedIf 4 (some .int) rmL_closedIf) (hTab : (kC Γ).exceptionTable.toList = tableOf [(0, 9, 12, 13)]) (hN : NcA (kS Γ)) (J : JT) (a : List Value) : Cor Γ 4 0 0 0 (lv_args 0 a) [] (bL_closedIf_0 J a) := by
  unfold bL_closedIf_0
  split
  · rename_i x0 x1 x2
    refine c_sub [0, 1, 2] rfl (loc' := [(0, .ref x0), (1, .int x1), (2, .ref x2)]) ?_
    refine q_aload_n hC 2 dL_closedIf_0 rfl rfl ?_
    refine q_iconst hC dL_closedIf_1 rfl ?_
    refine q_aload_n hC 0 dL_closedIf_2 rfl rfl ?_
    refine q_iload_n hC 1 dL_closedIf_3 rfl rfl ?_
    refine q_xVI hC (stk := [.int 0, .ref x2]) (as := [.int x1]) sX10_closedIf (ci := 10) (by decide) rfl nX10_closedIf rfl w_1345 w_1346 w_1347 w_27 w_1348 (Nat.le_of_ble_eq_true rfl) dL_closedIf_4 rfl (fun v1 => ?_) ?_
    · refine q_i2l hC dL_closedIf_7 ?_
      refine q_last hC dL_closedIf_8 ?_
      refine q_goto hC 15 dL_closedIf_9 rfl ?_
      refine q_iconst hC dL_closedIf_15 rfl ?_
      exact q_iret hC dL_closedIf_16 (Nat.le_of_ble_eq_true rfl) (Nat.le_of_ble_eq_true rfl)
    · intro k
      match k with
      | 1 =>
        refine q_hand hC hTab hN [] [] (by decide) rfl (by intro z hz; cases hz) (by decide) (by decide) w_1291 xw_cast1 (astU_n hC dL_closedIf_12 rfl (by decide) ?_)
        refine q_iconst hC dL_closedIf_13 rfl ?_
        exact q_iret hC dL_closedIf_14 (Nat.le_of_ble_eq_true rfl) (Nat.le_of_ble_eq_true rfl)
      | 0 => exact q_noH
      | 2 => exact q_noH
      | 3 => exact q_noH
      | k + 4 => exact q_noH
  · exact c_no
theorem sL_closedIf : SndN yL_closedIf (.codeWith yL_closedIf cL_closedIf 4 (some .int) [(0, 9, 12, 13)]) rmL_closedIf SL_closedIf := by
  refine SndN.of lL_closedIf (by decide +kernel) (fun _ => rfl) ?_
  intro Γ hC hTab hN J hJ L a
  match L with
  | 0 => exact pL_closedIf_0 hC hTab hN J a
  | L + 1 => exact c_no
/-! SpiritWallLaw.errorWith(LSpiritWall;I[J)I -/
theorem dL_errorWith_0 : decode cL_errorWith 0 = .ok (.aload_n 2, 1) := by decide +kernel
theorem dL_errorWith_1 : decode cL_errorWith 1 = .ok (.iconst 0, 1) := by decide +kernel
theorem dL_errorWith_2 : decode cL_errorWith 2 = .ok (.aload_n 0, 1) := by decide +kernel
theorem dL_errorWith_3 : decode cL_errorWith 3 = .ok (.iload_n 1, 1) := by decide +kernel
theorem dL_errorWith_4 : decode cL_errorWith 4 = .ok (.invokevirtual 58, 3) := by decide +kernel
theorem dL_errorWith_7 : decode cL_errorWith 7 = .ok (.i2l, 1) := by decide +kernel
theorem dL_errorWith_8 : decode cL_errorWith 8 = .ok (.lastore, 1) := by decide +kernel
theorem dL_errorWith_9 : decode cL_errorWith 9 = .ok (.goto 6, 3) := by decide +kernel
theorem dL_errorWith_12 : decode cL_errorWith 12 = .ok (.astore_n 3, 1) := by decide +kernel
theorem dL_errorWith_13 : decode cL_errorWith 13 = .ok (.iconst 1, 1) := by decide +kernel
theorem dL_errorWith_14 : decode cL_errorWith 14 = .ok (.ireturn, 1) := by decide +kernel
theorem dL_errorWith_15 : decode cL_errorWith 15 = .ok (.iconst 0, 1) := by decide +kernel
theorem dL_errorWith_16 : decode cL_errorWith 16 = .ok (.ireturn, 1) := by decide +kernel
def rmL_errorWith : Room := rmk 13 1 6 311
theorem nL_errorWith : nameOk yL_errorWith 3 = true := by decide +kernel
def bL_errorWith_0 (J : JT) : List Value → Sem
  | [.ref x0, .int x1, .ref x2] =>
    ob 10 x0 (cIx SX10_errorWith [.ref x0, .int x1] (fun v1 =>
    sJ x2 0 (v1.toInt64) <|
    rI 0)
    fun k => match k with
    | 2 => rI 1
    | _ => no)
  | _ => no
def bL_errorWith (J : JT) : JT := fun L a => match L with
  | 0 => bL_errorWith_0 J a
  | _ => no
def SL_errorWith : ST := mk 4 bL_errorWith
def lL_errorWith (L : Nat) (a : List Value) : Nat × Nat × Nat × List (Nat × Value) × List Value := match L with
  | 0 => (0, 0, 0, lv_args 0 a, [])
  | _ => (0, 0, 0, [], [])
theorem pL_errorWith_0 {Γ : CT} (hC : Ctx Γ "SpiritWallLaw" cL_errorWith 4 (some .int) rmL_errorWith) (hTab : (kC Γ).exceptionTable.toList = tableOf [(0, 9, 12, 18)]) (hN : NcA (kS Γ)) (J : JT) (a : List Value) : Cor Γ 4 0 0 0 (lv_args 0 a) [] (bL_errorWith_0 J a) := by
  unfold bL_errorWith_0
  split
  · rename_i x0 x1 x2
    refine c_sub [0, 1, 2] rfl (loc' := [(0, .ref x0), (1, .int x1), (2, .ref x2)]) ?_
    refine q_aload_n hC 2 dL_errorWith_0 rfl rfl ?_
    refine q_iconst hC dL_errorWith_1 rfl ?_
    refine q_aload_n hC 0 dL_errorWith_2 rfl rfl ?_
    refine q_iload_n hC 1 dL_errorWith_3 rfl rfl ?_
    refine q_xVI hC (stk := [.int 0, .ref x2]) (as := [.int x1]) sX10_errorWith (ci := 10) (by decide) rfl nX10_errorWith rfl w_1349 w_1350 w_1351 w_27 w_1352 (Nat.le_of_ble_eq_true rfl) dL_errorWith_4 rfl (fun v1 => ?_) ?_
    · refine q_i2l hC dL_errorWith_7 ?_
      refine q_last hC dL_errorWith_8 ?_
      refine q_goto hC 15 dL_errorWith_9 rfl ?_
      refine q_iconst hC dL_errorWith_15 rfl ?_
      exact q_iret hC dL_errorWith_16 (Nat.le_of_ble_eq_true rfl) (Nat.le_of_ble_eq_true rfl)
    · intro k
      match k with
      | 2 =>
        refine q_hand hC hTab hN [] [] (by decide) rfl (by intro z hz; cases hz) (by decide) (by decide) w_1296 xw_cast2 (astU_n hC dL_errorWith_12 rfl (by decide) ?_)
        refine q_iconst hC dL_errorWith_13 rfl ?_
        exact q_iret hC dL_errorWith_14 (Nat.le_of_ble_eq_true rfl) (Nat.le_of_ble_eq_true rfl)
      | 0 => exact q_noH
      | 1 => exact q_noH
      | 3 => exact q_noH
      | k + 4 => exact q_noH
  · exact c_no
theorem sL_errorWith : SndN yL_errorWith (.codeWith yL_errorWith cL_errorWith 4 (some .int) [(0, 9, 12, 18)]) rmL_errorWith SL_errorWith := by
  refine SndN.of lL_errorWith (by decide +kernel) (fun _ => rfl) ?_
  intro Γ hC hTab hN J hJ L a
  match L with
  | 0 => exact pL_errorWith_0 hC hTab hN J a
  | L + 1 => exact c_no
/-! SpiritWallLaw.misfitAfter(LSpiritWall;I[J)I -/
theorem dL_misfitAfter_0 : decode cL_misfitAfter 0 = .ok (.aload_n 2, 1) := by decide +kernel
theorem dL_misfitAfter_1 : decode cL_misfitAfter 1 = .ok (.iconst 0, 1) := by decide +kernel
theorem dL_misfitAfter_2 : decode cL_misfitAfter 2 = .ok (.aload_n 0, 1) := by decide +kernel
theorem dL_misfitAfter_3 : decode cL_misfitAfter 3 = .ok (.iload_n 1, 1) := by decide +kernel
theorem dL_misfitAfter_4 : decode cL_misfitAfter 4 = .ok (.invokevirtual 61, 3) := by decide +kernel
theorem dL_misfitAfter_7 : decode cL_misfitAfter 7 = .ok (.lastore, 1) := by decide +kernel
theorem dL_misfitAfter_8 : decode cL_misfitAfter 8 = .ok (.goto 6, 3) := by decide +kernel
theorem dL_misfitAfter_11 : decode cL_misfitAfter 11 = .ok (.astore_n 3, 1) := by decide +kernel
theorem dL_misfitAfter_12 : decode cL_misfitAfter 12 = .ok (.iconst 1, 1) := by decide +kernel
theorem dL_misfitAfter_13 : decode cL_misfitAfter 13 = .ok (.ireturn, 1) := by decide +kernel
theorem dL_misfitAfter_14 : decode cL_misfitAfter 14 = .ok (.iconst 0, 1) := by decide +kernel
theorem dL_misfitAfter_15 : decode cL_misfitAfter 15 = .ok (.ireturn, 1) := by decide +kernel
def rmL_misfitAfter : Room := rmk 14 1 6 336
theorem nL_misfitAfter : nameOk yL_misfitAfter 3 = true := by decide +kernel
def bL_misfitAfter_0 (J : JT) : List Value → Sem
  | [.ref x0, .int x1, .ref x2] =>
    ob 10 x0 (cJx SX10_misfitAfter [.ref x0, .int x1] (fun v1 =>
    sJ x2 0 v1 <|
    rI 0)
    fun k => match k with
    | 2 => rI 1
    | _ => no)
  | _ => no
def bL_misfitAfter (J : JT) : JT := fun L a => match L with
  | 0 => bL_misfitAfter_0 J a
  | _ => no
def SL_misfitAfter : ST := mk 4 bL_misfitAfter
def lL_misfitAfter (L : Nat) (a : List Value) : Nat × Nat × Nat × List (Nat × Value) × List Value := match L with
  | 0 => (0, 0, 0, lv_args 0 a, [])
  | _ => (0, 0, 0, [], [])
theorem pL_misfitAfter_0 {Γ : CT} (hC : Ctx Γ "SpiritWallLaw" cL_misfitAfter 4 (some .int) rmL_misfitAfter) (hTab : (kC Γ).exceptionTable.toList = tableOf [(0, 8, 11, 18)]) (hN : NcA (kS Γ)) (J : JT) (a : List Value) : Cor Γ 4 0 0 0 (lv_args 0 a) [] (bL_misfitAfter_0 J a) := by
  unfold bL_misfitAfter_0
  split
  · rename_i x0 x1 x2
    refine c_sub [0, 1, 2] rfl (loc' := [(0, .ref x0), (1, .int x1), (2, .ref x2)]) ?_
    refine q_aload_n hC 2 dL_misfitAfter_0 rfl rfl ?_
    refine q_iconst hC dL_misfitAfter_1 rfl ?_
    refine q_aload_n hC 0 dL_misfitAfter_2 rfl rfl ?_
    refine q_iload_n hC 1 dL_misfitAfter_3 rfl rfl ?_
    refine q_xVJ hC (stk := [.int 0, .ref x2]) (as := [.int x1]) sX10_misfitAfter (ci := 10) (by decide) rfl nX10_misfitAfter rfl w_1353 w_1354 w_1355 w_27 w_1356 (Nat.le_of_ble_eq_true rfl) dL_misfitAfter_4 rfl (fun v1 => ?_) ?_
    · refine q_last hC dL_misfitAfter_7 ?_
      refine q_goto hC 14 dL_misfitAfter_8 rfl ?_
      refine q_iconst hC dL_misfitAfter_14 rfl ?_
      exact q_iret hC dL_misfitAfter_15 (Nat.le_of_ble_eq_true rfl) (Nat.le_of_ble_eq_true rfl)
    · intro k
      match k with
      | 2 =>
        refine q_hand hC hTab hN [] [] (by decide) rfl (by intro z hz; cases hz) (by decide) (by decide) w_1296 xw_cast2 (astU_n hC dL_misfitAfter_11 rfl (by decide) ?_)
        refine q_iconst hC dL_misfitAfter_12 rfl ?_
        exact q_iret hC dL_misfitAfter_13 (Nat.le_of_ble_eq_true rfl) (Nat.le_of_ble_eq_true rfl)
      | 0 => exact q_noH
      | 1 => exact q_noH
      | 3 => exact q_noH
      | k + 4 => exact q_noH
  · exact c_no
theorem sL_misfitAfter : SndN yL_misfitAfter (.codeWith yL_misfitAfter cL_misfitAfter 4 (some .int) [(0, 8, 11, 18)]) rmL_misfitAfter SL_misfitAfter := by
  refine SndN.of lL_misfitAfter (by decide +kernel) (fun _ => rfl) ?_
  intro Γ hC hTab hN J hJ L a
  match L with
  | 0 => exact pL_misfitAfter_0 hC hTab hN J a
  | L + 1 => exact c_no
/-! SpiritWallLaw.heightIf(LSpiritWall;I[J)I -/
theorem dL_heightIf_0 : decode cL_heightIf 0 = .ok (.aload_n 2, 1) := by decide +kernel
theorem dL_heightIf_1 : decode cL_heightIf 1 = .ok (.iconst 0, 1) := by decide +kernel
theorem dL_heightIf_2 : decode cL_heightIf 2 = .ok (.aload_n 0, 1) := by decide +kernel
theorem dL_heightIf_3 : decode cL_heightIf 3 = .ok (.iload_n 1, 1) := by decide +kernel
theorem dL_heightIf_4 : decode cL_heightIf 4 = .ok (.invokevirtual 65, 3) := by decide +kernel
theorem dL_heightIf_7 : decode cL_heightIf 7 = .ok (.i2l, 1) := by decide +kernel
theorem dL_heightIf_8 : decode cL_heightIf 8 = .ok (.lastore, 1) := by decide +kernel
theorem dL_heightIf_9 : decode cL_heightIf 9 = .ok (.goto 6, 3) := by decide +kernel
theorem dL_heightIf_12 : decode cL_heightIf 12 = .ok (.astore_n 3, 1) := by decide +kernel
theorem dL_heightIf_13 : decode cL_heightIf 13 = .ok (.iconst 1, 1) := by decide +kernel
theorem dL_heightIf_14 : decode cL_heightIf 14 = .ok (.ireturn, 1) := by decide +kernel
theorem dL_heightIf_15 : decode cL_heightIf 15 = .ok (.iconst 0, 1) := by decide +kernel
theorem dL_heightIf_16 : decode cL_heightIf 16 = .ok (.ireturn, 1) := by decide +kernel
def rmL_heightIf : Room := rmk 13 1 6 311
theorem nL_heightIf : nameOk yL_heightIf 3 = true := by decide +kernel
def bL_heightIf_0 (J : JT) : List Value → Sem
  | [.ref x0, .int x1, .ref x2] =>
    ob 10 x0 (cIx SX10_heightIf [.ref x0, .int x1] (fun v1 =>
    sJ x2 0 (v1.toInt64) <|
    rI 0)
    fun k => match k with
    | 1 => rI 1
    | _ => no)
  | _ => no
def bL_heightIf (J : JT) : JT := fun L a => match L with
  | 0 => bL_heightIf_0 J a
  | _ => no
def SL_heightIf : ST := mk 4 bL_heightIf
def lL_heightIf (L : Nat) (a : List Value) : Nat × Nat × Nat × List (Nat × Value) × List Value := match L with
  | 0 => (0, 0, 0, lv_args 0 a, [])
  | _ => (0, 0, 0, [], [])
theorem pL_heightIf_0 {Γ : CT} (hC : Ctx Γ "SpiritWallLaw" cL_heightIf 4 (some .int) rmL_heightIf) (hTab : (kC Γ).exceptionTable.toList = tableOf [(0, 9, 12, 13)]) (hN : NcA (kS Γ)) (J : JT) (a : List Value) : Cor Γ 4 0 0 0 (lv_args 0 a) [] (bL_heightIf_0 J a) := by
  unfold bL_heightIf_0
  split
  · rename_i x0 x1 x2
    refine c_sub [0, 1, 2] rfl (loc' := [(0, .ref x0), (1, .int x1), (2, .ref x2)]) ?_
    refine q_aload_n hC 2 dL_heightIf_0 rfl rfl ?_
    refine q_iconst hC dL_heightIf_1 rfl ?_
    refine q_aload_n hC 0 dL_heightIf_2 rfl rfl ?_
    refine q_iload_n hC 1 dL_heightIf_3 rfl rfl ?_
    refine q_xVI hC (stk := [.int 0, .ref x2]) (as := [.int x1]) sX10_heightIf (ci := 10) (by decide) rfl nX10_heightIf rfl w_1357 w_1358 w_1359 w_27 w_1360 (Nat.le_of_ble_eq_true rfl) dL_heightIf_4 rfl (fun v1 => ?_) ?_
    · refine q_i2l hC dL_heightIf_7 ?_
      refine q_last hC dL_heightIf_8 ?_
      refine q_goto hC 15 dL_heightIf_9 rfl ?_
      refine q_iconst hC dL_heightIf_15 rfl ?_
      exact q_iret hC dL_heightIf_16 (Nat.le_of_ble_eq_true rfl) (Nat.le_of_ble_eq_true rfl)
    · intro k
      match k with
      | 1 =>
        refine q_hand hC hTab hN [] [] (by decide) rfl (by intro z hz; cases hz) (by decide) (by decide) w_1291 xw_cast1 (astU_n hC dL_heightIf_12 rfl (by decide) ?_)
        refine q_iconst hC dL_heightIf_13 rfl ?_
        exact q_iret hC dL_heightIf_14 (Nat.le_of_ble_eq_true rfl) (Nat.le_of_ble_eq_true rfl)
      | 0 => exact q_noH
      | 2 => exact q_noH
      | 3 => exact q_noH
      | k + 4 => exact q_noH
  · exact c_no
theorem sL_heightIf : SndN yL_heightIf (.codeWith yL_heightIf cL_heightIf 4 (some .int) [(0, 9, 12, 13)]) rmL_heightIf SL_heightIf := by
  refine SndN.of lL_heightIf (by decide +kernel) (fun _ => rfl) ?_
  intro Γ hC hTab hN J hJ L a
  match L with
  | 0 => exact pL_heightIf_0 hC hTab hN J a
  | L + 1 => exact c_no
/-! SpiritWallLaw.addSight(LSpiritWall;IIIII[J)I -/
theorem dL_addSight_0 : decode cL_addSight 0 = .ok (.aload 6, 2) := by decide +kernel
theorem dL_addSight_2 : decode cL_addSight 2 = .ok (.iconst 0, 1) := by decide +kernel
theorem dL_addSight_3 : decode cL_addSight 3 = .ok (.aload_n 0, 1) := by decide +kernel
theorem dL_addSight_4 : decode cL_addSight 4 = .ok (.iload_n 1, 1) := by decide +kernel
theorem dL_addSight_5 : decode cL_addSight 5 = .ok (.iload_n 2, 1) := by decide +kernel
theorem dL_addSight_6 : decode cL_addSight 6 = .ok (.iload_n 3, 1) := by decide +kernel
theorem dL_addSight_7 : decode cL_addSight 7 = .ok (.iload 4, 2) := by decide +kernel
theorem dL_addSight_9 : decode cL_addSight 9 = .ok (.iload 5, 2) := by decide +kernel
theorem dL_addSight_11 : decode cL_addSight 11 = .ok (.invokevirtual 68, 3) := by decide +kernel
theorem dL_addSight_14 : decode cL_addSight 14 = .ok (.i2l, 1) := by decide +kernel
theorem dL_addSight_15 : decode cL_addSight 15 = .ok (.lastore, 1) := by decide +kernel
theorem dL_addSight_16 : decode cL_addSight 16 = .ok (.goto 15, 3) := by decide +kernel
theorem dL_addSight_19 : decode cL_addSight 19 = .ok (.astore 7, 2) := by decide +kernel
theorem dL_addSight_21 : decode cL_addSight 21 = .ok (.iconst 1, 1) := by decide +kernel
theorem dL_addSight_22 : decode cL_addSight 22 = .ok (.ireturn, 1) := by decide +kernel
theorem dL_addSight_23 : decode cL_addSight 23 = .ok (.astore 7, 2) := by decide +kernel
theorem dL_addSight_25 : decode cL_addSight 25 = .ok (.iconst 2, 1) := by decide +kernel
theorem dL_addSight_26 : decode cL_addSight 26 = .ok (.ireturn, 1) := by decide +kernel
theorem dL_addSight_27 : decode cL_addSight 27 = .ok (.astore 7, 2) := by decide +kernel
theorem dL_addSight_29 : decode cL_addSight 29 = .ok (.iconst 3, 1) := by decide +kernel
theorem dL_addSight_30 : decode cL_addSight 30 = .ok (.ireturn, 1) := by decide +kernel
theorem dL_addSight_31 : decode cL_addSight 31 = .ok (.iconst 0, 1) := by decide +kernel
theorem dL_addSight_32 : decode cL_addSight 32 = .ok (.ireturn, 1) := by decide +kernel
def rmL_addSight : Room := rmk 10 6 36 240
theorem nL_addSight : nameOk yL_addSight 7 = true := by decide +kernel
def bL_addSight_0 (J : JT) : List Value → Sem
  | [.ref x0, .int x1, .int x2, .int x3, .int x4, .int x5, .ref x6] =>
    ob 10 x0 (cIx SX10_addSight [.ref x0, .int x1, .int x2, .int x3, .int x4, .int x5] (fun v1 =>
    sJ x6 0 (v1.toInt64) <|
    rI 0)
    fun k => match k with
    | 1 => rI 1
    | 2 => rI 2
    | 3 => rI 3
    | _ => no)
  | _ => no
def bL_addSight (J : JT) : JT := fun L a => match L with
  | 0 => bL_addSight_0 J a
  | _ => no
def SL_addSight : ST := mk 8 bL_addSight
def lL_addSight (L : Nat) (a : List Value) : Nat × Nat × Nat × List (Nat × Value) × List Value := match L with
  | 0 => (0, 0, 0, lv_args 0 a, [])
  | _ => (0, 0, 0, [], [])
theorem pL_addSight_0 {Γ : CT} (hC : Ctx Γ "SpiritWallLaw" cL_addSight 8 (some .int) rmL_addSight) (hTab : (kC Γ).exceptionTable.toList = tableOf [(0, 16, 19, 13), (0, 16, 23, 18), (0, 16, 27, 72)]) (hN : NcA (kS Γ)) (J : JT) (a : List Value) : Cor Γ 8 0 0 0 (lv_args 0 a) [] (bL_addSight_0 J a) := by
  unfold bL_addSight_0
  split
  · rename_i x0 x1 x2 x3 x4 x5 x6
    refine c_sub [0, 1, 2, 3, 4, 5, 6] rfl (loc' := [(0, .ref x0), (1, .int x1), (2, .int x2), (3, .int x3), (4, .int x4), (5, .int x5), (6, .ref x6)]) ?_
    refine q_aload hC 6 dL_addSight_0 rfl ?_
    refine q_iconst hC dL_addSight_2 rfl ?_
    refine q_aload_n hC 0 dL_addSight_3 rfl rfl ?_
    refine q_iload_n hC 1 dL_addSight_4 rfl rfl ?_
    refine q_iload_n hC 2 dL_addSight_5 rfl rfl ?_
    refine q_iload_n hC 3 dL_addSight_6 rfl rfl ?_
    refine q_iload hC 4 dL_addSight_7 rfl ?_
    refine q_iload hC 5 dL_addSight_9 rfl ?_
    refine q_xVI hC (stk := [.int 0, .ref x6]) (as := [.int x1, .int x2, .int x3, .int x4, .int x5]) sX10_addSight (ci := 10) (by decide) rfl nX10_addSight rfl w_1362 w_1363 w_1364 w_27 w_1365 (Nat.le_of_ble_eq_true rfl) dL_addSight_11 rfl (fun v1 => ?_) ?_
    · refine q_i2l hC dL_addSight_14 ?_
      refine q_last hC dL_addSight_15 ?_
      refine q_goto hC 31 dL_addSight_16 rfl ?_
      refine q_iconst hC dL_addSight_31 rfl ?_
      exact q_iret hC dL_addSight_32 (Nat.le_of_ble_eq_true rfl) (Nat.le_of_ble_eq_true rfl)
    · intro k
      match k with
      | 1 =>
        refine q_hand hC hTab hN [] [(0, 16, 23, 18), (0, 16, 27, 72)] (by decide) rfl (by intro z hz; cases hz) (by decide) (by decide) w_1291 xw_cast1 (astU hC dL_addSight_19 (by decide) ?_)
        refine q_iconst hC dL_addSight_21 rfl ?_
        exact q_iret hC dL_addSight_22 (Nat.le_of_ble_eq_true rfl) (Nat.le_of_ble_eq_true rfl)
      | 2 =>
        refine q_hand hC hTab hN [(0, 16, 19, 13)] [(0, 16, 27, 72)] (by decide) rfl (by simp only [List.forall_mem_cons]; exact ⟨⟨by decide, 1, by decide, by decide, by decide, w_1291⟩, fun z hz => nomatch hz⟩) (by decide) (by decide) w_1296 xw_cast2 (astU hC dL_addSight_23 (by decide) ?_)
        refine q_iconst hC dL_addSight_25 rfl ?_
        exact q_iret hC dL_addSight_26 (Nat.le_of_ble_eq_true rfl) (Nat.le_of_ble_eq_true rfl)
      | 3 =>
        refine q_hand hC hTab hN [(0, 16, 19, 13), (0, 16, 23, 18)] [] (by decide) rfl (by simp only [List.forall_mem_cons]; exact ⟨⟨by decide, 1, by decide, by decide, by decide, w_1291⟩, ⟨by decide, 2, by decide, by decide, by decide, w_1296⟩, fun z hz => nomatch hz⟩) (by decide) (by decide) w_1361 xw_cast3 (astU hC dL_addSight_27 (by decide) ?_)
        refine q_iconst hC dL_addSight_29 rfl ?_
        exact q_iret hC dL_addSight_30 (Nat.le_of_ble_eq_true rfl) (Nat.le_of_ble_eq_true rfl)
      | 0 => exact q_noH
      | k + 4 => exact q_noH
  · exact c_no
theorem sL_addSight : SndN yL_addSight (.codeWith yL_addSight cL_addSight 8 (some .int) [(0, 16, 19, 13), (0, 16, 23, 18), (0, 16, 27, 72)]) rmL_addSight SL_addSight := by
  refine SndN.of lL_addSight (by decide +kernel) (fun _ => rfl) ?_
  intro Γ hC hTab hN J hJ L a
  match L with
  | 0 => exact pL_addSight_0 hC hTab hN J a
  | L + 1 => exact c_no
/-! SpiritWallLaw.strike(LSpiritWall;IZ[J)I -/
theorem dL_strike_0 : decode cL_strike 0 = .ok (.aload_n 3, 1) := by decide +kernel
theorem dL_strike_1 : decode cL_strike 1 = .ok (.iconst 0, 1) := by decide +kernel
theorem dL_strike_2 : decode cL_strike 2 = .ok (.aload_n 0, 1) := by decide +kernel
theorem dL_strike_3 : decode cL_strike 3 = .ok (.iload_n 1, 1) := by decide +kernel
theorem dL_strike_4 : decode cL_strike 4 = .ok (.iload_n 2, 1) := by decide +kernel
theorem dL_strike_5 : decode cL_strike 5 = .ok (.invokevirtual 74, 3) := by decide +kernel
theorem dL_strike_8 : decode cL_strike 8 = .ok (.ifCond .eq 7, 3) := by decide +kernel
theorem dL_strike_11 : decode cL_strike 11 = .ok (.lconst 1, 1) := by decide +kernel
theorem dL_strike_12 : decode cL_strike 12 = .ok (.goto 4, 3) := by decide +kernel
theorem dL_strike_15 : decode cL_strike 15 = .ok (.lconst 0, 1) := by decide +kernel
theorem dL_strike_16 : decode cL_strike 16 = .ok (.lastore, 1) := by decide +kernel
theorem dL_strike_17 : decode cL_strike 17 = .ok (.goto 7, 3) := by decide +kernel
theorem dL_strike_20 : decode cL_strike 20 = .ok (.astore 4, 2) := by decide +kernel
theorem dL_strike_22 : decode cL_strike 22 = .ok (.iconst 1, 1) := by decide +kernel
theorem dL_strike_23 : decode cL_strike 23 = .ok (.ireturn, 1) := by decide +kernel
theorem dL_strike_24 : decode cL_strike 24 = .ok (.iconst 0, 1) := by decide +kernel
theorem dL_strike_25 : decode cL_strike 25 = .ok (.ireturn, 1) := by decide +kernel
def rmL_strike : Room := rmk 10 1 6 238
theorem nL_strike : nameOk yL_strike 4 = true := by decide +kernel
def bL_strike_0 (J : JT) : List Value → Sem
  | [.ref x0, .int x1, .int x2, .ref x3] =>
    ob 10 x0 (cIx SX10_strike [.ref x0, .int x1, .int x2] (fun v1 =>
    br (v1 = 0)
    (sJ x3 0 0 <|
    rI 0)
    (sJ x3 0 1 <|
    rI 0))
    fun k => match k with
    | 1 => rI 1
    | _ => no)
  | _ => no
def bL_strike (J : JT) : JT := fun L a => match L with
  | 0 => bL_strike_0 J a
  | _ => no
def SL_strike : ST := mk 5 bL_strike
def lL_strike (L : Nat) (a : List Value) : Nat × Nat × Nat × List (Nat × Value) × List Value := match L with
  | 0 => (0, 0, 0, lv_args 0 a, [])
  | _ => (0, 0, 0, [], [])
theorem pL_strike_0 {Γ : CT} (hC : Ctx Γ "SpiritWallLaw" cL_strike 5 (some .int) rmL_strike) (hTab : (kC Γ).exceptionTable.toList = tableOf [(0, 17, 20, 13)]) (hN : NcA (kS Γ)) (J : JT) (a : List Value) : Cor Γ 5 0 0 0 (lv_args 0 a) [] (bL_strike_0 J a) := by
  unfold bL_strike_0
  split
  · rename_i x0 x1 x2 x3
    refine c_sub [0, 1, 2, 3] rfl (loc' := [(0, .ref x0), (1, .int x1), (2, .int x2), (3, .ref x3)]) ?_
    refine q_aload_n hC 3 dL_strike_0 rfl rfl ?_
    refine q_iconst hC dL_strike_1 rfl ?_
    refine q_aload_n hC 0 dL_strike_2 rfl rfl ?_
    refine q_iload_n hC 1 dL_strike_3 rfl rfl ?_
    refine q_iload_n hC 2 dL_strike_4 rfl rfl ?_
    refine q_xVI hC (stk := [.int 0, .ref x3]) (as := [.int x1, .int x2]) sX10_strike (ci := 10) (by decide) rfl nX10_strike rfl w_1366 w_1367 w_1368 w_27 w_1369 (Nat.le_of_ble_eq_true rfl) dL_strike_5 rfl (fun v1 => ?_) ?_
    · refine q_if_eq hC 15 dL_strike_8 rfl ?_ ?_
      · refine q_lconst hC (v := 0) dL_strike_15 rfl ?_
        refine q_last hC dL_strike_16 ?_
        refine q_goto hC 24 dL_strike_17 rfl ?_
        refine q_iconst hC dL_strike_24 rfl ?_
        exact q_iret hC dL_strike_25 (Nat.le_of_ble_eq_true rfl) (Nat.le_of_ble_eq_true rfl)
      · refine q_lconst hC (v := 1) dL_strike_11 rfl ?_
        refine q_goto hC 16 dL_strike_12 rfl ?_
        refine q_last hC dL_strike_16 ?_
        refine q_goto hC 24 dL_strike_17 rfl ?_
        refine q_iconst hC dL_strike_24 rfl ?_
        exact q_iret hC dL_strike_25 (Nat.le_of_ble_eq_true rfl) (Nat.le_of_ble_eq_true rfl)
    · intro k
      match k with
      | 1 =>
        refine q_hand hC hTab hN [] [] (by decide) rfl (by intro z hz; cases hz) (by decide) (by decide) w_1291 xw_cast1 (astU hC dL_strike_20 (by decide) ?_)
        refine q_iconst hC dL_strike_22 rfl ?_
        exact q_iret hC dL_strike_23 (Nat.le_of_ble_eq_true rfl) (Nat.le_of_ble_eq_true rfl)
      | 0 => exact q_noH
      | 2 => exact q_noH
      | 3 => exact q_noH
      | k + 4 => exact q_noH
  · exact c_no
theorem sL_strike : SndN yL_strike (.codeWith yL_strike cL_strike 5 (some .int) [(0, 17, 20, 13)]) rmL_strike SL_strike := by
  refine SndN.of lL_strike (by decide +kernel) (fun _ => rfl) ?_
  intro Γ hC hTab hN J hJ L a
  match L with
  | 0 => exact pL_strike_0 hC hTab hN J a
  | L + 1 => exact c_no
/-! SpiritWallLaw.swap(LSpiritWall;II[J)I -/
theorem dL_swap_0 : decode cL_swap 0 = .ok (.aload_n 3, 1) := by decide +kernel
theorem dL_swap_1 : decode cL_swap 1 = .ok (.iconst 0, 1) := by decide +kernel
theorem dL_swap_2 : decode cL_swap 2 = .ok (.aload_n 0, 1) := by decide +kernel
theorem dL_swap_3 : decode cL_swap 3 = .ok (.iload_n 1, 1) := by decide +kernel
theorem dL_swap_4 : decode cL_swap 4 = .ok (.iload_n 2, 1) := by decide +kernel
theorem dL_swap_5 : decode cL_swap 5 = .ok (.invokevirtual 78, 3) := by decide +kernel
theorem dL_swap_8 : decode cL_swap 8 = .ok (.i2l, 1) := by decide +kernel
theorem dL_swap_9 : decode cL_swap 9 = .ok (.lastore, 1) := by decide +kernel
theorem dL_swap_10 : decode cL_swap 10 = .ok (.goto 11, 3) := by decide +kernel
theorem dL_swap_13 : decode cL_swap 13 = .ok (.astore 4, 2) := by decide +kernel
theorem dL_swap_15 : decode cL_swap 15 = .ok (.iconst 1, 1) := by decide +kernel
theorem dL_swap_16 : decode cL_swap 16 = .ok (.ireturn, 1) := by decide +kernel
theorem dL_swap_17 : decode cL_swap 17 = .ok (.astore 4, 2) := by decide +kernel
theorem dL_swap_19 : decode cL_swap 19 = .ok (.iconst 2, 1) := by decide +kernel
theorem dL_swap_20 : decode cL_swap 20 = .ok (.ireturn, 1) := by decide +kernel
theorem dL_swap_21 : decode cL_swap 21 = .ok (.iconst 0, 1) := by decide +kernel
theorem dL_swap_22 : decode cL_swap 22 = .ok (.ireturn, 1) := by decide +kernel
def rmL_swap : Room := rmk 10 2 12 238
theorem nL_swap : nameOk yL_swap 4 = true := by decide +kernel
def bL_swap_0 (J : JT) : List Value → Sem
  | [.ref x0, .int x1, .int x2, .ref x3] =>
    ob 10 x0 (cIx SX10_swap [.ref x0, .int x1, .int x2] (fun v1 =>
    sJ x3 0 (v1.toInt64) <|
    rI 0)
    fun k => match k with
    | 1 => rI 1
    | 2 => rI 2
    | _ => no)
  | _ => no
def bL_swap (J : JT) : JT := fun L a => match L with
  | 0 => bL_swap_0 J a
  | _ => no
def SL_swap : ST := mk 5 bL_swap
def lL_swap (L : Nat) (a : List Value) : Nat × Nat × Nat × List (Nat × Value) × List Value := match L with
  | 0 => (0, 0, 0, lv_args 0 a, [])
  | _ => (0, 0, 0, [], [])
theorem pL_swap_0 {Γ : CT} (hC : Ctx Γ "SpiritWallLaw" cL_swap 5 (some .int) rmL_swap) (hTab : (kC Γ).exceptionTable.toList = tableOf [(0, 10, 13, 13), (0, 10, 17, 18)]) (hN : NcA (kS Γ)) (J : JT) (a : List Value) : Cor Γ 5 0 0 0 (lv_args 0 a) [] (bL_swap_0 J a) := by
  unfold bL_swap_0
  split
  · rename_i x0 x1 x2 x3
    refine c_sub [0, 1, 2, 3] rfl (loc' := [(0, .ref x0), (1, .int x1), (2, .int x2), (3, .ref x3)]) ?_
    refine q_aload_n hC 3 dL_swap_0 rfl rfl ?_
    refine q_iconst hC dL_swap_1 rfl ?_
    refine q_aload_n hC 0 dL_swap_2 rfl rfl ?_
    refine q_iload_n hC 1 dL_swap_3 rfl rfl ?_
    refine q_iload_n hC 2 dL_swap_4 rfl rfl ?_
    refine q_xVI hC (stk := [.int 0, .ref x3]) (as := [.int x1, .int x2]) sX10_swap (ci := 10) (by decide) rfl nX10_swap rfl w_1370 w_1371 w_1372 w_27 w_1373 (Nat.le_of_ble_eq_true rfl) dL_swap_5 rfl (fun v1 => ?_) ?_
    · refine q_i2l hC dL_swap_8 ?_
      refine q_last hC dL_swap_9 ?_
      refine q_goto hC 21 dL_swap_10 rfl ?_
      refine q_iconst hC dL_swap_21 rfl ?_
      exact q_iret hC dL_swap_22 (Nat.le_of_ble_eq_true rfl) (Nat.le_of_ble_eq_true rfl)
    · intro k
      match k with
      | 1 =>
        refine q_hand hC hTab hN [] [(0, 10, 17, 18)] (by decide) rfl (by intro z hz; cases hz) (by decide) (by decide) w_1291 xw_cast1 (astU hC dL_swap_13 (by decide) ?_)
        refine q_iconst hC dL_swap_15 rfl ?_
        exact q_iret hC dL_swap_16 (Nat.le_of_ble_eq_true rfl) (Nat.le_of_ble_eq_true rfl)
      | 2 =>
        refine q_hand hC hTab hN [(0, 10, 13, 13)] [] (by decide) rfl (by simp only [List.forall_mem_cons]; exact ⟨⟨by decide, 1, by decide, by decide, by decide, w_1291⟩, fun z hz => nomatch hz⟩) (by decide) (by decide) w_1296 xw_cast2 (astU hC dL_swap_17 (by decide) ?_)
        refine q_iconst hC dL_swap_19 rfl ?_
        exact q_iret hC dL_swap_20 (Nat.le_of_ble_eq_true rfl) (Nat.le_of_ble_eq_true rfl)
      | 0 => exact q_noH
      | 3 => exact q_noH
      | k + 4 => exact q_noH
  · exact c_no
theorem sL_swap : SndN yL_swap (.codeWith yL_swap cL_swap 5 (some .int) [(0, 10, 13, 13), (0, 10, 17, 18)]) rmL_swap SL_swap := by
  refine SndN.of lL_swap (by decide +kernel) (fun _ => rfl) ?_
  intro Γ hC hTab hN J hJ L a
  match L with
  | 0 => exact pL_swap_0 hC hTab hN J a
  | L + 1 => exact c_no
/-! SpiritWallLaw.fix(LSpiritWall;II[J)I -/
theorem dL_fix_0 : decode cL_fix 0 = .ok (.aload_n 3, 1) := by decide +kernel
theorem dL_fix_1 : decode cL_fix 1 = .ok (.iconst 0, 1) := by decide +kernel
theorem dL_fix_2 : decode cL_fix 2 = .ok (.aload_n 0, 1) := by decide +kernel
theorem dL_fix_3 : decode cL_fix 3 = .ok (.iload_n 1, 1) := by decide +kernel
theorem dL_fix_4 : decode cL_fix 4 = .ok (.iload_n 2, 1) := by decide +kernel
theorem dL_fix_5 : decode cL_fix 5 = .ok (.invokevirtual 81, 3) := by decide +kernel
theorem dL_fix_8 : decode cL_fix 8 = .ok (.ifCond .eq 7, 3) := by decide +kernel
theorem dL_fix_11 : decode cL_fix 11 = .ok (.lconst 1, 1) := by decide +kernel
theorem dL_fix_12 : decode cL_fix 12 = .ok (.goto 4, 3) := by decide +kernel
theorem dL_fix_15 : decode cL_fix 15 = .ok (.lconst 0, 1) := by decide +kernel
theorem dL_fix_16 : decode cL_fix 16 = .ok (.lastore, 1) := by decide +kernel
theorem dL_fix_17 : decode cL_fix 17 = .ok (.goto 11, 3) := by decide +kernel
theorem dL_fix_20 : decode cL_fix 20 = .ok (.astore 4, 2) := by decide +kernel
theorem dL_fix_22 : decode cL_fix 22 = .ok (.iconst 1, 1) := by decide +kernel
theorem dL_fix_23 : decode cL_fix 23 = .ok (.ireturn, 1) := by decide +kernel
theorem dL_fix_24 : decode cL_fix 24 = .ok (.astore 4, 2) := by decide +kernel
theorem dL_fix_26 : decode cL_fix 26 = .ok (.iconst 2, 1) := by decide +kernel
theorem dL_fix_27 : decode cL_fix 27 = .ok (.ireturn, 1) := by decide +kernel
theorem dL_fix_28 : decode cL_fix 28 = .ok (.iconst 0, 1) := by decide +kernel
theorem dL_fix_29 : decode cL_fix 29 = .ok (.ireturn, 1) := by decide +kernel
def rmL_fix : Room := rmk 10 2 12 239
theorem nL_fix : nameOk yL_fix 4 = true := by decide +kernel
def bL_fix_0 (J : JT) : List Value → Sem
  | [.ref x0, .int x1, .int x2, .ref x3] =>
    ob 10 x0 (cIx SX10_fix [.ref x0, .int x1, .int x2] (fun v1 =>
    br (v1 = 0)
    (sJ x3 0 0 <|
    rI 0)
    (sJ x3 0 1 <|
    rI 0))
    fun k => match k with
    | 1 => rI 1
    | 2 => rI 2
    | _ => no)
  | _ => no
def bL_fix (J : JT) : JT := fun L a => match L with
  | 0 => bL_fix_0 J a
  | _ => no
def SL_fix : ST := mk 5 bL_fix
def lL_fix (L : Nat) (a : List Value) : Nat × Nat × Nat × List (Nat × Value) × List Value := match L with
  | 0 => (0, 0, 0, lv_args 0 a, [])
  | _ => (0, 0, 0, [], [])
theorem pL_fix_0 {Γ : CT} (hC : Ctx Γ "SpiritWallLaw" cL_fix 5 (some .int) rmL_fix) (hTab : (kC Γ).exceptionTable.toList = tableOf [(0, 17, 20, 13), (0, 17, 24, 18)]) (hN : NcA (kS Γ)) (J : JT) (a : List Value) : Cor Γ 5 0 0 0 (lv_args 0 a) [] (bL_fix_0 J a) := by
  unfold bL_fix_0
  split
  · rename_i x0 x1 x2 x3
    refine c_sub [0, 1, 2, 3] rfl (loc' := [(0, .ref x0), (1, .int x1), (2, .int x2), (3, .ref x3)]) ?_
    refine q_aload_n hC 3 dL_fix_0 rfl rfl ?_
    refine q_iconst hC dL_fix_1 rfl ?_
    refine q_aload_n hC 0 dL_fix_2 rfl rfl ?_
    refine q_iload_n hC 1 dL_fix_3 rfl rfl ?_
    refine q_iload_n hC 2 dL_fix_4 rfl rfl ?_
    refine q_xVI hC (stk := [.int 0, .ref x3]) (as := [.int x1, .int x2]) sX10_fix (ci := 10) (by decide) rfl nX10_fix rfl w_1374 w_1375 w_1376 w_27 w_1377 (Nat.le_of_ble_eq_true rfl) dL_fix_5 rfl (fun v1 => ?_) ?_
    · refine q_if_eq hC 15 dL_fix_8 rfl ?_ ?_
      · refine q_lconst hC (v := 0) dL_fix_15 rfl ?_
        refine q_last hC dL_fix_16 ?_
        refine q_goto hC 28 dL_fix_17 rfl ?_
        refine q_iconst hC dL_fix_28 rfl ?_
        exact q_iret hC dL_fix_29 (Nat.le_of_ble_eq_true rfl) (Nat.le_of_ble_eq_true rfl)
      · refine q_lconst hC (v := 1) dL_fix_11 rfl ?_
        refine q_goto hC 16 dL_fix_12 rfl ?_
        refine q_last hC dL_fix_16 ?_
        refine q_goto hC 28 dL_fix_17 rfl ?_
        refine q_iconst hC dL_fix_28 rfl ?_
        exact q_iret hC dL_fix_29 (Nat.le_of_ble_eq_true rfl) (Nat.le_of_ble_eq_true rfl)
    · intro k
      match k with
      | 1 =>
        refine q_hand hC hTab hN [] [(0, 17, 24, 18)] (by decide) rfl (by intro z hz; cases hz) (by decide) (by decide) w_1291 xw_cast1 (astU hC dL_fix_20 (by decide) ?_)
        refine q_iconst hC dL_fix_22 rfl ?_
        exact q_iret hC dL_fix_23 (Nat.le_of_ble_eq_true rfl) (Nat.le_of_ble_eq_true rfl)
      | 2 =>
        refine q_hand hC hTab hN [(0, 17, 20, 13)] [] (by decide) rfl (by simp only [List.forall_mem_cons]; exact ⟨⟨by decide, 1, by decide, by decide, by decide, w_1291⟩, fun z hz => nomatch hz⟩) (by decide) (by decide) w_1296 xw_cast2 (astU hC dL_fix_24 (by decide) ?_)
        refine q_iconst hC dL_fix_26 rfl ?_
        exact q_iret hC dL_fix_27 (Nat.le_of_ble_eq_true rfl) (Nat.le_of_ble_eq_true rfl)
      | 0 => exact q_noH
      | 3 => exact q_noH
      | k + 4 => exact q_noH
  · exact c_no
theorem sL_fix : SndN yL_fix (.codeWith yL_fix cL_fix 5 (some .int) [(0, 17, 20, 13), (0, 17, 24, 18)]) rmL_fix SL_fix := by
  refine SndN.of lL_fix (by decide +kernel) (fun _ => rfl) ?_
  intro Γ hC hTab hN J hJ L a
  match L with
  | 0 => exact pL_fix_0 hC hTab hN J a
  | L + 1 => exact c_no
/-! SpiritWallLaw.free(LSpiritWall;I[J)I -/
theorem dL_free_0 : decode cL_free 0 = .ok (.aload_n 2, 1) := by decide +kernel
theorem dL_free_1 : decode cL_free 1 = .ok (.iconst 0, 1) := by decide +kernel
theorem dL_free_2 : decode cL_free 2 = .ok (.aload_n 0, 1) := by decide +kernel
theorem dL_free_3 : decode cL_free 3 = .ok (.iload_n 1, 1) := by decide +kernel
theorem dL_free_4 : decode cL_free 4 = .ok (.invokevirtual 85, 3) := by decide +kernel
theorem dL_free_7 : decode cL_free 7 = .ok (.i2l, 1) := by decide +kernel
theorem dL_free_8 : decode cL_free 8 = .ok (.lastore, 1) := by decide +kernel
theorem dL_free_9 : decode cL_free 9 = .ok (.goto 9, 3) := by decide +kernel
theorem dL_free_12 : decode cL_free 12 = .ok (.astore_n 3, 1) := by decide +kernel
theorem dL_free_13 : decode cL_free 13 = .ok (.iconst 1, 1) := by decide +kernel
theorem dL_free_14 : decode cL_free 14 = .ok (.ireturn, 1) := by decide +kernel
theorem dL_free_15 : decode cL_free 15 = .ok (.astore_n 3, 1) := by decide +kernel
theorem dL_free_16 : decode cL_free 16 = .ok (.iconst 2, 1) := by decide +kernel
theorem dL_free_17 : decode cL_free 17 = .ok (.ireturn, 1) := by decide +kernel
theorem dL_free_18 : decode cL_free 18 = .ok (.iconst 0, 1) := by decide +kernel
theorem dL_free_19 : decode cL_free 19 = .ok (.ireturn, 1) := by decide +kernel
def rmL_free : Room := rmk 10 2 12 236
theorem nL_free : nameOk yL_free 3 = true := by decide +kernel
def bL_free_0 (J : JT) : List Value → Sem
  | [.ref x0, .int x1, .ref x2] =>
    ob 10 x0 (cIx SX10_free [.ref x0, .int x1] (fun v1 =>
    sJ x2 0 (v1.toInt64) <|
    rI 0)
    fun k => match k with
    | 1 => rI 1
    | 3 => rI 2
    | _ => no)
  | _ => no
def bL_free (J : JT) : JT := fun L a => match L with
  | 0 => bL_free_0 J a
  | _ => no
def SL_free : ST := mk 4 bL_free
def lL_free (L : Nat) (a : List Value) : Nat × Nat × Nat × List (Nat × Value) × List Value := match L with
  | 0 => (0, 0, 0, lv_args 0 a, [])
  | _ => (0, 0, 0, [], [])
theorem pL_free_0 {Γ : CT} (hC : Ctx Γ "SpiritWallLaw" cL_free 4 (some .int) rmL_free) (hTab : (kC Γ).exceptionTable.toList = tableOf [(0, 9, 12, 13), (0, 9, 15, 72)]) (hN : NcA (kS Γ)) (J : JT) (a : List Value) : Cor Γ 4 0 0 0 (lv_args 0 a) [] (bL_free_0 J a) := by
  unfold bL_free_0
  split
  · rename_i x0 x1 x2
    refine c_sub [0, 1, 2] rfl (loc' := [(0, .ref x0), (1, .int x1), (2, .ref x2)]) ?_
    refine q_aload_n hC 2 dL_free_0 rfl rfl ?_
    refine q_iconst hC dL_free_1 rfl ?_
    refine q_aload_n hC 0 dL_free_2 rfl rfl ?_
    refine q_iload_n hC 1 dL_free_3 rfl rfl ?_
    refine q_xVI hC (stk := [.int 0, .ref x2]) (as := [.int x1]) sX10_free (ci := 10) (by decide) rfl nX10_free rfl w_1378 w_1379 w_1380 w_27 w_1381 (Nat.le_of_ble_eq_true rfl) dL_free_4 rfl (fun v1 => ?_) ?_
    · refine q_i2l hC dL_free_7 ?_
      refine q_last hC dL_free_8 ?_
      refine q_goto hC 18 dL_free_9 rfl ?_
      refine q_iconst hC dL_free_18 rfl ?_
      exact q_iret hC dL_free_19 (Nat.le_of_ble_eq_true rfl) (Nat.le_of_ble_eq_true rfl)
    · intro k
      match k with
      | 1 =>
        refine q_hand hC hTab hN [] [(0, 9, 15, 72)] (by decide) rfl (by intro z hz; cases hz) (by decide) (by decide) w_1291 xw_cast1 (astU_n hC dL_free_12 rfl (by decide) ?_)
        refine q_iconst hC dL_free_13 rfl ?_
        exact q_iret hC dL_free_14 (Nat.le_of_ble_eq_true rfl) (Nat.le_of_ble_eq_true rfl)
      | 3 =>
        refine q_hand hC hTab hN [(0, 9, 12, 13)] [] (by decide) rfl (by simp only [List.forall_mem_cons]; exact ⟨⟨by decide, 1, by decide, by decide, by decide, w_1291⟩, fun z hz => nomatch hz⟩) (by decide) (by decide) w_1361 xw_cast3 (astU_n hC dL_free_15 rfl (by decide) ?_)
        refine q_iconst hC dL_free_16 rfl ?_
        exact q_iret hC dL_free_17 (Nat.le_of_ble_eq_true rfl) (Nat.le_of_ble_eq_true rfl)
      | 0 => exact q_noH
      | 2 => exact q_noH
      | k + 4 => exact q_noH
  · exact c_no
theorem sL_free : SndN yL_free (.codeWith yL_free cL_free 4 (some .int) [(0, 9, 12, 13), (0, 9, 15, 72)]) rmL_free SL_free := by
  refine SndN.of lL_free (by decide +kernel) (fun _ => rfl) ?_
  intro Γ hC hTab hN J hJ L a
  match L with
  | 0 => exact pL_free_0 hC hTab hN J a
  | L + 1 => exact c_no
/-! SpiritWallLaw.relax(LSpiritWall;I[J)I -/
theorem dL_relax_0 : decode cL_relax 0 = .ok (.aload_n 2, 1) := by decide +kernel
theorem dL_relax_1 : decode cL_relax 1 = .ok (.iconst 0, 1) := by decide +kernel
theorem dL_relax_2 : decode cL_relax 2 = .ok (.aload_n 0, 1) := by decide +kernel
theorem dL_relax_3 : decode cL_relax 3 = .ok (.iload_n 1, 1) := by decide +kernel
theorem dL_relax_4 : decode cL_relax 4 = .ok (.invokevirtual 88, 3) := by decide +kernel
theorem dL_relax_7 : decode cL_relax 7 = .ok (.i2l, 1) := by decide +kernel
theorem dL_relax_8 : decode cL_relax 8 = .ok (.lastore, 1) := by decide +kernel
theorem dL_relax_9 : decode cL_relax 9 = .ok (.goto 6, 3) := by decide +kernel
theorem dL_relax_12 : decode cL_relax 12 = .ok (.astore_n 3, 1) := by decide +kernel
theorem dL_relax_13 : decode cL_relax 13 = .ok (.iconst 1, 1) := by decide +kernel
theorem dL_relax_14 : decode cL_relax 14 = .ok (.ireturn, 1) := by decide +kernel
theorem dL_relax_15 : decode cL_relax 15 = .ok (.iconst 0, 1) := by decide +kernel
theorem dL_relax_16 : decode cL_relax 16 = .ok (.ireturn, 1) := by decide +kernel
def rmL_relax : Room := rmk 14 1 6 336
theorem nL_relax : nameOk yL_relax 3 = true := by decide +kernel
def bL_relax_0 (J : JT) : List Value → Sem
  | [.ref x0, .int x1, .ref x2] =>
    ob 10 x0 (cIx SX10_relax [.ref x0, .int x1] (fun v1 =>
    sJ x2 0 (v1.toInt64) <|
    rI 0)
    fun k => match k with
    | 2 => rI 1
    | _ => no)
  | _ => no
def bL_relax (J : JT) : JT := fun L a => match L with
  | 0 => bL_relax_0 J a
  | _ => no
def SL_relax : ST := mk 4 bL_relax
def lL_relax (L : Nat) (a : List Value) : Nat × Nat × Nat × List (Nat × Value) × List Value := match L with
  | 0 => (0, 0, 0, lv_args 0 a, [])
  | _ => (0, 0, 0, [], [])
theorem pL_relax_0 {Γ : CT} (hC : Ctx Γ "SpiritWallLaw" cL_relax 4 (some .int) rmL_relax) (hTab : (kC Γ).exceptionTable.toList = tableOf [(0, 9, 12, 18)]) (hN : NcA (kS Γ)) (J : JT) (a : List Value) : Cor Γ 4 0 0 0 (lv_args 0 a) [] (bL_relax_0 J a) := by
  unfold bL_relax_0
  split
  · rename_i x0 x1 x2
    refine c_sub [0, 1, 2] rfl (loc' := [(0, .ref x0), (1, .int x1), (2, .ref x2)]) ?_
    refine q_aload_n hC 2 dL_relax_0 rfl rfl ?_
    refine q_iconst hC dL_relax_1 rfl ?_
    refine q_aload_n hC 0 dL_relax_2 rfl rfl ?_
    refine q_iload_n hC 1 dL_relax_3 rfl rfl ?_
    refine q_xVI hC (stk := [.int 0, .ref x2]) (as := [.int x1]) sX10_relax (ci := 10) (by decide) rfl nX10_relax rfl w_1382 w_1383 w_1384 w_27 w_1385 (Nat.le_of_ble_eq_true rfl) dL_relax_4 rfl (fun v1 => ?_) ?_
    · refine q_i2l hC dL_relax_7 ?_
      refine q_last hC dL_relax_8 ?_
      refine q_goto hC 15 dL_relax_9 rfl ?_
      refine q_iconst hC dL_relax_15 rfl ?_
      exact q_iret hC dL_relax_16 (Nat.le_of_ble_eq_true rfl) (Nat.le_of_ble_eq_true rfl)
    · intro k
      match k with
      | 2 =>
        refine q_hand hC hTab hN [] [] (by decide) rfl (by intro z hz; cases hz) (by decide) (by decide) w_1296 xw_cast2 (astU_n hC dL_relax_12 rfl (by decide) ?_)
        refine q_iconst hC dL_relax_13 rfl ?_
        exact q_iret hC dL_relax_14 (Nat.le_of_ble_eq_true rfl) (Nat.le_of_ble_eq_true rfl)
      | 0 => exact q_noH
      | 1 => exact q_noH
      | 3 => exact q_noH
      | k + 4 => exact q_noH
  · exact c_no
theorem sL_relax : SndN yL_relax (.codeWith yL_relax cL_relax 4 (some .int) [(0, 9, 12, 18)]) rmL_relax SL_relax := by
  refine SndN.of lL_relax (by decide +kernel) (fun _ => rfl) ?_
  intro Γ hC hTab hN J hJ L a
  match L with
  | 0 => exact pL_relax_0 hC hTab hN J a
  | L + 1 => exact c_no
/-! SpiritWallLaw.tellError(LSpiritWall;I[J)I -/
theorem dL_tellError_0 : decode cL_tellError 0 = .ok (.aload_n 2, 1) := by decide +kernel
theorem dL_tellError_1 : decode cL_tellError 1 = .ok (.iconst 0, 1) := by decide +kernel
theorem dL_tellError_2 : decode cL_tellError 2 = .ok (.aload_n 0, 1) := by decide +kernel
theorem dL_tellError_3 : decode cL_tellError 3 = .ok (.iload_n 1, 1) := by decide +kernel
theorem dL_tellError_4 : decode cL_tellError 4 = .ok (.invokevirtual 91, 3) := by decide +kernel
theorem dL_tellError_7 : decode cL_tellError 7 = .ok (.i2l, 1) := by decide +kernel
theorem dL_tellError_8 : decode cL_tellError 8 = .ok (.lastore, 1) := by decide +kernel
theorem dL_tellError_9 : decode cL_tellError 9 = .ok (.goto 6, 3) := by decide +kernel
theorem dL_tellError_12 : decode cL_tellError 12 = .ok (.astore_n 3, 1) := by decide +kernel
theorem dL_tellError_13 : decode cL_tellError 13 = .ok (.iconst 1, 1) := by decide +kernel
theorem dL_tellError_14 : decode cL_tellError 14 = .ok (.ireturn, 1) := by decide +kernel
theorem dL_tellError_15 : decode cL_tellError 15 = .ok (.iconst 0, 1) := by decide +kernel
theorem dL_tellError_16 : decode cL_tellError 16 = .ok (.ireturn, 1) := by decide +kernel
def rmL_tellError : Room := rmk 14 1 6 332
theorem nL_tellError : nameOk yL_tellError 3 = true := by decide +kernel
def bL_tellError_0 (J : JT) : List Value → Sem
  | [.ref x0, .int x1, .ref x2] =>
    ob 10 x0 (cIx SX10_tellError [.ref x0, .int x1] (fun v1 =>
    sJ x2 0 (v1.toInt64) <|
    rI 0)
    fun k => match k with
    | 2 => rI 1
    | _ => no)
  | _ => no
def bL_tellError (J : JT) : JT := fun L a => match L with
  | 0 => bL_tellError_0 J a
  | _ => no
def SL_tellError : ST := mk 4 bL_tellError
def lL_tellError (L : Nat) (a : List Value) : Nat × Nat × Nat × List (Nat × Value) × List Value := match L with
  | 0 => (0, 0, 0, lv_args 0 a, [])
  | _ => (0, 0, 0, [], [])
theorem pL_tellError_0 {Γ : CT} (hC : Ctx Γ "SpiritWallLaw" cL_tellError 4 (some .int) rmL_tellError) (hTab : (kC Γ).exceptionTable.toList = tableOf [(0, 9, 12, 18)]) (hN : NcA (kS Γ)) (J : JT) (a : List Value) : Cor Γ 4 0 0 0 (lv_args 0 a) [] (bL_tellError_0 J a) := by
  unfold bL_tellError_0
  split
  · rename_i x0 x1 x2
    refine c_sub [0, 1, 2] rfl (loc' := [(0, .ref x0), (1, .int x1), (2, .ref x2)]) ?_
    refine q_aload_n hC 2 dL_tellError_0 rfl rfl ?_
    refine q_iconst hC dL_tellError_1 rfl ?_
    refine q_aload_n hC 0 dL_tellError_2 rfl rfl ?_
    refine q_iload_n hC 1 dL_tellError_3 rfl rfl ?_
    refine q_xVI hC (stk := [.int 0, .ref x2]) (as := [.int x1]) sX10_tellError (ci := 10) (by decide) rfl nX10_tellError rfl w_1386 w_1387 w_1388 w_27 w_1389 (Nat.le_of_ble_eq_true rfl) dL_tellError_4 rfl (fun v1 => ?_) ?_
    · refine q_i2l hC dL_tellError_7 ?_
      refine q_last hC dL_tellError_8 ?_
      refine q_goto hC 15 dL_tellError_9 rfl ?_
      refine q_iconst hC dL_tellError_15 rfl ?_
      exact q_iret hC dL_tellError_16 (Nat.le_of_ble_eq_true rfl) (Nat.le_of_ble_eq_true rfl)
    · intro k
      match k with
      | 2 =>
        refine q_hand hC hTab hN [] [] (by decide) rfl (by intro z hz; cases hz) (by decide) (by decide) w_1296 xw_cast2 (astU_n hC dL_tellError_12 rfl (by decide) ?_)
        refine q_iconst hC dL_tellError_13 rfl ?_
        exact q_iret hC dL_tellError_14 (Nat.le_of_ble_eq_true rfl) (Nat.le_of_ble_eq_true rfl)
      | 0 => exact q_noH
      | 1 => exact q_noH
      | 3 => exact q_noH
      | k + 4 => exact q_noH
  · exact c_no
theorem sL_tellError : SndN yL_tellError (.codeWith yL_tellError cL_tellError 4 (some .int) [(0, 9, 12, 18)]) rmL_tellError SL_tellError := by
  refine SndN.of lL_tellError (by decide +kernel) (fun _ => rfl) ?_
  intro Γ hC hTab hN J hJ L a
  match L with
  | 0 => exact pL_tellError_0 hC hTab hN J a
  | L + 1 => exact c_no
/-! SpiritWallLaw.set(LSpiritWall;II[J)I -/
theorem dL_set_0 : decode cL_set 0 = .ok (.aload_n 3, 1) := by decide +kernel
theorem dL_set_1 : decode cL_set 1 = .ok (.iconst 0, 1) := by decide +kernel
theorem dL_set_2 : decode cL_set 2 = .ok (.aload_n 0, 1) := by decide +kernel
theorem dL_set_3 : decode cL_set 3 = .ok (.iload_n 1, 1) := by decide +kernel
theorem dL_set_4 : decode cL_set 4 = .ok (.iload_n 2, 1) := by decide +kernel
theorem dL_set_5 : decode cL_set 5 = .ok (.invokevirtual 94, 3) := by decide +kernel
theorem dL_set_8 : decode cL_set 8 = .ok (.i2l, 1) := by decide +kernel
theorem dL_set_9 : decode cL_set 9 = .ok (.lastore, 1) := by decide +kernel
theorem dL_set_10 : decode cL_set 10 = .ok (.goto 7, 3) := by decide +kernel
theorem dL_set_13 : decode cL_set 13 = .ok (.astore 4, 2) := by decide +kernel
theorem dL_set_15 : decode cL_set 15 = .ok (.iconst 1, 1) := by decide +kernel
theorem dL_set_16 : decode cL_set 16 = .ok (.ireturn, 1) := by decide +kernel
theorem dL_set_17 : decode cL_set 17 = .ok (.iconst 0, 1) := by decide +kernel
theorem dL_set_18 : decode cL_set 18 = .ok (.ireturn, 1) := by decide +kernel
def rmL_set : Room := rmk 10 2 12 238
theorem nL_set : nameOk yL_set 4 = true := by decide +kernel
def bL_set_0 (J : JT) : List Value → Sem
  | [.ref x0, .int x1, .int x2, .ref x3] =>
    ob 10 x0 (cIx SX10_set [.ref x0, .int x1, .int x2] (fun v1 =>
    sJ x3 0 (v1.toInt64) <|
    rI 0)
    fun k => match k with
    | 2 => rI 1
    | _ => no)
  | _ => no
def bL_set (J : JT) : JT := fun L a => match L with
  | 0 => bL_set_0 J a
  | _ => no
def SL_set : ST := mk 5 bL_set
def lL_set (L : Nat) (a : List Value) : Nat × Nat × Nat × List (Nat × Value) × List Value := match L with
  | 0 => (0, 0, 0, lv_args 0 a, [])
  | _ => (0, 0, 0, [], [])
theorem pL_set_0 {Γ : CT} (hC : Ctx Γ "SpiritWallLaw" cL_set 5 (some .int) rmL_set) (hTab : (kC Γ).exceptionTable.toList = tableOf [(0, 10, 13, 18)]) (hN : NcA (kS Γ)) (J : JT) (a : List Value) : Cor Γ 5 0 0 0 (lv_args 0 a) [] (bL_set_0 J a) := by
  unfold bL_set_0
  split
  · rename_i x0 x1 x2 x3
    refine c_sub [0, 1, 2, 3] rfl (loc' := [(0, .ref x0), (1, .int x1), (2, .int x2), (3, .ref x3)]) ?_
    refine q_aload_n hC 3 dL_set_0 rfl rfl ?_
    refine q_iconst hC dL_set_1 rfl ?_
    refine q_aload_n hC 0 dL_set_2 rfl rfl ?_
    refine q_iload_n hC 1 dL_set_3 rfl rfl ?_
    refine q_iload_n hC 2 dL_set_4 rfl rfl ?_
    refine q_xVI hC (stk := [.int 0, .ref x3]) (as := [.int x1, .int x2]) sX10_set (ci := 10) (by decide) rfl nX10_set rfl w_1390 w_1391 w_1392 w_27 w_1393 (Nat.le_of_ble_eq_true rfl) dL_set_5 rfl (fun v1 => ?_) ?_
    · refine q_i2l hC dL_set_8 ?_
      refine q_last hC dL_set_9 ?_
      refine q_goto hC 17 dL_set_10 rfl ?_
      refine q_iconst hC dL_set_17 rfl ?_
      exact q_iret hC dL_set_18 (Nat.le_of_ble_eq_true rfl) (Nat.le_of_ble_eq_true rfl)
    · intro k
      match k with
      | 2 =>
        refine q_hand hC hTab hN [] [] (by decide) rfl (by intro z hz; cases hz) (by decide) (by decide) w_1296 xw_cast2 (astU hC dL_set_13 (by decide) ?_)
        refine q_iconst hC dL_set_15 rfl ?_
        exact q_iret hC dL_set_16 (Nat.le_of_ble_eq_true rfl) (Nat.le_of_ble_eq_true rfl)
      | 0 => exact q_noH
      | 1 => exact q_noH
      | 3 => exact q_noH
      | k + 4 => exact q_noH
  · exact c_no
theorem sL_set : SndN yL_set (.codeWith yL_set cL_set 5 (some .int) [(0, 10, 13, 18)]) rmL_set SL_set := by
  refine SndN.of lL_set (by decide +kernel) (fun _ => rfl) ?_
  intro Γ hC hTab hN J hJ L a
  match L with
  | 0 => exact pL_set_0 hC hTab hN J a
  | L + 1 => exact c_no
/-! SpiritWallLaw.undo(LSpiritWall;[J)I -/
theorem dL_undo_0 : decode cL_undo 0 = .ok (.aload_n 1, 1) := by decide +kernel
theorem dL_undo_1 : decode cL_undo 1 = .ok (.iconst 0, 1) := by decide +kernel
theorem dL_undo_2 : decode cL_undo 2 = .ok (.aload_n 0, 1) := by decide +kernel
theorem dL_undo_3 : decode cL_undo 3 = .ok (.invokevirtual 97, 3) := by decide +kernel
theorem dL_undo_6 : decode cL_undo 6 = .ok (.i2l, 1) := by decide +kernel
theorem dL_undo_7 : decode cL_undo 7 = .ok (.lastore, 1) := by decide +kernel
theorem dL_undo_8 : decode cL_undo 8 = .ok (.goto 6, 3) := by decide +kernel
theorem dL_undo_11 : decode cL_undo 11 = .ok (.astore_n 2, 1) := by decide +kernel
theorem dL_undo_12 : decode cL_undo 12 = .ok (.iconst 1, 1) := by decide +kernel
theorem dL_undo_13 : decode cL_undo 13 = .ok (.ireturn, 1) := by decide +kernel
theorem dL_undo_14 : decode cL_undo 14 = .ok (.iconst 0, 1) := by decide +kernel
theorem dL_undo_15 : decode cL_undo 15 = .ok (.ireturn, 1) := by decide +kernel
def rmL_undo : Room := rmk 10 1 6 235
theorem nL_undo : nameOk yL_undo 2 = true := by decide +kernel
def bL_undo_0 (J : JT) : List Value → Sem
  | [.ref x0, .ref x1] =>
    ob 10 x0 (cIx SX10_undo [.ref x0] (fun v1 =>
    sJ x1 0 (v1.toInt64) <|
    rI 0)
    fun k => match k with
    | 3 => rI 1
    | _ => no)
  | _ => no
def bL_undo (J : JT) : JT := fun L a => match L with
  | 0 => bL_undo_0 J a
  | _ => no
def SL_undo : ST := mk 3 bL_undo
def lL_undo (L : Nat) (a : List Value) : Nat × Nat × Nat × List (Nat × Value) × List Value := match L with
  | 0 => (0, 0, 0, lv_args 0 a, [])
  | _ => (0, 0, 0, [], [])
theorem pL_undo_0 {Γ : CT} (hC : Ctx Γ "SpiritWallLaw" cL_undo 3 (some .int) rmL_undo) (hTab : (kC Γ).exceptionTable.toList = tableOf [(0, 8, 11, 72)]) (hN : NcA (kS Γ)) (J : JT) (a : List Value) : Cor Γ 3 0 0 0 (lv_args 0 a) [] (bL_undo_0 J a) := by
  unfold bL_undo_0
  split
  · rename_i x0 x1
    refine c_sub [0, 1] rfl (loc' := [(0, .ref x0), (1, .ref x1)]) ?_
    refine q_aload_n hC 1 dL_undo_0 rfl rfl ?_
    refine q_iconst hC dL_undo_1 rfl ?_
    refine q_aload_n hC 0 dL_undo_2 rfl rfl ?_
    refine q_xVI hC (stk := [.int 0, .ref x1]) (as := []) sX10_undo (ci := 10) (by decide) rfl nX10_undo rfl w_1394 w_1395 w_1396 w_27 w_1397 (Nat.le_of_ble_eq_true rfl) dL_undo_3 rfl (fun v1 => ?_) ?_
    · refine q_i2l hC dL_undo_6 ?_
      refine q_last hC dL_undo_7 ?_
      refine q_goto hC 14 dL_undo_8 rfl ?_
      refine q_iconst hC dL_undo_14 rfl ?_
      exact q_iret hC dL_undo_15 (Nat.le_of_ble_eq_true rfl) (Nat.le_of_ble_eq_true rfl)
    · intro k
      match k with
      | 3 =>
        refine q_hand hC hTab hN [] [] (by decide) rfl (by intro z hz; cases hz) (by decide) (by decide) w_1361 xw_cast3 (astU_n hC dL_undo_11 rfl (by decide) ?_)
        refine q_iconst hC dL_undo_12 rfl ?_
        exact q_iret hC dL_undo_13 (Nat.le_of_ble_eq_true rfl) (Nat.le_of_ble_eq_true rfl)
      | 0 => exact q_noH
      | 1 => exact q_noH
      | 2 => exact q_noH
      | k + 4 => exact q_noH
  · exact c_no
theorem sL_undo : SndN yL_undo (.codeWith yL_undo cL_undo 3 (some .int) [(0, 8, 11, 72)]) rmL_undo SL_undo := by
  refine SndN.of lL_undo (by decide +kernel) (fun _ => rfl) ?_
  intro Γ hC hTab hN J hJ L a
  match L with
  | 0 => exact pL_undo_0 hC hTab hN J a
  | L + 1 => exact c_no
/-! SpiritWallLaw.printLoop(LSpiritWall;I[J)I -/
theorem dL_printLoop_0 : decode cL_printLoop 0 = .ok (.aload_n 2, 1) := by decide +kernel
theorem dL_printLoop_1 : decode cL_printLoop 1 = .ok (.iconst 0, 1) := by decide +kernel
theorem dL_printLoop_2 : decode cL_printLoop 2 = .ok (.aload_n 0, 1) := by decide +kernel
theorem dL_printLoop_3 : decode cL_printLoop 3 = .ok (.iload_n 1, 1) := by decide +kernel
theorem dL_printLoop_4 : decode cL_printLoop 4 = .ok (.invokevirtual 101, 3) := by decide +kernel
theorem dL_printLoop_7 : decode cL_printLoop 7 = .ok (.i2l, 1) := by decide +kernel
theorem dL_printLoop_8 : decode cL_printLoop 8 = .ok (.lastore, 1) := by decide +kernel
theorem dL_printLoop_9 : decode cL_printLoop 9 = .ok (.goto 6, 3) := by decide +kernel
theorem dL_printLoop_12 : decode cL_printLoop 12 = .ok (.astore_n 3, 1) := by decide +kernel
theorem dL_printLoop_13 : decode cL_printLoop 13 = .ok (.iconst 1, 1) := by decide +kernel
theorem dL_printLoop_14 : decode cL_printLoop 14 = .ok (.ireturn, 1) := by decide +kernel
theorem dL_printLoop_15 : decode cL_printLoop 15 = .ok (.iconst 0, 1) := by decide +kernel
theorem dL_printLoop_16 : decode cL_printLoop 16 = .ok (.ireturn, 1) := by decide +kernel
def rmL_printLoop : Room := rmk 14 1 6 334
theorem nL_printLoop : nameOk yL_printLoop 3 = true := by decide +kernel
def bL_printLoop_0 (J : JT) : List Value → Sem
  | [.ref x0, .int x1, .ref x2] =>
    ob 10 x0 (cIx SX10_printLoop [.ref x0, .int x1] (fun v1 =>
    sJ x2 0 (v1.toInt64) <|
    rI 0)
    fun k => match k with
    | 1 => rI 1
    | _ => no)
  | _ => no
def bL_printLoop (J : JT) : JT := fun L a => match L with
  | 0 => bL_printLoop_0 J a
  | _ => no
def SL_printLoop : ST := mk 4 bL_printLoop
def lL_printLoop (L : Nat) (a : List Value) : Nat × Nat × Nat × List (Nat × Value) × List Value := match L with
  | 0 => (0, 0, 0, lv_args 0 a, [])
  | _ => (0, 0, 0, [], [])
theorem pL_printLoop_0 {Γ : CT} (hC : Ctx Γ "SpiritWallLaw" cL_printLoop 4 (some .int) rmL_printLoop) (hTab : (kC Γ).exceptionTable.toList = tableOf [(0, 9, 12, 13)]) (hN : NcA (kS Γ)) (J : JT) (a : List Value) : Cor Γ 4 0 0 0 (lv_args 0 a) [] (bL_printLoop_0 J a) := by
  unfold bL_printLoop_0
  split
  · rename_i x0 x1 x2
    refine c_sub [0, 1, 2] rfl (loc' := [(0, .ref x0), (1, .int x1), (2, .ref x2)]) ?_
    refine q_aload_n hC 2 dL_printLoop_0 rfl rfl ?_
    refine q_iconst hC dL_printLoop_1 rfl ?_
    refine q_aload_n hC 0 dL_printLoop_2 rfl rfl ?_
    refine q_iload_n hC 1 dL_printLoop_3 rfl rfl ?_
    refine q_xVI hC (stk := [.int 0, .ref x2]) (as := [.int x1]) sX10_printLoop (ci := 10) (by decide) rfl nX10_printLoop rfl w_1398 w_1399 w_1400 w_27 w_1401 (Nat.le_of_ble_eq_true rfl) dL_printLoop_4 rfl (fun v1 => ?_) ?_
    · refine q_i2l hC dL_printLoop_7 ?_
      refine q_last hC dL_printLoop_8 ?_
      refine q_goto hC 15 dL_printLoop_9 rfl ?_
      refine q_iconst hC dL_printLoop_15 rfl ?_
      exact q_iret hC dL_printLoop_16 (Nat.le_of_ble_eq_true rfl) (Nat.le_of_ble_eq_true rfl)
    · intro k
      match k with
      | 1 =>
        refine q_hand hC hTab hN [] [] (by decide) rfl (by intro z hz; cases hz) (by decide) (by decide) w_1291 xw_cast1 (astU_n hC dL_printLoop_12 rfl (by decide) ?_)
        refine q_iconst hC dL_printLoop_13 rfl ?_
        exact q_iret hC dL_printLoop_14 (Nat.le_of_ble_eq_true rfl) (Nat.le_of_ble_eq_true rfl)
      | 0 => exact q_noH
      | 2 => exact q_noH
      | 3 => exact q_noH
      | k + 4 => exact q_noH
  · exact c_no
theorem sL_printLoop : SndN yL_printLoop (.codeWith yL_printLoop cL_printLoop 4 (some .int) [(0, 9, 12, 13)]) rmL_printLoop SL_printLoop := by
  refine SndN.of lL_printLoop (by decide +kernel) (fun _ => rfl) ?_
  intro Γ hC hTab hN J hJ L a
  match L with
  | 0 => exact pL_printLoop_0 hC hTab hN J a
  | L + 1 => exact c_no
/-! SpiritWallLaw.printSight(LSpiritWall;I[J)I -/
theorem dL_printSight_0 : decode cL_printSight 0 = .ok (.aload_n 2, 1) := by decide +kernel
theorem dL_printSight_1 : decode cL_printSight 1 = .ok (.iconst 0, 1) := by decide +kernel
theorem dL_printSight_2 : decode cL_printSight 2 = .ok (.aload_n 0, 1) := by decide +kernel
theorem dL_printSight_3 : decode cL_printSight 3 = .ok (.iload_n 1, 1) := by decide +kernel
theorem dL_printSight_4 : decode cL_printSight 4 = .ok (.invokevirtual 104, 3) := by decide +kernel
theorem dL_printSight_7 : decode cL_printSight 7 = .ok (.i2l, 1) := by decide +kernel
theorem dL_printSight_8 : decode cL_printSight 8 = .ok (.lastore, 1) := by decide +kernel
theorem dL_printSight_9 : decode cL_printSight 9 = .ok (.goto 6, 3) := by decide +kernel
theorem dL_printSight_12 : decode cL_printSight 12 = .ok (.astore_n 3, 1) := by decide +kernel
theorem dL_printSight_13 : decode cL_printSight 13 = .ok (.iconst 1, 1) := by decide +kernel
theorem dL_printSight_14 : decode cL_printSight 14 = .ok (.ireturn, 1) := by decide +kernel
theorem dL_printSight_15 : decode cL_printSight 15 = .ok (.iconst 0, 1) := by decide +kernel
theorem dL_printSight_16 : decode cL_printSight 16 = .ok (.ireturn, 1) := by decide +kernel
def rmL_printSight : Room := rmk 23 1 6 664
theorem nL_printSight : nameOk yL_printSight 3 = true := by decide +kernel
def bL_printSight_0 (J : JT) : List Value → Sem
  | [.ref x0, .int x1, .ref x2] =>
    ob 10 x0 (cIx SX10_printSight [.ref x0, .int x1] (fun v1 =>
    sJ x2 0 (v1.toInt64) <|
    rI 0)
    fun k => match k with
    | 1 => rI 1
    | _ => no)
  | _ => no
def bL_printSight (J : JT) : JT := fun L a => match L with
  | 0 => bL_printSight_0 J a
  | _ => no
def SL_printSight : ST := mk 4 bL_printSight
def lL_printSight (L : Nat) (a : List Value) : Nat × Nat × Nat × List (Nat × Value) × List Value := match L with
  | 0 => (0, 0, 0, lv_args 0 a, [])
  | _ => (0, 0, 0, [], [])
theorem pL_printSight_0 {Γ : CT} (hC : Ctx Γ "SpiritWallLaw" cL_printSight 4 (some .int) rmL_printSight) (hTab : (kC Γ).exceptionTable.toList = tableOf [(0, 9, 12, 13)]) (hN : NcA (kS Γ)) (J : JT) (a : List Value) : Cor Γ 4 0 0 0 (lv_args 0 a) [] (bL_printSight_0 J a) := by
  unfold bL_printSight_0
  split
  · rename_i x0 x1 x2
    refine c_sub [0, 1, 2] rfl (loc' := [(0, .ref x0), (1, .int x1), (2, .ref x2)]) ?_
    refine q_aload_n hC 2 dL_printSight_0 rfl rfl ?_
    refine q_iconst hC dL_printSight_1 rfl ?_
    refine q_aload_n hC 0 dL_printSight_2 rfl rfl ?_
    refine q_iload_n hC 1 dL_printSight_3 rfl rfl ?_
    refine q_xVI hC (stk := [.int 0, .ref x2]) (as := [.int x1]) sX10_printSight (ci := 10) (by decide) rfl nX10_printSight rfl w_1402 w_1403 w_1404 w_27 w_1405 (Nat.le_of_ble_eq_true rfl) dL_printSight_4 rfl (fun v1 => ?_) ?_
    · refine q_i2l hC dL_printSight_7 ?_
      refine q_last hC dL_printSight_8 ?_
      refine q_goto hC 15 dL_printSight_9 rfl ?_
      refine q_iconst hC dL_printSight_15 rfl ?_
      exact q_iret hC dL_printSight_16 (Nat.le_of_ble_eq_true rfl) (Nat.le_of_ble_eq_true rfl)
    · intro k
      match k with
      | 1 =>
        refine q_hand hC hTab hN [] [] (by decide) rfl (by intro z hz; cases hz) (by decide) (by decide) w_1291 xw_cast1 (astU_n hC dL_printSight_12 rfl (by decide) ?_)
        refine q_iconst hC dL_printSight_13 rfl ?_
        exact q_iret hC dL_printSight_14 (Nat.le_of_ble_eq_true rfl) (Nat.le_of_ble_eq_true rfl)
      | 0 => exact q_noH
      | 2 => exact q_noH
      | 3 => exact q_noH
      | k + 4 => exact q_noH
  · exact c_no
theorem sL_printSight : SndN yL_printSight (.codeWith yL_printSight cL_printSight 4 (some .int) [(0, 9, 12, 13)]) rmL_printSight SL_printSight := by
  refine SndN.of lL_printSight (by decide +kernel) (fun _ => rfl) ?_
  intro Γ hC hTab hN J hJ L a
  match L with
  | 0 => exact pL_printSight_0 hC hTab hN J a
  | L + 1 => exact c_no
/-! SpiritWallLaw.restoreState(LSpiritWall;[J)I -/
theorem dL_restoreState_0 : decode cL_restoreState 0 = .ok (.aload_n 1, 1) := by decide +kernel
theorem dL_restoreState_1 : decode cL_restoreState 1 = .ok (.iconst 0, 1) := by decide +kernel
theorem dL_restoreState_2 : decode cL_restoreState 2 = .ok (.aload_n 0, 1) := by decide +kernel
theorem dL_restoreState_3 : decode cL_restoreState 3 = .ok (.invokevirtual 107, 3) := by decide +kernel
theorem dL_restoreState_6 : decode cL_restoreState 6 = .ok (.i2l, 1) := by decide +kernel
theorem dL_restoreState_7 : decode cL_restoreState 7 = .ok (.lastore, 1) := by decide +kernel
theorem dL_restoreState_8 : decode cL_restoreState 8 = .ok (.goto 6, 3) := by decide +kernel
theorem dL_restoreState_11 : decode cL_restoreState 11 = .ok (.astore_n 2, 1) := by decide +kernel
theorem dL_restoreState_12 : decode cL_restoreState 12 = .ok (.iconst 1, 1) := by decide +kernel
theorem dL_restoreState_13 : decode cL_restoreState 13 = .ok (.ireturn, 1) := by decide +kernel
theorem dL_restoreState_14 : decode cL_restoreState 14 = .ok (.iconst 0, 1) := by decide +kernel
theorem dL_restoreState_15 : decode cL_restoreState 15 = .ok (.ireturn, 1) := by decide +kernel
def rmL_restoreState : Room := rmk 9 1 6 213
theorem nL_restoreState : nameOk yL_restoreState 2 = true := by decide +kernel
def bL_restoreState_0 (J : JT) : List Value → Sem
  | [.ref x0, .ref x1] =>
    ob 10 x0 (cIx SX10_restoreState [.ref x0] (fun v1 =>
    sJ x1 0 (v1.toInt64) <|
    rI 0)
    fun k => match k with
    | 3 => rI 1
    | _ => no)
  | _ => no
def bL_restoreState (J : JT) : JT := fun L a => match L with
  | 0 => bL_restoreState_0 J a
  | _ => no
def SL_restoreState : ST := mk 3 bL_restoreState
def lL_restoreState (L : Nat) (a : List Value) : Nat × Nat × Nat × List (Nat × Value) × List Value := match L with
  | 0 => (0, 0, 0, lv_args 0 a, [])
  | _ => (0, 0, 0, [], [])
theorem pL_restoreState_0 {Γ : CT} (hC : Ctx Γ "SpiritWallLaw" cL_restoreState 3 (some .int) rmL_restoreState) (hTab : (kC Γ).exceptionTable.toList = tableOf [(0, 8, 11, 72)]) (hN : NcA (kS Γ)) (J : JT) (a : List Value) : Cor Γ 3 0 0 0 (lv_args 0 a) [] (bL_restoreState_0 J a) := by
  unfold bL_restoreState_0
  split
  · rename_i x0 x1
    refine c_sub [0, 1] rfl (loc' := [(0, .ref x0), (1, .ref x1)]) ?_
    refine q_aload_n hC 1 dL_restoreState_0 rfl rfl ?_
    refine q_iconst hC dL_restoreState_1 rfl ?_
    refine q_aload_n hC 0 dL_restoreState_2 rfl rfl ?_
    refine q_xVI hC (stk := [.int 0, .ref x1]) (as := []) sX10_restoreState (ci := 10) (by decide) rfl nX10_restoreState rfl w_1406 w_1407 w_1408 w_27 w_1409 (Nat.le_of_ble_eq_true rfl) dL_restoreState_3 rfl (fun v1 => ?_) ?_
    · refine q_i2l hC dL_restoreState_6 ?_
      refine q_last hC dL_restoreState_7 ?_
      refine q_goto hC 14 dL_restoreState_8 rfl ?_
      refine q_iconst hC dL_restoreState_14 rfl ?_
      exact q_iret hC dL_restoreState_15 (Nat.le_of_ble_eq_true rfl) (Nat.le_of_ble_eq_true rfl)
    · intro k
      match k with
      | 3 =>
        refine q_hand hC hTab hN [] [] (by decide) rfl (by intro z hz; cases hz) (by decide) (by decide) w_1361 xw_cast3 (astU_n hC dL_restoreState_11 rfl (by decide) ?_)
        refine q_iconst hC dL_restoreState_12 rfl ?_
        exact q_iret hC dL_restoreState_13 (Nat.le_of_ble_eq_true rfl) (Nat.le_of_ble_eq_true rfl)
      | 0 => exact q_noH
      | 1 => exact q_noH
      | 2 => exact q_noH
      | k + 4 => exact q_noH
  · exact c_no
theorem sL_restoreState : SndN yL_restoreState (.codeWith yL_restoreState cL_restoreState 3 (some .int) [(0, 8, 11, 72)]) rmL_restoreState SL_restoreState := by
  refine SndN.of lL_restoreState (by decide +kernel) (fun _ => rfl) ?_
  intro Γ hC hTab hN J hJ L a
  match L with
  | 0 => exact pL_restoreState_0 hC hTab hN J a
  | L + 1 => exact c_no
