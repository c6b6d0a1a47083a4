theorem d_W_law_1160 : decode (ab_bc mt_W_law) 1160 = .ok (.ifCond .eq 5, 3) := by decide +kernel
theorem d_W_law_1163 : decode (ab_bc mt_W_law) 1163 = .ok (.iconst 0, 1) := by decide +kernel
theorem d_W_law_1164 : decode (ab_bc mt_W_law) 1164 = .ok (.ireturn, 1) := by decide +kernel
theorem d_W_law_1165 : decode (ab_bc mt_W_law) 1165 = .ok (.goto 493, 3) := by decide +kernel
theorem d_W_law_1168 : decode (ab_bc mt_W_law) 1168 = .ok (.aload_n 1, 1) := by decide +kernel
theorem d_W_law_1169 : decode (ab_bc mt_W_law) 1169 = .ok (.aload_n 0, 1) := by decide +kernel
theorem d_W_law_1170 : decode (ab_bc mt_W_law) 1170 = .ok (.iload 4, 2) := by decide +kernel
theorem d_W_law_1172 : decode (ab_bc mt_W_law) 1172 = .ok (.iconst 1, 1) := by decide +kernel
theorem d_W_law_1173 : decode (ab_bc mt_W_law) 1173 = .ok (.iadd, 1) := by decide +kernel
theorem d_W_law_1174 : decode (ab_bc mt_W_law) 1174 = .ok (.iaload, 1) := by decide +kernel
theorem d_W_law_1175 : decode (ab_bc mt_W_law) 1175 = .ok (.aload_n 0, 1) := by decide +kernel
theorem d_W_law_1176 : decode (ab_bc mt_W_law) 1176 = .ok (.iload 4, 2) := by decide +kernel
theorem d_W_law_1178 : decode (ab_bc mt_W_law) 1178 = .ok (.iconst 2, 1) := by decide +kernel
theorem d_W_law_1179 : decode (ab_bc mt_W_law) 1179 = .ok (.iadd, 1) := by decide +kernel
theorem d_W_law_1180 : decode (ab_bc mt_W_law) 1180 = .ok (.iaload, 1) := by decide +kernel
theorem d_W_law_1181 : decode (ab_bc mt_W_law) 1181 = .ok (.invokevirtual 138, 3) := by decide +kernel
theorem d_W_law_1184 : decode (ab_bc mt_W_law) 1184 = .ok (.aload_n 2, 1) := by decide +kernel
theorem d_W_law_1185 : decode (ab_bc mt_W_law) 1185 = .ok (.aload_n 0, 1) := by decide +kernel
theorem d_W_law_1186 : decode (ab_bc mt_W_law) 1186 = .ok (.iload 4, 2) := by decide +kernel
theorem d_W_law_1188 : decode (ab_bc mt_W_law) 1188 = .ok (.iconst 1, 1) := by decide +kernel
theorem d_W_law_1189 : decode (ab_bc mt_W_law) 1189 = .ok (.iadd, 1) := by decide +kernel
theorem d_W_law_1190 : decode (ab_bc mt_W_law) 1190 = .ok (.iaload, 1) := by decide +kernel
theorem d_W_law_1191 : decode (ab_bc mt_W_law) 1191 = .ok (.aload_n 0, 1) := by decide +kernel
theorem d_W_law_1192 : decode (ab_bc mt_W_law) 1192 = .ok (.iload 4, 2) := by decide +kernel
theorem d_W_law_1194 : decode (ab_bc mt_W_law) 1194 = .ok (.iconst 2, 1) := by decide +kernel
theorem d_W_law_1195 : decode (ab_bc mt_W_law) 1195 = .ok (.iadd, 1) := by decide +kernel
theorem d_W_law_1196 : decode (ab_bc mt_W_law) 1196 = .ok (.iaload, 1) := by decide +kernel
theorem d_W_law_1197 : decode (ab_bc mt_W_law) 1197 = .ok (.invokevirtual 141, 3) := by decide +kernel
theorem d_W_law_1200 : decode (ab_bc mt_W_law) 1200 = .ok (.if_icmp .eq 458, 3) := by decide +kernel
theorem d_W_law_1203 : decode (ab_bc mt_W_law) 1203 = .ok (.iconst 0, 1) := by decide +kernel
theorem d_W_law_1204 : decode (ab_bc mt_W_law) 1204 = .ok (.ireturn, 1) := by decide +kernel
theorem d_W_law_1205 : decode (ab_bc mt_W_law) 1205 = .ok (.aload_n 1, 1) := by decide +kernel
theorem d_W_law_1206 : decode (ab_bc mt_W_law) 1206 = .ok (.aload_n 0, 1) := by decide +kernel
theorem d_W_law_1207 : decode (ab_bc mt_W_law) 1207 = .ok (.iload 4, 2) := by decide +kernel
theorem d_W_law_1209 : decode (ab_bc mt_W_law) 1209 = .ok (.iconst 1, 1) := by decide +kernel
theorem d_W_law_1210 : decode (ab_bc mt_W_law) 1210 = .ok (.iadd, 1) := by decide +kernel
theorem d_W_law_1211 : decode (ab_bc mt_W_law) 1211 = .ok (.iaload, 1) := by decide +kernel
theorem d_W_law_1212 : decode (ab_bc mt_W_law) 1212 = .ok (.aload_n 0, 1) := by decide +kernel
theorem d_W_law_1213 : decode (ab_bc mt_W_law) 1213 = .ok (.iload 4, 2) := by decide +kernel
theorem d_W_law_1215 : decode (ab_bc mt_W_law) 1215 = .ok (.iconst 2, 1) := by decide +kernel
theorem d_W_law_1216 : decode (ab_bc mt_W_law) 1216 = .ok (.iadd, 1) := by decide +kernel
theorem d_W_law_1217 : decode (ab_bc mt_W_law) 1217 = .ok (.iaload, 1) := by decide +kernel
theorem d_W_law_1218 : decode (ab_bc mt_W_law) 1218 = .ok (.invokevirtual 142, 3) := by decide +kernel
theorem d_W_law_1221 : decode (ab_bc mt_W_law) 1221 = .ok (.aload_n 2, 1) := by decide +kernel
theorem d_W_law_1222 : decode (ab_bc mt_W_law) 1222 = .ok (.aload_n 0, 1) := by decide +kernel
theorem d_W_law_1223 : decode (ab_bc mt_W_law) 1223 = .ok (.iload 4, 2) := by decide +kernel
theorem d_W_law_1225 : decode (ab_bc mt_W_law) 1225 = .ok (.iconst 1, 1) := by decide +kernel
theorem d_W_law_1226 : decode (ab_bc mt_W_law) 1226 = .ok (.iadd, 1) := by decide +kernel
theorem d_W_law_1227 : decode (ab_bc mt_W_law) 1227 = .ok (.iaload, 1) := by decide +kernel
theorem d_W_law_1228 : decode (ab_bc mt_W_law) 1228 = .ok (.aload_n 0, 1) := by decide +kernel
theorem d_W_law_1229 : decode (ab_bc mt_W_law) 1229 = .ok (.iload 4, 2) := by decide +kernel
theorem d_W_law_1231 : decode (ab_bc mt_W_law) 1231 = .ok (.iconst 2, 1) := by decide +kernel
theorem d_W_law_1232 : decode (ab_bc mt_W_law) 1232 = .ok (.iadd, 1) := by decide +kernel
theorem d_W_law_1233 : decode (ab_bc mt_W_law) 1233 = .ok (.iaload, 1) := by decide +kernel
theorem d_W_law_1234 : decode (ab_bc mt_W_law) 1234 = .ok (.invokevirtual 145, 3) := by decide +kernel
theorem d_W_law_1237 : decode (ab_bc mt_W_law) 1237 = .ok (.if_icmp .eq 421, 3) := by decide +kernel
theorem d_W_law_1240 : decode (ab_bc mt_W_law) 1240 = .ok (.iconst 0, 1) := by decide +kernel
theorem d_W_law_1241 : decode (ab_bc mt_W_law) 1241 = .ok (.ireturn, 1) := by decide +kernel
theorem d_W_law_1242 : decode (ab_bc mt_W_law) 1242 = .ok (.aload_n 1, 1) := by decide +kernel
theorem d_W_law_1243 : decode (ab_bc mt_W_law) 1243 = .ok (.aload_n 0, 1) := by decide +kernel
theorem d_W_law_1244 : decode (ab_bc mt_W_law) 1244 = .ok (.iload 4, 2) := by decide +kernel
theorem d_W_law_1246 : decode (ab_bc mt_W_law) 1246 = .ok (.iconst 1, 1) := by decide +kernel
theorem d_W_law_1247 : decode (ab_bc mt_W_law) 1247 = .ok (.iadd, 1) := by decide +kernel
theorem d_W_law_1248 : decode (ab_bc mt_W_law) 1248 = .ok (.iaload, 1) := by decide +kernel
theorem d_W_law_1249 : decode (ab_bc mt_W_law) 1249 = .ok (.invokevirtual 146, 3) := by decide +kernel
theorem d_W_law_1252 : decode (ab_bc mt_W_law) 1252 = .ok (.aload_n 2, 1) := by decide +kernel
theorem d_W_law_1253 : decode (ab_bc mt_W_law) 1253 = .ok (.aload_n 0, 1) := by decide +kernel
theorem d_W_law_1254 : decode (ab_bc mt_W_law) 1254 = .ok (.iload 4, 2) := by decide +kernel
theorem d_W_law_1256 : decode (ab_bc mt_W_law) 1256 = .ok (.iconst 1, 1) := by decide +kernel
theorem d_W_law_1257 : decode (ab_bc mt_W_law) 1257 = .ok (.iadd, 1) := by decide +kernel
theorem d_W_law_1258 : decode (ab_bc mt_W_law) 1258 = .ok (.iaload, 1) := by decide +kernel
theorem d_W_law_1259 : decode (ab_bc mt_W_law) 1259 = .ok (.invokevirtual 149, 3) := by decide +kernel
theorem d_W_law_1262 : decode (ab_bc mt_W_law) 1262 = .ok (.if_icmp .eq 396, 3) := by decide +kernel
theorem d_W_law_1265 : decode (ab_bc mt_W_law) 1265 = .ok (.iconst 0, 1) := by decide +kernel
theorem d_W_law_1266 : decode (ab_bc mt_W_law) 1266 = .ok (.ireturn, 1) := by decide +kernel
theorem d_W_law_1267 : decode (ab_bc mt_W_law) 1267 = .ok (.aload_n 1, 1) := by decide +kernel
theorem d_W_law_1268 : decode (ab_bc mt_W_law) 1268 = .ok (.aload_n 0, 1) := by decide +kernel
theorem d_W_law_1269 : decode (ab_bc mt_W_law) 1269 = .ok (.iload 4, 2) := by decide +kernel
theorem d_W_law_1271 : decode (ab_bc mt_W_law) 1271 = .ok (.iconst 1, 1) := by decide +kernel
theorem d_W_law_1272 : decode (ab_bc mt_W_law) 1272 = .ok (.iadd, 1) := by decide +kernel
theorem d_W_law_1273 : decode (ab_bc mt_W_law) 1273 = .ok (.iaload, 1) := by decide +kernel
theorem d_W_law_1274 : decode (ab_bc mt_W_law) 1274 = .ok (.invokevirtual 150, 3) := by decide +kernel
theorem d_W_law_1277 : decode (ab_bc mt_W_law) 1277 = .ok (.aload_n 2, 1) := by decide +kernel
theorem d_W_law_1278 : decode (ab_bc mt_W_law) 1278 = .ok (.aload_n 0, 1) := by decide +kernel
theorem d_W_law_1279 : decode (ab_bc mt_W_law) 1279 = .ok (.iload 4, 2) := by decide +kernel
theorem d_W_law_1281 : decode (ab_bc mt_W_law) 1281 = .ok (.iconst 1, 1) := by decide +kernel
theorem d_W_law_1282 : decode (ab_bc mt_W_law) 1282 = .ok (.iadd, 1) := by decide +kernel
theorem d_W_law_1283 : decode (ab_bc mt_W_law) 1283 = .ok (.iaload, 1) := by decide +kernel
theorem d_W_law_1284 : decode (ab_bc mt_W_law) 1284 = .ok (.invokevirtual 153, 3) := by decide +kernel
theorem d_W_law_1287 : decode (ab_bc mt_W_law) 1287 = .ok (.if_icmp .eq 371, 3) := by decide +kernel
theorem d_W_law_1290 : decode (ab_bc mt_W_law) 1290 = .ok (.iconst 0, 1) := by decide +kernel
theorem d_W_law_1291 : decode (ab_bc mt_W_law) 1291 = .ok (.ireturn, 1) := by decide +kernel
theorem d_W_law_1292 : decode (ab_bc mt_W_law) 1292 = .ok (.aload_n 1, 1) := by decide +kernel
theorem d_W_law_1293 : decode (ab_bc mt_W_law) 1293 = .ok (.aload_n 0, 1) := by decide +kernel
theorem d_W_law_1294 : decode (ab_bc mt_W_law) 1294 = .ok (.iload 4, 2) := by decide +kernel
theorem d_W_law_1296 : decode (ab_bc mt_W_law) 1296 = .ok (.iconst 1, 1) := by decide +kernel
theorem d_W_law_1297 : decode (ab_bc mt_W_law) 1297 = .ok (.iadd, 1) := by decide +kernel
theorem d_W_law_1298 : decode (ab_bc mt_W_law) 1298 = .ok (.iaload, 1) := by decide +kernel
theorem d_W_law_1299 : decode (ab_bc mt_W_law) 1299 = .ok (.aload_n 0, 1) := by decide +kernel
theorem d_W_law_1300 : decode (ab_bc mt_W_law) 1300 = .ok (.iload 4, 2) := by decide +kernel
theorem d_W_law_1302 : decode (ab_bc mt_W_law) 1302 = .ok (.iconst 2, 1) := by decide +kernel
theorem d_W_law_1303 : decode (ab_bc mt_W_law) 1303 = .ok (.iadd, 1) := by decide +kernel
theorem d_W_law_1304 : decode (ab_bc mt_W_law) 1304 = .ok (.iaload, 1) := by decide +kernel
theorem d_W_law_1305 : decode (ab_bc mt_W_law) 1305 = .ok (.aload_n 0, 1) := by decide +kernel
theorem d_W_law_1306 : decode (ab_bc mt_W_law) 1306 = .ok (.iload 4, 2) := by decide +kernel
theorem d_W_law_1308 : decode (ab_bc mt_W_law) 1308 = .ok (.iconst 3, 1) := by decide +kernel
theorem d_W_law_1309 : decode (ab_bc mt_W_law) 1309 = .ok (.iadd, 1) := by decide +kernel
theorem d_W_law_1310 : decode (ab_bc mt_W_law) 1310 = .ok (.iaload, 1) := by decide +kernel
theorem d_W_law_1311 : decode (ab_bc mt_W_law) 1311 = .ok (.aload_n 0, 1) := by decide +kernel
theorem d_W_law_1312 : decode (ab_bc mt_W_law) 1312 = .ok (.iload 4, 2) := by decide +kernel
theorem d_W_law_1314 : decode (ab_bc mt_W_law) 1314 = .ok (.iconst 4, 1) := by decide +kernel
theorem d_W_law_1315 : decode (ab_bc mt_W_law) 1315 = .ok (.iadd, 1) := by decide +kernel
theorem d_W_law_1316 : decode (ab_bc mt_W_law) 1316 = .ok (.iaload, 1) := by decide +kernel
theorem d_W_law_1317 : decode (ab_bc mt_W_law) 1317 = .ok (.invokevirtual 154, 3) := by decide +kernel
theorem d_W_law_1320 : decode (ab_bc mt_W_law) 1320 = .ok (.aload_n 2, 1) := by decide +kernel
theorem d_W_law_1321 : decode (ab_bc mt_W_law) 1321 = .ok (.aload_n 0, 1) := by decide +kernel
theorem d_W_law_1322 : decode (ab_bc mt_W_law) 1322 = .ok (.iload 4, 2) := by decide +kernel
theorem d_W_law_1324 : decode (ab_bc mt_W_law) 1324 = .ok (.iconst 1, 1) := by decide +kernel
theorem d_W_law_1325 : decode (ab_bc mt_W_law) 1325 = .ok (.iadd, 1) := by decide +kernel
theorem d_W_law_1326 : decode (ab_bc mt_W_law) 1326 = .ok (.iaload, 1) := by decide +kernel
theorem d_W_law_1327 : decode (ab_bc mt_W_law) 1327 = .ok (.aload_n 0, 1) := by decide +kernel
theorem d_W_law_1328 : decode (ab_bc mt_W_law) 1328 = .ok (.iload 4, 2) := by decide +kernel
theorem d_W_law_1330 : decode (ab_bc mt_W_law) 1330 = .ok (.iconst 2, 1) := by decide +kernel
theorem d_W_law_1331 : decode (ab_bc mt_W_law) 1331 = .ok (.iadd, 1) := by decide +kernel
theorem d_W_law_1332 : decode (ab_bc mt_W_law) 1332 = .ok (.iaload, 1) := by decide +kernel
theorem d_W_law_1333 : decode (ab_bc mt_W_law) 1333 = .ok (.aload_n 0, 1) := by decide +kernel
theorem d_W_law_1334 : decode (ab_bc mt_W_law) 1334 = .ok (.iload 4, 2) := by decide +kernel
theorem d_W_law_1336 : decode (ab_bc mt_W_law) 1336 = .ok (.iconst 3, 1) := by decide +kernel
theorem d_W_law_1337 : decode (ab_bc mt_W_law) 1337 = .ok (.iadd, 1) := by decide +kernel
theorem d_W_law_1338 : decode (ab_bc mt_W_law) 1338 = .ok (.iaload, 1) := by decide +kernel
theorem d_W_law_1339 : decode (ab_bc mt_W_law) 1339 = .ok (.aload_n 0, 1) := by decide +kernel
theorem d_W_law_1340 : decode (ab_bc mt_W_law) 1340 = .ok (.iload 4, 2) := by decide +kernel
theorem d_W_law_1342 : decode (ab_bc mt_W_law) 1342 = .ok (.iconst 4, 1) := by decide +kernel
theorem d_W_law_1343 : decode (ab_bc mt_W_law) 1343 = .ok (.iadd, 1) := by decide +kernel
theorem d_W_law_1344 : decode (ab_bc mt_W_law) 1344 = .ok (.iaload, 1) := by decide +kernel
theorem d_W_law_1345 : decode (ab_bc mt_W_law) 1345 = .ok (.invokevirtual 158, 3) := by decide +kernel
theorem d_W_law_1348 : decode (ab_bc mt_W_law) 1348 = .ok (.if_icmp .eq 310, 3) := by decide +kernel
theorem d_W_law_1351 : decode (ab_bc mt_W_law) 1351 = .ok (.iconst 0, 1) := by decide +kernel
theorem d_W_law_1352 : decode (ab_bc mt_W_law) 1352 = .ok (.ireturn, 1) := by decide +kernel
theorem d_W_law_1353 : decode (ab_bc mt_W_law) 1353 = .ok (.aload_n 1, 1) := by decide +kernel
theorem d_W_law_1354 : decode (ab_bc mt_W_law) 1354 = .ok (.invokevirtual 159, 3) := by decide +kernel
theorem d_W_law_1357 : decode (ab_bc mt_W_law) 1357 = .ok (.aload_n 2, 1) := by decide +kernel
theorem d_W_law_1358 : decode (ab_bc mt_W_law) 1358 = .ok (.invokevirtual 162, 3) := by decide +kernel
theorem d_W_law_1361 : decode (ab_bc mt_W_law) 1361 = .ok (.if_icmp .eq 297, 3) := by decide +kernel
theorem d_W_law_1364 : decode (ab_bc mt_W_law) 1364 = .ok (.iconst 0, 1) := by decide +kernel
theorem d_W_law_1365 : decode (ab_bc mt_W_law) 1365 = .ok (.ireturn, 1) := by decide +kernel
theorem d_W_law_1366 : decode (ab_bc mt_W_law) 1366 = .ok (.aload_n 1, 1) := by decide +kernel
theorem d_W_law_1367 : decode (ab_bc mt_W_law) 1367 = .ok (.aload_n 0, 1) := by decide +kernel
theorem d_W_law_1368 : decode (ab_bc mt_W_law) 1368 = .ok (.iload 4, 2) := by decide +kernel
theorem d_W_law_1370 : decode (ab_bc mt_W_law) 1370 = .ok (.iconst 1, 1) := by decide +kernel
theorem d_W_law_1371 : decode (ab_bc mt_W_law) 1371 = .ok (.iadd, 1) := by decide +kernel
theorem d_W_law_1372 : decode (ab_bc mt_W_law) 1372 = .ok (.iaload, 1) := by decide +kernel
theorem d_W_law_1373 : decode (ab_bc mt_W_law) 1373 = .ok (.aload_n 0, 1) := by decide +kernel
theorem d_W_law_1374 : decode (ab_bc mt_W_law) 1374 = .ok (.iload 4, 2) := by decide +kernel
theorem d_W_law_1376 : decode (ab_bc mt_W_law) 1376 = .ok (.iconst 2, 1) := by decide +kernel
theorem d_W_law_1377 : decode (ab_bc mt_W_law) 1377 = .ok (.iadd, 1) := by decide +kernel
theorem d_W_law_1378 : decode (ab_bc mt_W_law) 1378 = .ok (.iaload, 1) := by decide +kernel
theorem d_W_law_1379 : decode (ab_bc mt_W_law) 1379 = .ok (.ifCond .eq 7, 3) := by decide +kernel
theorem d_W_law_1382 : decode (ab_bc mt_W_law) 1382 = .ok (.iconst 1, 1) := by decide +kernel
theorem d_W_law_1383 : decode (ab_bc mt_W_law) 1383 = .ok (.goto 4, 3) := by decide +kernel
theorem d_W_law_1386 : decode (ab_bc mt_W_law) 1386 = .ok (.iconst 0, 1) := by decide +kernel
theorem d_W_law_1387 : decode (ab_bc mt_W_law) 1387 = .ok (.invokevirtual 163, 3) := by decide +kernel
theorem d_W_law_1390 : decode (ab_bc mt_W_law) 1390 = .ok (.aload_n 2, 1) := by decide +kernel
theorem d_W_law_1391 : decode (ab_bc mt_W_law) 1391 = .ok (.aload_n 0, 1) := by decide +kernel
theorem d_W_law_1392 : decode (ab_bc mt_W_law) 1392 = .ok (.iload 4, 2) := by decide +kernel
theorem d_W_law_1394 : decode (ab_bc mt_W_law) 1394 = .ok (.iconst 1, 1) := by decide +kernel
theorem d_W_law_1395 : decode (ab_bc mt_W_law) 1395 = .ok (.iadd, 1) := by decide +kernel
theorem d_W_law_1396 : decode (ab_bc mt_W_law) 1396 = .ok (.iaload, 1) := by decide +kernel
theorem d_W_law_1397 : decode (ab_bc mt_W_law) 1397 = .ok (.aload_n 0, 1) := by decide +kernel
theorem d_W_law_1398 : decode (ab_bc mt_W_law) 1398 = .ok (.iload 4, 2) := by decide +kernel
theorem d_W_law_1400 : decode (ab_bc mt_W_law) 1400 = .ok (.iconst 2, 1) := by decide +kernel
theorem d_W_law_1401 : decode (ab_bc mt_W_law) 1401 = .ok (.iadd, 1) := by decide +kernel
theorem d_W_law_1402 : decode (ab_bc mt_W_law) 1402 = .ok (.iaload, 1) := by decide +kernel
theorem d_W_law_1403 : decode (ab_bc mt_W_law) 1403 = .ok (.ifCond .eq 7, 3) := by decide +kernel
theorem d_W_law_1406 : decode (ab_bc mt_W_law) 1406 = .ok (.iconst 1, 1) := by decide +kernel
theorem d_W_law_1407 : decode (ab_bc mt_W_law) 1407 = .ok (.goto 4, 3) := by decide +kernel
theorem d_W_law_1410 : decode (ab_bc mt_W_law) 1410 = .ok (.iconst 0, 1) := by decide +kernel
theorem d_W_law_1411 : decode (ab_bc mt_W_law) 1411 = .ok (.invokevirtual 167, 3) := by decide +kernel
theorem d_W_law_1414 : decode (ab_bc mt_W_law) 1414 = .ok (.if_icmp .eq 244, 3) := by decide +kernel
theorem d_W_law_1417 : decode (ab_bc mt_W_law) 1417 = .ok (.iconst 0, 1) := by decide +kernel
theorem d_W_law_1418 : decode (ab_bc mt_W_law) 1418 = .ok (.ireturn, 1) := by decide +kernel
theorem d_W_law_1419 : decode (ab_bc mt_W_law) 1419 = .ok (.aload_n 1, 1) := by decide +kernel
theorem d_W_law_1420 : decode (ab_bc mt_W_law) 1420 = .ok (.aload_n 0, 1) := by decide +kernel
theorem d_W_law_1421 : decode (ab_bc mt_W_law) 1421 = .ok (.iload 4, 2) := by decide +kernel
theorem d_W_law_1423 : decode (ab_bc mt_W_law) 1423 = .ok (.iconst 1, 1) := by decide +kernel
theorem d_W_law_1424 : decode (ab_bc mt_W_law) 1424 = .ok (.iadd, 1) := by decide +kernel
theorem d_W_law_1425 : decode (ab_bc mt_W_law) 1425 = .ok (.iaload, 1) := by decide +kernel
theorem d_W_law_1426 : decode (ab_bc mt_W_law) 1426 = .ok (.aload_n 0, 1) := by decide +kernel
theorem d_W_law_1427 : decode (ab_bc mt_W_law) 1427 = .ok (.iload 4, 2) := by decide +kernel
theorem d_W_law_1429 : decode (ab_bc mt_W_law) 1429 = .ok (.iconst 2, 1) := by decide +kernel
theorem d_W_law_1430 : decode (ab_bc mt_W_law) 1430 = .ok (.iadd, 1) := by decide +kernel
theorem d_W_law_1431 : decode (ab_bc mt_W_law) 1431 = .ok (.iaload, 1) := by decide +kernel
theorem d_W_law_1432 : decode (ab_bc mt_W_law) 1432 = .ok (.aload_n 3, 1) := by decide +kernel
theorem d_W_law_1433 : decode (ab_bc mt_W_law) 1433 = .ok (.invokestatic 168, 3) := by decide +kernel
theorem d_W_law_1436 : decode (ab_bc mt_W_law) 1436 = .ok (.istore 5, 2) := by decide +kernel
theorem d_W_law_1438 : decode (ab_bc mt_W_law) 1438 = .ok (.aload_n 2, 1) := by decide +kernel
theorem d_W_law_1439 : decode (ab_bc mt_W_law) 1439 = .ok (.aload_n 0, 1) := by decide +kernel
theorem d_W_law_1440 : decode (ab_bc mt_W_law) 1440 = .ok (.iload 4, 2) := by decide +kernel
theorem d_W_law_1442 : decode (ab_bc mt_W_law) 1442 = .ok (.iconst 1, 1) := by decide +kernel
theorem d_W_law_1443 : decode (ab_bc mt_W_law) 1443 = .ok (.iadd, 1) := by decide +kernel
theorem d_W_law_1444 : decode (ab_bc mt_W_law) 1444 = .ok (.iaload, 1) := by decide +kernel
theorem d_W_law_1445 : decode (ab_bc mt_W_law) 1445 = .ok (.aload_n 0, 1) := by decide +kernel
theorem d_W_law_1446 : decode (ab_bc mt_W_law) 1446 = .ok (.iload 4, 2) := by decide +kernel
theorem d_W_law_1448 : decode (ab_bc mt_W_law) 1448 = .ok (.iconst 2, 1) := by decide +kernel
theorem d_W_law_1449 : decode (ab_bc mt_W_law) 1449 = .ok (.iadd, 1) := by decide +kernel
theorem d_W_law_1450 : decode (ab_bc mt_W_law) 1450 = .ok (.iaload, 1) := by decide +kernel
theorem d_W_law_1451 : decode (ab_bc mt_W_law) 1451 = .ok (.invokevirtual 170, 3) := by decide +kernel
theorem d_W_law_1454 : decode (ab_bc mt_W_law) 1454 = .ok (.istore 6, 2) := by decide +kernel
theorem d_W_law_1456 : decode (ab_bc mt_W_law) 1456 = .ok (.aload_n 2, 1) := by decide +kernel
theorem d_W_law_1457 : decode (ab_bc mt_W_law) 1457 = .ok (.invokevirtual 84, 3) := by decide +kernel
theorem d_W_law_1460 : decode (ab_bc mt_W_law) 1460 = .ok (.iload 5, 2) := by decide +kernel
theorem d_W_law_1462 : decode (ab_bc mt_W_law) 1462 = .ok (.if_icmp .eq 5, 3) := by decide +kernel
theorem d_W_law_1465 : decode (ab_bc mt_W_law) 1465 = .ok (.iconst 0, 1) := by decide +kernel
theorem d_W_law_1466 : decode (ab_bc mt_W_law) 1466 = .ok (.ireturn, 1) := by decide +kernel
theorem d_W_law_1467 : decode (ab_bc mt_W_law) 1467 = .ok (.iload 5, 2) := by decide +kernel
theorem d_W_law_1469 : decode (ab_bc mt_W_law) 1469 = .ok (.ifCond .ne 15, 3) := by decide +kernel
theorem d_W_law_1472 : decode (ab_bc mt_W_law) 1472 = .ok (.aload_n 3, 1) := by decide +kernel
theorem d_W_law_1473 : decode (ab_bc mt_W_law) 1473 = .ok (.iconst 0, 1) := by decide +kernel
theorem d_W_law_1474 : decode (ab_bc mt_W_law) 1474 = .ok (.laload, 1) := by decide +kernel
theorem d_W_law_1475 : decode (ab_bc mt_W_law) 1475 = .ok (.iload 6, 2) := by decide +kernel
