/-! THE LAW: its instructions -/
theorem d_law_1141 : decode code 1141 = .ok (.iadd, 1) := by decide +kernel
theorem d_law_1142 : decode code 1142 = .ok (.iaload, 1) := by decide +kernel
theorem d_law_1143 : decode code 1143 = .ok (.invokevirtual 146, 3) := by decide +kernel
theorem d_law_1146 : decode code 1146 = .ok (.if_icmp .eq 454, 3) := by decide +kernel
theorem d_law_1149 : decode code 1149 = .ok (.iconst 0, 1) := by decide +kernel
theorem d_law_1150 : decode code 1150 = .ok (.ireturn, 1) := by decide +kernel
theorem d_law_1151 : decode code 1151 = .ok (.aload_n 1, 1) := by decide +kernel
theorem d_law_1152 : decode code 1152 = .ok (.aload_n 0, 1) := by decide +kernel
theorem d_law_1153 : decode code 1153 = .ok (.iload 4, 2) := by decide +kernel
theorem d_law_1155 : decode code 1155 = .ok (.iconst 1, 1) := by decide +kernel
theorem d_law_1156 : decode code 1156 = .ok (.iadd, 1) := by decide +kernel
theorem d_law_1157 : decode code 1157 = .ok (.iaload, 1) := by decide +kernel
theorem d_law_1158 : decode code 1158 = .ok (.aload_n 0, 1) := by decide +kernel
theorem d_law_1159 : decode code 1159 = .ok (.iload 4, 2) := by decide +kernel
theorem d_law_1161 : decode code 1161 = .ok (.iconst 2, 1) := by decide +kernel
theorem d_law_1162 : decode code 1162 = .ok (.iadd, 1) := by decide +kernel
theorem d_law_1163 : decode code 1163 = .ok (.iaload, 1) := by decide +kernel
theorem d_law_1164 : decode code 1164 = .ok (.aload_n 0, 1) := by decide +kernel
theorem d_law_1165 : decode code 1165 = .ok (.iload 4, 2) := by decide +kernel
theorem d_law_1167 : decode code 1167 = .ok (.iconst 3, 1) := by decide +kernel
theorem d_law_1168 : decode code 1168 = .ok (.iadd, 1) := by decide +kernel
theorem d_law_1169 : decode code 1169 = .ok (.iaload, 1) := by decide +kernel
theorem d_law_1170 : decode code 1170 = .ok (.invokevirtual 147, 3) := by decide +kernel
theorem d_law_1173 : decode code 1173 = .ok (.aload_n 2, 1) := by decide +kernel
theorem d_law_1174 : decode code 1174 = .ok (.aload_n 0, 1) := by decide +kernel
theorem d_law_1175 : decode code 1175 = .ok (.iload 4, 2) := by decide +kernel
theorem d_law_1177 : decode code 1177 = .ok (.iconst 1, 1) := by decide +kernel
theorem d_law_1178 : decode code 1178 = .ok (.iadd, 1) := by decide +kernel
theorem d_law_1179 : decode code 1179 = .ok (.iaload, 1) := by decide +kernel
theorem d_law_1180 : decode code 1180 = .ok (.aload_n 0, 1) := by decide +kernel
theorem d_law_1181 : decode code 1181 = .ok (.iload 4, 2) := by decide +kernel
theorem d_law_1183 : decode code 1183 = .ok (.iconst 2, 1) := by decide +kernel
theorem d_law_1184 : decode code 1184 = .ok (.iadd, 1) := by decide +kernel
theorem d_law_1185 : decode code 1185 = .ok (.iaload, 1) := by decide +kernel
theorem d_law_1186 : decode code 1186 = .ok (.aload_n 0, 1) := by decide +kernel
theorem d_law_1187 : decode code 1187 = .ok (.iload 4, 2) := by decide +kernel
theorem d_law_1189 : decode code 1189 = .ok (.iconst 3, 1) := by decide +kernel
theorem d_law_1190 : decode code 1190 = .ok (.iadd, 1) := by decide +kernel
theorem d_law_1191 : decode code 1191 = .ok (.iaload, 1) := by decide +kernel
theorem d_law_1192 : decode code 1192 = .ok (.invokevirtual 150, 3) := by decide +kernel
theorem d_law_1195 : decode code 1195 = .ok (.if_icmp .eq 405, 3) := by decide +kernel
theorem d_law_1198 : decode code 1198 = .ok (.iconst 0, 1) := by decide +kernel
theorem d_law_1199 : decode code 1199 = .ok (.ireturn, 1) := by decide +kernel
theorem d_law_1200 : decode code 1200 = .ok (.aload_n 1, 1) := by decide +kernel
theorem d_law_1201 : decode code 1201 = .ok (.invokevirtual 151, 3) := by decide +kernel
theorem d_law_1204 : decode code 1204 = .ok (.aload_n 2, 1) := by decide +kernel
theorem d_law_1205 : decode code 1205 = .ok (.invokevirtual 154, 3) := by decide +kernel
theorem d_law_1208 : decode code 1208 = .ok (.if_icmp .eq 392, 3) := by decide +kernel
theorem d_law_1211 : decode code 1211 = .ok (.iconst 0, 1) := by decide +kernel
theorem d_law_1212 : decode code 1212 = .ok (.ireturn, 1) := by decide +kernel
theorem d_law_1213 : decode code 1213 = .ok (.aload_n 1, 1) := by decide +kernel
theorem d_law_1214 : decode code 1214 = .ok (.invokevirtual 155, 3) := by decide +kernel
theorem d_law_1217 : decode code 1217 = .ok (.aload_n 2, 1) := by decide +kernel
theorem d_law_1218 : decode code 1218 = .ok (.invokevirtual 158, 3) := by decide +kernel
theorem d_law_1221 : decode code 1221 = .ok (.if_icmp .eq 379, 3) := by decide +kernel
theorem d_law_1224 : decode code 1224 = .ok (.iconst 0, 1) := by decide +kernel
theorem d_law_1225 : decode code 1225 = .ok (.ireturn, 1) := by decide +kernel
theorem d_law_1226 : decode code 1226 = .ok (.aload_n 1, 1) := by decide +kernel
theorem d_law_1227 : decode code 1227 = .ok (.aload_n 0, 1) := by decide +kernel
theorem d_law_1228 : decode code 1228 = .ok (.iload 4, 2) := by decide +kernel
theorem d_law_1230 : decode code 1230 = .ok (.iconst 1, 1) := by decide +kernel
theorem d_law_1231 : decode code 1231 = .ok (.iadd, 1) := by decide +kernel
theorem d_law_1232 : decode code 1232 = .ok (.iaload, 1) := by decide +kernel
theorem d_law_1233 : decode code 1233 = .ok (.invokevirtual 159, 3) := by decide +kernel
theorem d_law_1236 : decode code 1236 = .ok (.aload_n 2, 1) := by decide +kernel
theorem d_law_1237 : decode code 1237 = .ok (.aload_n 0, 1) := by decide +kernel
theorem d_law_1238 : decode code 1238 = .ok (.iload 4, 2) := by decide +kernel
theorem d_law_1240 : decode code 1240 = .ok (.iconst 1, 1) := by decide +kernel
theorem d_law_1241 : decode code 1241 = .ok (.iadd, 1) := by decide +kernel
theorem d_law_1242 : decode code 1242 = .ok (.iaload, 1) := by decide +kernel
theorem d_law_1243 : decode code 1243 = .ok (.invokevirtual 162, 3) := by decide +kernel
theorem d_law_1246 : decode code 1246 = .ok (.if_icmp .eq 354, 3) := by decide +kernel
theorem d_law_1249 : decode code 1249 = .ok (.iconst 0, 1) := by decide +kernel
theorem d_law_1250 : decode code 1250 = .ok (.ireturn, 1) := by decide +kernel
theorem d_law_1251 : decode code 1251 = .ok (.aload_n 1, 1) := by decide +kernel
theorem d_law_1252 : decode code 1252 = .ok (.aload_n 0, 1) := by decide +kernel
theorem d_law_1253 : decode code 1253 = .ok (.iload 4, 2) := by decide +kernel
theorem d_law_1255 : decode code 1255 = .ok (.iconst 1, 1) := by decide +kernel
theorem d_law_1256 : decode code 1256 = .ok (.iadd, 1) := by decide +kernel
theorem d_law_1257 : decode code 1257 = .ok (.iaload, 1) := by decide +kernel
theorem d_law_1258 : decode code 1258 = .ok (.aload_n 0, 1) := by decide +kernel
theorem d_law_1259 : decode code 1259 = .ok (.iload 4, 2) := by decide +kernel
theorem d_law_1261 : decode code 1261 = .ok (.iconst 2, 1) := by decide +kernel
theorem d_law_1262 : decode code 1262 = .ok (.iadd, 1) := by decide +kernel
theorem d_law_1263 : decode code 1263 = .ok (.iaload, 1) := by decide +kernel
theorem d_law_1264 : decode code 1264 = .ok (.aload_n 0, 1) := by decide +kernel
theorem d_law_1265 : decode code 1265 = .ok (.iload 4, 2) := by decide +kernel
theorem d_law_1267 : decode code 1267 = .ok (.iconst 3, 1) := by decide +kernel
theorem d_law_1268 : decode code 1268 = .ok (.iadd, 1) := by decide +kernel
theorem d_law_1269 : decode code 1269 = .ok (.iaload, 1) := by decide +kernel
theorem d_law_1270 : decode code 1270 = .ok (.aload_n 0, 1) := by decide +kernel
theorem d_law_1271 : decode code 1271 = .ok (.iload 4, 2) := by decide +kernel
theorem d_law_1273 : decode code 1273 = .ok (.iconst 4, 1) := by decide +kernel
theorem d_law_1274 : decode code 1274 = .ok (.iadd, 1) := by decide +kernel
theorem d_law_1275 : decode code 1275 = .ok (.iaload, 1) := by decide +kernel
theorem d_law_1276 : decode code 1276 = .ok (.invokevirtual 163, 3) := by decide +kernel
theorem d_law_1279 : decode code 1279 = .ok (.aload_n 2, 1) := by decide +kernel
theorem d_law_1280 : decode code 1280 = .ok (.aload_n 0, 1) := by decide +kernel
theorem d_law_1281 : decode code 1281 = .ok (.iload 4, 2) := by decide +kernel
theorem d_law_1283 : decode code 1283 = .ok (.iconst 1, 1) := by decide +kernel
theorem d_law_1284 : decode code 1284 = .ok (.iadd, 1) := by decide +kernel
theorem d_law_1285 : decode code 1285 = .ok (.iaload, 1) := by decide +kernel
theorem d_law_1286 : decode code 1286 = .ok (.aload_n 0, 1) := by decide +kernel
theorem d_law_1287 : decode code 1287 = .ok (.iload 4, 2) := by decide +kernel
theorem d_law_1289 : decode code 1289 = .ok (.iconst 2, 1) := by decide +kernel
theorem d_law_1290 : decode code 1290 = .ok (.iadd, 1) := by decide +kernel
theorem d_law_1291 : decode code 1291 = .ok (.iaload, 1) := by decide +kernel
theorem d_law_1292 : decode code 1292 = .ok (.aload_n 0, 1) := by decide +kernel
theorem d_law_1293 : decode code 1293 = .ok (.iload 4, 2) := by decide +kernel
theorem d_law_1295 : decode code 1295 = .ok (.iconst 3, 1) := by decide +kernel
theorem d_law_1296 : decode code 1296 = .ok (.iadd, 1) := by decide +kernel
theorem d_law_1297 : decode code 1297 = .ok (.iaload, 1) := by decide +kernel
theorem d_law_1298 : decode code 1298 = .ok (.aload_n 0, 1) := by decide +kernel
theorem d_law_1299 : decode code 1299 = .ok (.iload 4, 2) := by decide +kernel
theorem d_law_1301 : decode code 1301 = .ok (.iconst 4, 1) := by decide +kernel
theorem d_law_1302 : decode code 1302 = .ok (.iadd, 1) := by decide +kernel
theorem d_law_1303 : decode code 1303 = .ok (.iaload, 1) := by decide +kernel
theorem d_law_1304 : decode code 1304 = .ok (.invokevirtual 166, 3) := by decide +kernel
theorem d_law_1307 : decode code 1307 = .ok (.if_icmp .eq 293, 3) := by decide +kernel
theorem d_law_1310 : decode code 1310 = .ok (.iconst 0, 1) := by decide +kernel
theorem d_law_1311 : decode code 1311 = .ok (.ireturn, 1) := by decide +kernel
theorem d_law_1312 : decode code 1312 = .ok (.aload_n 1, 1) := by decide +kernel
theorem d_law_1313 : decode code 1313 = .ok (.aload_n 0, 1) := by decide +kernel
theorem d_law_1314 : decode code 1314 = .ok (.iload 4, 2) := by decide +kernel
theorem d_law_1316 : decode code 1316 = .ok (.iconst 1, 1) := by decide +kernel
theorem d_law_1317 : decode code 1317 = .ok (.iadd, 1) := by decide +kernel
theorem d_law_1318 : decode code 1318 = .ok (.iaload, 1) := by decide +kernel
theorem d_law_1319 : decode code 1319 = .ok (.aload_n 0, 1) := by decide +kernel
theorem d_law_1320 : decode code 1320 = .ok (.iload 4, 2) := by decide +kernel
theorem d_law_1322 : decode code 1322 = .ok (.iconst 2, 1) := by decide +kernel
theorem d_law_1323 : decode code 1323 = .ok (.iadd, 1) := by decide +kernel
theorem d_law_1324 : decode code 1324 = .ok (.iaload, 1) := by decide +kernel
theorem d_law_1325 : decode code 1325 = .ok (.aload_n 0, 1) := by decide +kernel
theorem d_law_1326 : decode code 1326 = .ok (.iload 4, 2) := by decide +kernel
theorem d_law_1328 : decode code 1328 = .ok (.iconst 3, 1) := by decide +kernel
theorem d_law_1329 : decode code 1329 = .ok (.iadd, 1) := by decide +kernel
theorem d_law_1330 : decode code 1330 = .ok (.iaload, 1) := by decide +kernel
theorem d_law_1331 : decode code 1331 = .ok (.invokevirtual 167, 3) := by decide +kernel
theorem d_law_1334 : decode code 1334 = .ok (.aload_n 2, 1) := by decide +kernel
theorem d_law_1335 : decode code 1335 = .ok (.aload_n 0, 1) := by decide +kernel
theorem d_law_1336 : decode code 1336 = .ok (.iload 4, 2) := by decide +kernel
theorem d_law_1338 : decode code 1338 = .ok (.iconst 1, 1) := by decide +kernel
theorem d_law_1339 : decode code 1339 = .ok (.iadd, 1) := by decide +kernel
theorem d_law_1340 : decode code 1340 = .ok (.iaload, 1) := by decide +kernel
theorem d_law_1341 : decode code 1341 = .ok (.aload_n 0, 1) := by decide +kernel
theorem d_law_1342 : decode code 1342 = .ok (.iload 4, 2) := by decide +kernel
theorem d_law_1344 : decode code 1344 = .ok (.iconst 2, 1) := by decide +kernel
theorem d_law_1345 : decode code 1345 = .ok (.iadd, 1) := by decide +kernel
theorem d_law_1346 : decode code 1346 = .ok (.iaload, 1) := by decide +kernel
theorem d_law_1347 : decode code 1347 = .ok (.aload_n 0, 1) := by decide +kernel
theorem d_law_1348 : decode code 1348 = .ok (.iload 4, 2) := by decide +kernel
theorem d_law_1350 : decode code 1350 = .ok (.iconst 3, 1) := by decide +kernel
theorem d_law_1351 : decode code 1351 = .ok (.iadd, 1) := by decide +kernel
theorem d_law_1352 : decode code 1352 = .ok (.iaload, 1) := by decide +kernel
theorem d_law_1353 : decode code 1353 = .ok (.invokevirtual 170, 3) := by decide +kernel
theorem d_law_1356 : decode code 1356 = .ok (.if_icmp .eq 244, 3) := by decide +kernel
theorem d_law_1359 : decode code 1359 = .ok (.iconst 0, 1) := by decide +kernel
theorem d_law_1360 : decode code 1360 = .ok (.ireturn, 1) := by decide +kernel
theorem d_law_1361 : decode code 1361 = .ok (.aload_n 1, 1) := by decide +kernel
theorem d_law_1362 : decode code 1362 = .ok (.aload_n 0, 1) := by decide +kernel
theorem d_law_1363 : decode code 1363 = .ok (.iload 4, 2) := by decide +kernel
theorem d_law_1365 : decode code 1365 = .ok (.iconst 1, 1) := by decide +kernel
theorem d_law_1366 : decode code 1366 = .ok (.iadd, 1) := by decide +kernel
theorem d_law_1367 : decode code 1367 = .ok (.iaload, 1) := by decide +kernel
theorem d_law_1368 : decode code 1368 = .ok (.aload_n 0, 1) := by decide +kernel
theorem d_law_1369 : decode code 1369 = .ok (.iload 4, 2) := by decide +kernel
theorem d_law_1371 : decode code 1371 = .ok (.iconst 2, 1) := by decide +kernel
theorem d_law_1372 : decode code 1372 = .ok (.iadd, 1) := by decide +kernel
theorem d_law_1373 : decode code 1373 = .ok (.iaload, 1) := by decide +kernel
theorem d_law_1374 : decode code 1374 = .ok (.aload_n 0, 1) := by decide +kernel
