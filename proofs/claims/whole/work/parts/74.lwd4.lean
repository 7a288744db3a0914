/-! The law: decode rows. -/
theorem dL_law_1118 : decode code 1118 = .ok (.aload_n 0, 1) := by decide +kernel
theorem dL_law_1119 : decode code 1119 = .ok (.iload_n 3, 1) := by decide +kernel
theorem dL_law_1120 : decode code 1120 = .ok (.iconst 3, 1) := by decide +kernel
theorem dL_law_1121 : decode code 1121 = .ok (.iadd, 1) := by decide +kernel
theorem dL_law_1122 : decode code 1122 = .ok (.iaload, 1) := by decide +kernel
theorem dL_law_1123 : decode code 1123 = .ok (.invokevirtual 129, 3) := by decide +kernel
theorem dL_law_1126 : decode code 1126 = .ok (.if_icmp .eq 448, 3) := by decide +kernel
theorem dL_law_1129 : decode code 1129 = .ok (.iconst 0, 1) := by decide +kernel
theorem dL_law_1130 : decode code 1130 = .ok (.ireturn, 1) := by decide +kernel
theorem dL_law_1131 : decode code 1131 = .ok (.aload_n 1, 1) := by decide +kernel
theorem dL_law_1132 : decode code 1132 = .ok (.invokevirtual 130, 3) := by decide +kernel
theorem dL_law_1135 : decode code 1135 = .ok (.aload_n 2, 1) := by decide +kernel
theorem dL_law_1136 : decode code 1136 = .ok (.invokevirtual 133, 3) := by decide +kernel
theorem dL_law_1139 : decode code 1139 = .ok (.if_icmp .eq 435, 3) := by decide +kernel
theorem dL_law_1142 : decode code 1142 = .ok (.iconst 0, 1) := by decide +kernel
theorem dL_law_1143 : decode code 1143 = .ok (.ireturn, 1) := by decide +kernel
theorem dL_law_1144 : decode code 1144 = .ok (.aload_n 1, 1) := by decide +kernel
theorem dL_law_1145 : decode code 1145 = .ok (.invokevirtual 134, 3) := by decide +kernel
theorem dL_law_1148 : decode code 1148 = .ok (.aload_n 2, 1) := by decide +kernel
theorem dL_law_1149 : decode code 1149 = .ok (.invokevirtual 137, 3) := by decide +kernel
theorem dL_law_1152 : decode code 1152 = .ok (.if_icmp .eq 422, 3) := by decide +kernel
theorem dL_law_1155 : decode code 1155 = .ok (.iconst 0, 1) := by decide +kernel
theorem dL_law_1156 : decode code 1156 = .ok (.ireturn, 1) := by decide +kernel
theorem dL_law_1157 : decode code 1157 = .ok (.aload_n 1, 1) := by decide +kernel
theorem dL_law_1158 : decode code 1158 = .ok (.invokevirtual 138, 3) := by decide +kernel
theorem dL_law_1161 : decode code 1161 = .ok (.aload_n 2, 1) := by decide +kernel
theorem dL_law_1162 : decode code 1162 = .ok (.invokevirtual 141, 3) := by decide +kernel
theorem dL_law_1165 : decode code 1165 = .ok (.if_icmp .eq 409, 3) := by decide +kernel
theorem dL_law_1168 : decode code 1168 = .ok (.iconst 0, 1) := by decide +kernel
theorem dL_law_1169 : decode code 1169 = .ok (.ireturn, 1) := by decide +kernel
theorem dL_law_1170 : decode code 1170 = .ok (.aload_n 1, 1) := by decide +kernel
theorem dL_law_1171 : decode code 1171 = .ok (.invokevirtual 142, 3) := by decide +kernel
theorem dL_law_1174 : decode code 1174 = .ok (.aload_n 2, 1) := by decide +kernel
theorem dL_law_1175 : decode code 1175 = .ok (.invokevirtual 145, 3) := by decide +kernel
theorem dL_law_1178 : decode code 1178 = .ok (.if_icmp .eq 396, 3) := by decide +kernel
theorem dL_law_1181 : decode code 1181 = .ok (.iconst 0, 1) := by decide +kernel
theorem dL_law_1182 : decode code 1182 = .ok (.ireturn, 1) := by decide +kernel
theorem dL_law_1183 : decode code 1183 = .ok (.aload_n 1, 1) := by decide +kernel
theorem dL_law_1184 : decode code 1184 = .ok (.aload_n 0, 1) := by decide +kernel
theorem dL_law_1185 : decode code 1185 = .ok (.iload_n 3, 1) := by decide +kernel
theorem dL_law_1186 : decode code 1186 = .ok (.iconst 1, 1) := by decide +kernel
theorem dL_law_1187 : decode code 1187 = .ok (.iadd, 1) := by decide +kernel
theorem dL_law_1188 : decode code 1188 = .ok (.iaload, 1) := by decide +kernel
theorem dL_law_1189 : decode code 1189 = .ok (.invokevirtual 146, 3) := by decide +kernel
theorem dL_law_1192 : decode code 1192 = .ok (.aload_n 2, 1) := by decide +kernel
theorem dL_law_1193 : decode code 1193 = .ok (.aload_n 0, 1) := by decide +kernel
theorem dL_law_1194 : decode code 1194 = .ok (.iload_n 3, 1) := by decide +kernel
theorem dL_law_1195 : decode code 1195 = .ok (.iconst 1, 1) := by decide +kernel
theorem dL_law_1196 : decode code 1196 = .ok (.iadd, 1) := by decide +kernel
theorem dL_law_1197 : decode code 1197 = .ok (.iaload, 1) := by decide +kernel
theorem dL_law_1198 : decode code 1198 = .ok (.invokevirtual 149, 3) := by decide +kernel
theorem dL_law_1201 : decode code 1201 = .ok (.if_icmp .eq 373, 3) := by decide +kernel
theorem dL_law_1204 : decode code 1204 = .ok (.iconst 0, 1) := by decide +kernel
theorem dL_law_1205 : decode code 1205 = .ok (.ireturn, 1) := by decide +kernel
theorem dL_law_1206 : decode code 1206 = .ok (.aload_n 1, 1) := by decide +kernel
theorem dL_law_1207 : decode code 1207 = .ok (.aload_n 0, 1) := by decide +kernel
theorem dL_law_1208 : decode code 1208 = .ok (.iload_n 3, 1) := by decide +kernel
theorem dL_law_1209 : decode code 1209 = .ok (.iconst 1, 1) := by decide +kernel
theorem dL_law_1210 : decode code 1210 = .ok (.iadd, 1) := by decide +kernel
theorem dL_law_1211 : decode code 1211 = .ok (.iaload, 1) := by decide +kernel
theorem dL_law_1212 : decode code 1212 = .ok (.aload_n 0, 1) := by decide +kernel
theorem dL_law_1213 : decode code 1213 = .ok (.iload_n 3, 1) := by decide +kernel
theorem dL_law_1214 : decode code 1214 = .ok (.iconst 2, 1) := by decide +kernel
theorem dL_law_1215 : decode code 1215 = .ok (.iadd, 1) := by decide +kernel
theorem dL_law_1216 : decode code 1216 = .ok (.iaload, 1) := by decide +kernel
theorem dL_law_1217 : decode code 1217 = .ok (.aload_n 0, 1) := by decide +kernel
theorem dL_law_1218 : decode code 1218 = .ok (.iload_n 3, 1) := by decide +kernel
theorem dL_law_1219 : decode code 1219 = .ok (.iconst 3, 1) := by decide +kernel
theorem dL_law_1220 : decode code 1220 = .ok (.iadd, 1) := by decide +kernel
theorem dL_law_1221 : decode code 1221 = .ok (.iaload, 1) := by decide +kernel
theorem dL_law_1222 : decode code 1222 = .ok (.invokevirtual 150, 3) := by decide +kernel
theorem dL_law_1225 : decode code 1225 = .ok (.aload_n 2, 1) := by decide +kernel
theorem dL_law_1226 : decode code 1226 = .ok (.aload_n 0, 1) := by decide +kernel
theorem dL_law_1227 : decode code 1227 = .ok (.iload_n 3, 1) := by decide +kernel
theorem dL_law_1228 : decode code 1228 = .ok (.iconst 1, 1) := by decide +kernel
theorem dL_law_1229 : decode code 1229 = .ok (.iadd, 1) := by decide +kernel
theorem dL_law_1230 : decode code 1230 = .ok (.iaload, 1) := by decide +kernel
theorem dL_law_1231 : decode code 1231 = .ok (.aload_n 0, 1) := by decide +kernel
theorem dL_law_1232 : decode code 1232 = .ok (.iload_n 3, 1) := by decide +kernel
theorem dL_law_1233 : decode code 1233 = .ok (.iconst 2, 1) := by decide +kernel
theorem dL_law_1234 : decode code 1234 = .ok (.iadd, 1) := by decide +kernel
theorem dL_law_1235 : decode code 1235 = .ok (.iaload, 1) := by decide +kernel
theorem dL_law_1236 : decode code 1236 = .ok (.aload_n 0, 1) := by decide +kernel
theorem dL_law_1237 : decode code 1237 = .ok (.iload_n 3, 1) := by decide +kernel
theorem dL_law_1238 : decode code 1238 = .ok (.iconst 3, 1) := by decide +kernel
theorem dL_law_1239 : decode code 1239 = .ok (.iadd, 1) := by decide +kernel
theorem dL_law_1240 : decode code 1240 = .ok (.iaload, 1) := by decide +kernel
theorem dL_law_1241 : decode code 1241 = .ok (.invokevirtual 153, 3) := by decide +kernel
theorem dL_law_1244 : decode code 1244 = .ok (.if_icmp .eq 330, 3) := by decide +kernel
theorem dL_law_1247 : decode code 1247 = .ok (.iconst 0, 1) := by decide +kernel
theorem dL_law_1248 : decode code 1248 = .ok (.ireturn, 1) := by decide +kernel
theorem dL_law_1249 : decode code 1249 = .ok (.aload_n 1, 1) := by decide +kernel
theorem dL_law_1250 : decode code 1250 = .ok (.aload_n 0, 1) := by decide +kernel
theorem dL_law_1251 : decode code 1251 = .ok (.iload_n 3, 1) := by decide +kernel
theorem dL_law_1252 : decode code 1252 = .ok (.iconst 1, 1) := by decide +kernel
theorem dL_law_1253 : decode code 1253 = .ok (.iadd, 1) := by decide +kernel
theorem dL_law_1254 : decode code 1254 = .ok (.iaload, 1) := by decide +kernel
theorem dL_law_1255 : decode code 1255 = .ok (.invokevirtual 154, 3) := by decide +kernel
theorem dL_law_1258 : decode code 1258 = .ok (.aload_n 2, 1) := by decide +kernel
theorem dL_law_1259 : decode code 1259 = .ok (.aload_n 0, 1) := by decide +kernel
theorem dL_law_1260 : decode code 1260 = .ok (.iload_n 3, 1) := by decide +kernel
theorem dL_law_1261 : decode code 1261 = .ok (.iconst 1, 1) := by decide +kernel
theorem dL_law_1262 : decode code 1262 = .ok (.iadd, 1) := by decide +kernel
theorem dL_law_1263 : decode code 1263 = .ok (.iaload, 1) := by decide +kernel
theorem dL_law_1264 : decode code 1264 = .ok (.invokevirtual 157, 3) := by decide +kernel
theorem dL_law_1267 : decode code 1267 = .ok (.if_icmp .eq 307, 3) := by decide +kernel
theorem dL_law_1270 : decode code 1270 = .ok (.iconst 0, 1) := by decide +kernel
theorem dL_law_1271 : decode code 1271 = .ok (.ireturn, 1) := by decide +kernel
theorem dL_law_1272 : decode code 1272 = .ok (.aload_n 1, 1) := by decide +kernel
theorem dL_law_1273 : decode code 1273 = .ok (.aload_n 0, 1) := by decide +kernel
theorem dL_law_1274 : decode code 1274 = .ok (.iload_n 3, 1) := by decide +kernel
theorem dL_law_1275 : decode code 1275 = .ok (.iconst 1, 1) := by decide +kernel
theorem dL_law_1276 : decode code 1276 = .ok (.iadd, 1) := by decide +kernel
theorem dL_law_1277 : decode code 1277 = .ok (.iaload, 1) := by decide +kernel
theorem dL_law_1278 : decode code 1278 = .ok (.aload_n 0, 1) := by decide +kernel
theorem dL_law_1279 : decode code 1279 = .ok (.iload_n 3, 1) := by decide +kernel
theorem dL_law_1280 : decode code 1280 = .ok (.iconst 2, 1) := by decide +kernel
theorem dL_law_1281 : decode code 1281 = .ok (.iadd, 1) := by decide +kernel
theorem dL_law_1282 : decode code 1282 = .ok (.iaload, 1) := by decide +kernel
theorem dL_law_1283 : decode code 1283 = .ok (.invokevirtual 158, 3) := by decide +kernel
theorem dL_law_1286 : decode code 1286 = .ok (.aload_n 2, 1) := by decide +kernel
theorem dL_law_1287 : decode code 1287 = .ok (.aload_n 0, 1) := by decide +kernel
theorem dL_law_1288 : decode code 1288 = .ok (.iload_n 3, 1) := by decide +kernel
theorem dL_law_1289 : decode code 1289 = .ok (.iconst 1, 1) := by decide +kernel
theorem dL_law_1290 : decode code 1290 = .ok (.iadd, 1) := by decide +kernel
theorem dL_law_1291 : decode code 1291 = .ok (.iaload, 1) := by decide +kernel
theorem dL_law_1292 : decode code 1292 = .ok (.aload_n 0, 1) := by decide +kernel
theorem dL_law_1293 : decode code 1293 = .ok (.iload_n 3, 1) := by decide +kernel
theorem dL_law_1294 : decode code 1294 = .ok (.iconst 2, 1) := by decide +kernel
theorem dL_law_1295 : decode code 1295 = .ok (.iadd, 1) := by decide +kernel
theorem dL_law_1296 : decode code 1296 = .ok (.iaload, 1) := by decide +kernel
theorem dL_law_1297 : decode code 1297 = .ok (.invokevirtual 161, 3) := by decide +kernel
theorem dL_law_1300 : decode code 1300 = .ok (.if_icmp .eq 274, 3) := by decide +kernel
theorem dL_law_1303 : decode code 1303 = .ok (.iconst 0, 1) := by decide +kernel
theorem dL_law_1304 : decode code 1304 = .ok (.ireturn, 1) := by decide +kernel
theorem dL_law_1305 : decode code 1305 = .ok (.aload_n 1, 1) := by decide +kernel
theorem dL_law_1306 : decode code 1306 = .ok (.aload_n 0, 1) := by decide +kernel
theorem dL_law_1307 : decode code 1307 = .ok (.iload_n 3, 1) := by decide +kernel
theorem dL_law_1308 : decode code 1308 = .ok (.iconst 1, 1) := by decide +kernel
theorem dL_law_1309 : decode code 1309 = .ok (.iadd, 1) := by decide +kernel
theorem dL_law_1310 : decode code 1310 = .ok (.iaload, 1) := by decide +kernel
theorem dL_law_1311 : decode code 1311 = .ok (.aload_n 0, 1) := by decide +kernel
theorem dL_law_1312 : decode code 1312 = .ok (.iload_n 3, 1) := by decide +kernel
theorem dL_law_1313 : decode code 1313 = .ok (.iconst 2, 1) := by decide +kernel
theorem dL_law_1314 : decode code 1314 = .ok (.iadd, 1) := by decide +kernel
theorem dL_law_1315 : decode code 1315 = .ok (.iaload, 1) := by decide +kernel
theorem dL_law_1316 : decode code 1316 = .ok (.aload_n 0, 1) := by decide +kernel
theorem dL_law_1317 : decode code 1317 = .ok (.iload_n 3, 1) := by decide +kernel
theorem dL_law_1318 : decode code 1318 = .ok (.iconst 3, 1) := by decide +kernel
theorem dL_law_1319 : decode code 1319 = .ok (.iadd, 1) := by decide +kernel
theorem dL_law_1320 : decode code 1320 = .ok (.iaload, 1) := by decide +kernel
theorem dL_law_1321 : decode code 1321 = .ok (.invokevirtual 162, 3) := by decide +kernel
theorem dL_law_1324 : decode code 1324 = .ok (.aload_n 2, 1) := by decide +kernel
theorem dL_law_1325 : decode code 1325 = .ok (.aload_n 0, 1) := by decide +kernel
theorem dL_law_1326 : decode code 1326 = .ok (.iload_n 3, 1) := by decide +kernel
theorem dL_law_1327 : decode code 1327 = .ok (.iconst 1, 1) := by decide +kernel
theorem dL_law_1328 : decode code 1328 = .ok (.iadd, 1) := by decide +kernel
theorem dL_law_1329 : decode code 1329 = .ok (.iaload, 1) := by decide +kernel
theorem dL_law_1330 : decode code 1330 = .ok (.aload_n 0, 1) := by decide +kernel
theorem dL_law_1331 : decode code 1331 = .ok (.iload_n 3, 1) := by decide +kernel
theorem dL_law_1332 : decode code 1332 = .ok (.iconst 2, 1) := by decide +kernel
theorem dL_law_1333 : decode code 1333 = .ok (.iadd, 1) := by decide +kernel
theorem dL_law_1334 : decode code 1334 = .ok (.iaload, 1) := by decide +kernel
theorem dL_law_1335 : decode code 1335 = .ok (.aload_n 0, 1) := by decide +kernel
theorem dL_law_1336 : decode code 1336 = .ok (.iload_n 3, 1) := by decide +kernel
theorem dL_law_1337 : decode code 1337 = .ok (.iconst 3, 1) := by decide +kernel
theorem dL_law_1338 : decode code 1338 = .ok (.iadd, 1) := by decide +kernel
theorem dL_law_1339 : decode code 1339 = .ok (.iaload, 1) := by decide +kernel
theorem dL_law_1340 : decode code 1340 = .ok (.invokevirtual 165, 3) := by decide +kernel
theorem dL_law_1343 : decode code 1343 = .ok (.if_icmp .eq 231, 3) := by decide +kernel
theorem dL_law_1346 : decode code 1346 = .ok (.iconst 0, 1) := by decide +kernel
theorem dL_law_1347 : decode code 1347 = .ok (.ireturn, 1) := by decide +kernel
theorem dL_law_1348 : decode code 1348 = .ok (.aload_n 1, 1) := by decide +kernel
theorem dL_law_1349 : decode code 1349 = .ok (.aload_n 0, 1) := by decide +kernel
theorem dL_law_1350 : decode code 1350 = .ok (.iload_n 3, 1) := by decide +kernel
theorem dL_law_1351 : decode code 1351 = .ok (.iconst 1, 1) := by decide +kernel
theorem dL_law_1352 : decode code 1352 = .ok (.iadd, 1) := by decide +kernel
theorem dL_law_1353 : decode code 1353 = .ok (.iaload, 1) := by decide +kernel
theorem dL_law_1354 : decode code 1354 = .ok (.aload_n 0, 1) := by decide +kernel
theorem dL_law_1355 : decode code 1355 = .ok (.iload_n 3, 1) := by decide +kernel
theorem dL_law_1356 : decode code 1356 = .ok (.iconst 2, 1) := by decide +kernel
theorem dL_law_1357 : decode code 1357 = .ok (.iadd, 1) := by decide +kernel
theorem dL_law_1358 : decode code 1358 = .ok (.iaload, 1) := by decide +kernel
theorem dL_law_1359 : decode code 1359 = .ok (.aload_n 0, 1) := by decide +kernel
theorem dL_law_1360 : decode code 1360 = .ok (.iload_n 3, 1) := by decide +kernel
theorem dL_law_1361 : decode code 1361 = .ok (.iconst 3, 1) := by decide +kernel
theorem dL_law_1362 : decode code 1362 = .ok (.iadd, 1) := by decide +kernel
theorem dL_law_1363 : decode code 1363 = .ok (.iaload, 1) := by decide +kernel
theorem dL_law_1364 : decode code 1364 = .ok (.i2l, 1) := by decide +kernel
theorem dL_law_1365 : decode code 1365 = .ok (.bipush 32, 2) := by decide +kernel
