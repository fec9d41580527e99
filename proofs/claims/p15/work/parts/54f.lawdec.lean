theorem dL_law_1158 : decode cL_law 1158 = .ok (.aload_n 2, 1) := kd_dk0 kd_o44 kd_ncL_law rfl
theorem dL_law_1159 : decode cL_law 1159 = .ok (.aload_n 0, 1) := kd_dk0 kd_o42 kd_ncL_law rfl
theorem dL_law_1160 : decode cL_law 1160 = .ok (.iload_n 3, 1) := kd_dk0 kd_o29 kd_ncL_law rfl
theorem dL_law_1161 : decode cL_law 1161 = .ok (.iconst 1, 1) := kd_dk0 kd_o4 kd_ncL_law rfl
theorem dL_law_1162 : decode cL_law 1162 = .ok (.iadd, 1) := kd_dk0 kd_o96 kd_ncL_law rfl
theorem dL_law_1163 : decode cL_law 1163 = .ok (.iaload, 1) := kd_dk0 kd_o46 kd_ncL_law rfl
theorem dL_law_1164 : decode cL_law 1164 = .ok (.aload_n 0, 1) := kd_dk0 kd_o42 kd_ncL_law rfl
theorem dL_law_1165 : decode cL_law 1165 = .ok (.iload_n 3, 1) := kd_dk0 kd_o29 kd_ncL_law rfl
theorem dL_law_1166 : decode cL_law 1166 = .ok (.iconst 2, 1) := kd_dk0 kd_o5 kd_ncL_law rfl
theorem dL_law_1167 : decode cL_law 1167 = .ok (.iadd, 1) := kd_dk0 kd_o96 kd_ncL_law rfl
theorem dL_law_1168 : decode cL_law 1168 = .ok (.iaload, 1) := kd_dk0 kd_o46 kd_ncL_law rfl
theorem dL_law_1169 : decode cL_law 1169 = .ok (.aload_n 0, 1) := kd_dk0 kd_o42 kd_ncL_law rfl
theorem dL_law_1170 : decode cL_law 1170 = .ok (.iload_n 3, 1) := kd_dk0 kd_o29 kd_ncL_law rfl
theorem dL_law_1171 : decode cL_law 1171 = .ok (.iconst 3, 1) := kd_dk0 kd_o6 kd_ncL_law rfl
theorem dL_law_1172 : decode cL_law 1172 = .ok (.iadd, 1) := kd_dk0 kd_o96 kd_ncL_law rfl
theorem dL_law_1173 : decode cL_law 1173 = .ok (.iaload, 1) := kd_dk0 kd_o46 kd_ncL_law rfl
theorem dL_law_1174 : decode cL_law 1174 = .ok (.ifCond .eq 7, 3) := kd_dj2 kd_o153 (w := 7) kd_ncL_law rfl rfl
theorem dL_law_1177 : decode cL_law 1177 = .ok (.iconst 1, 1) := kd_dk0 kd_o4 kd_ncL_law rfl
theorem dL_law_1178 : decode cL_law 1178 = .ok (.goto 4, 3) := kd_dj2 kd_o167 (w := 4) kd_ncL_law rfl rfl
theorem dL_law_1181 : decode cL_law 1181 = .ok (.iconst 0, 1) := kd_dk0 kd_o3 kd_ncL_law rfl
theorem dL_law_1182 : decode cL_law 1182 = .ok (.invokevirtual 161, 3) := kd_dk2 kd_o182 kd_ncL_law rfl
theorem dL_law_1185 : decode cL_law 1185 = .ok (.pop, 1) := kd_dk0 kd_o87 kd_ncL_law rfl
theorem dL_law_1186 : decode cL_law 1186 = .ok (.goto 151, 3) := kd_dj2 kd_o167 (w := 151) kd_ncL_law rfl rfl
theorem dL_law_1189 : decode cL_law 1189 = .ok (.aload_n 1, 1) := kd_dk0 kd_o43 kd_ncL_law rfl
theorem dL_law_1190 : decode cL_law 1190 = .ok (.invokevirtual 162, 3) := kd_dk2 kd_o182 kd_ncL_law rfl
theorem dL_law_1193 : decode cL_law 1193 = .ok (.pop, 1) := kd_dk0 kd_o87 kd_ncL_law rfl
theorem dL_law_1194 : decode cL_law 1194 = .ok (.aload_n 2, 1) := kd_dk0 kd_o44 kd_ncL_law rfl
theorem dL_law_1195 : decode cL_law 1195 = .ok (.invokevirtual 165, 3) := kd_dk2 kd_o182 kd_ncL_law rfl
theorem dL_law_1198 : decode cL_law 1198 = .ok (.pop, 1) := kd_dk0 kd_o87 kd_ncL_law rfl
theorem dL_law_1199 : decode cL_law 1199 = .ok (.goto 138, 3) := kd_dj2 kd_o167 (w := 138) kd_ncL_law rfl rfl
theorem dL_law_1202 : decode cL_law 1202 = .ok (.aload_n 1, 1) := kd_dk0 kd_o43 kd_ncL_law rfl
theorem dL_law_1203 : decode cL_law 1203 = .ok (.aload_n 0, 1) := kd_dk0 kd_o42 kd_ncL_law rfl
theorem dL_law_1204 : decode cL_law 1204 = .ok (.iload_n 3, 1) := kd_dk0 kd_o29 kd_ncL_law rfl
theorem dL_law_1205 : decode cL_law 1205 = .ok (.iconst 1, 1) := kd_dk0 kd_o4 kd_ncL_law rfl
theorem dL_law_1206 : decode cL_law 1206 = .ok (.iadd, 1) := kd_dk0 kd_o96 kd_ncL_law rfl
theorem dL_law_1207 : decode cL_law 1207 = .ok (.iaload, 1) := kd_dk0 kd_o46 kd_ncL_law rfl
theorem dL_law_1208 : decode cL_law 1208 = .ok (.aload_n 0, 1) := kd_dk0 kd_o42 kd_ncL_law rfl
theorem dL_law_1209 : decode cL_law 1209 = .ok (.iload_n 3, 1) := kd_dk0 kd_o29 kd_ncL_law rfl
theorem dL_law_1210 : decode cL_law 1210 = .ok (.iconst 2, 1) := kd_dk0 kd_o5 kd_ncL_law rfl
theorem dL_law_1211 : decode cL_law 1211 = .ok (.iadd, 1) := kd_dk0 kd_o96 kd_ncL_law rfl
theorem dL_law_1212 : decode cL_law 1212 = .ok (.iaload, 1) := kd_dk0 kd_o46 kd_ncL_law rfl
theorem dL_law_1213 : decode cL_law 1213 = .ok (.invokevirtual 166, 3) := kd_dk2 kd_o182 kd_ncL_law rfl
theorem dL_law_1216 : decode cL_law 1216 = .ok (.pop, 1) := kd_dk0 kd_o87 kd_ncL_law rfl
theorem dL_law_1217 : decode cL_law 1217 = .ok (.aload_n 2, 1) := kd_dk0 kd_o44 kd_ncL_law rfl
theorem dL_law_1218 : decode cL_law 1218 = .ok (.aload_n 0, 1) := kd_dk0 kd_o42 kd_ncL_law rfl
theorem dL_law_1219 : decode cL_law 1219 = .ok (.iload_n 3, 1) := kd_dk0 kd_o29 kd_ncL_law rfl
theorem dL_law_1220 : decode cL_law 1220 = .ok (.iconst 1, 1) := kd_dk0 kd_o4 kd_ncL_law rfl
theorem dL_law_1221 : decode cL_law 1221 = .ok (.iadd, 1) := kd_dk0 kd_o96 kd_ncL_law rfl
theorem dL_law_1222 : decode cL_law 1222 = .ok (.iaload, 1) := kd_dk0 kd_o46 kd_ncL_law rfl
theorem dL_law_1223 : decode cL_law 1223 = .ok (.aload_n 0, 1) := kd_dk0 kd_o42 kd_ncL_law rfl
theorem dL_law_1224 : decode cL_law 1224 = .ok (.iload_n 3, 1) := kd_dk0 kd_o29 kd_ncL_law rfl
theorem dL_law_1225 : decode cL_law 1225 = .ok (.iconst 2, 1) := kd_dk0 kd_o5 kd_ncL_law rfl
theorem dL_law_1226 : decode cL_law 1226 = .ok (.iadd, 1) := kd_dk0 kd_o96 kd_ncL_law rfl
theorem dL_law_1227 : decode cL_law 1227 = .ok (.iaload, 1) := kd_dk0 kd_o46 kd_ncL_law rfl
theorem dL_law_1228 : decode cL_law 1228 = .ok (.invokevirtual 169, 3) := kd_dk2 kd_o182 kd_ncL_law rfl
theorem dL_law_1231 : decode cL_law 1231 = .ok (.pop, 1) := kd_dk0 kd_o87 kd_ncL_law rfl
theorem dL_law_1232 : decode cL_law 1232 = .ok (.goto 105, 3) := kd_dj2 kd_o167 (w := 105) kd_ncL_law rfl rfl
theorem dL_law_1235 : decode cL_law 1235 = .ok (.aload_n 1, 1) := kd_dk0 kd_o43 kd_ncL_law rfl
theorem dL_law_1236 : decode cL_law 1236 = .ok (.aload_n 0, 1) := kd_dk0 kd_o42 kd_ncL_law rfl
theorem dL_law_1237 : decode cL_law 1237 = .ok (.iload_n 3, 1) := kd_dk0 kd_o29 kd_ncL_law rfl
theorem dL_law_1238 : decode cL_law 1238 = .ok (.iconst 1, 1) := kd_dk0 kd_o4 kd_ncL_law rfl
theorem dL_law_1239 : decode cL_law 1239 = .ok (.iadd, 1) := kd_dk0 kd_o96 kd_ncL_law rfl
theorem dL_law_1240 : decode cL_law 1240 = .ok (.iaload, 1) := kd_dk0 kd_o46 kd_ncL_law rfl
theorem dL_law_1241 : decode cL_law 1241 = .ok (.aload_n 0, 1) := kd_dk0 kd_o42 kd_ncL_law rfl
theorem dL_law_1242 : decode cL_law 1242 = .ok (.iload_n 3, 1) := kd_dk0 kd_o29 kd_ncL_law rfl
theorem dL_law_1243 : decode cL_law 1243 = .ok (.iconst 2, 1) := kd_dk0 kd_o5 kd_ncL_law rfl
theorem dL_law_1244 : decode cL_law 1244 = .ok (.iadd, 1) := kd_dk0 kd_o96 kd_ncL_law rfl
theorem dL_law_1245 : decode cL_law 1245 = .ok (.iaload, 1) := kd_dk0 kd_o46 kd_ncL_law rfl
theorem dL_law_1246 : decode cL_law 1246 = .ok (.invokevirtual 170, 3) := kd_dk2 kd_o182 kd_ncL_law rfl
theorem dL_law_1249 : decode cL_law 1249 = .ok (.pop, 1) := kd_dk0 kd_o87 kd_ncL_law rfl
theorem dL_law_1250 : decode cL_law 1250 = .ok (.aload_n 2, 1) := kd_dk0 kd_o44 kd_ncL_law rfl
theorem dL_law_1251 : decode cL_law 1251 = .ok (.aload_n 0, 1) := kd_dk0 kd_o42 kd_ncL_law rfl
theorem dL_law_1252 : decode cL_law 1252 = .ok (.iload_n 3, 1) := kd_dk0 kd_o29 kd_ncL_law rfl
theorem dL_law_1253 : decode cL_law 1253 = .ok (.iconst 1, 1) := kd_dk0 kd_o4 kd_ncL_law rfl
theorem dL_law_1254 : decode cL_law 1254 = .ok (.iadd, 1) := kd_dk0 kd_o96 kd_ncL_law rfl
theorem dL_law_1255 : decode cL_law 1255 = .ok (.iaload, 1) := kd_dk0 kd_o46 kd_ncL_law rfl
theorem dL_law_1256 : decode cL_law 1256 = .ok (.aload_n 0, 1) := kd_dk0 kd_o42 kd_ncL_law rfl
theorem dL_law_1257 : decode cL_law 1257 = .ok (.iload_n 3, 1) := kd_dk0 kd_o29 kd_ncL_law rfl
theorem dL_law_1258 : decode cL_law 1258 = .ok (.iconst 2, 1) := kd_dk0 kd_o5 kd_ncL_law rfl
theorem dL_law_1259 : decode cL_law 1259 = .ok (.iadd, 1) := kd_dk0 kd_o96 kd_ncL_law rfl
theorem dL_law_1260 : decode cL_law 1260 = .ok (.iaload, 1) := kd_dk0 kd_o46 kd_ncL_law rfl
theorem dL_law_1261 : decode cL_law 1261 = .ok (.invokevirtual 173, 3) := kd_dk2 kd_o182 kd_ncL_law rfl
theorem dL_law_1264 : decode cL_law 1264 = .ok (.pop, 1) := kd_dk0 kd_o87 kd_ncL_law rfl
theorem dL_law_1265 : decode cL_law 1265 = .ok (.goto 72, 3) := kd_dj2 kd_o167 (w := 72) kd_ncL_law rfl rfl
theorem dL_law_1268 : decode cL_law 1268 = .ok (.aload_n 1, 1) := kd_dk0 kd_o43 kd_ncL_law rfl
theorem dL_law_1269 : decode cL_law 1269 = .ok (.aload_n 0, 1) := kd_dk0 kd_o42 kd_ncL_law rfl
theorem dL_law_1270 : decode cL_law 1270 = .ok (.iload_n 3, 1) := kd_dk0 kd_o29 kd_ncL_law rfl
theorem dL_law_1271 : decode cL_law 1271 = .ok (.iconst 1, 1) := kd_dk0 kd_o4 kd_ncL_law rfl
theorem dL_law_1272 : decode cL_law 1272 = .ok (.iadd, 1) := kd_dk0 kd_o96 kd_ncL_law rfl
theorem dL_law_1273 : decode cL_law 1273 = .ok (.iaload, 1) := kd_dk0 kd_o46 kd_ncL_law rfl
theorem dL_law_1274 : decode cL_law 1274 = .ok (.invokevirtual 174, 3) := kd_dk2 kd_o182 kd_ncL_law rfl
theorem dL_law_1277 : decode cL_law 1277 = .ok (.pop, 1) := kd_dk0 kd_o87 kd_ncL_law rfl
theorem dL_law_1278 : decode cL_law 1278 = .ok (.aload_n 2, 1) := kd_dk0 kd_o44 kd_ncL_law rfl
theorem dL_law_1279 : decode cL_law 1279 = .ok (.aload_n 0, 1) := kd_dk0 kd_o42 kd_ncL_law rfl
theorem dL_law_1280 : decode cL_law 1280 = .ok (.iload_n 3, 1) := kd_dk0 kd_o29 kd_ncL_law rfl
theorem dL_law_1281 : decode cL_law 1281 = .ok (.iconst 1, 1) := kd_dk0 kd_o4 kd_ncL_law rfl
theorem dL_law_1282 : decode cL_law 1282 = .ok (.iadd, 1) := kd_dk0 kd_o96 kd_ncL_law rfl
theorem dL_law_1283 : decode cL_law 1283 = .ok (.iaload, 1) := kd_dk0 kd_o46 kd_ncL_law rfl
theorem dL_law_1284 : decode cL_law 1284 = .ok (.invokevirtual 178, 3) := kd_dk2 kd_o182 kd_ncL_law rfl
theorem dL_law_1287 : decode cL_law 1287 = .ok (.pop, 1) := kd_dk0 kd_o87 kd_ncL_law rfl
theorem dL_law_1288 : decode cL_law 1288 = .ok (.goto 49, 3) := kd_dj2 kd_o167 (w := 49) kd_ncL_law rfl rfl
theorem dL_law_1291 : decode cL_law 1291 = .ok (.aload_n 1, 1) := kd_dk0 kd_o43 kd_ncL_law rfl
theorem dL_law_1292 : decode cL_law 1292 = .ok (.aload_n 0, 1) := kd_dk0 kd_o42 kd_ncL_law rfl
theorem dL_law_1293 : decode cL_law 1293 = .ok (.iload_n 3, 1) := kd_dk0 kd_o29 kd_ncL_law rfl
theorem dL_law_1294 : decode cL_law 1294 = .ok (.iconst 1, 1) := kd_dk0 kd_o4 kd_ncL_law rfl
theorem dL_law_1295 : decode cL_law 1295 = .ok (.iadd, 1) := kd_dk0 kd_o96 kd_ncL_law rfl
theorem dL_law_1296 : decode cL_law 1296 = .ok (.iaload, 1) := kd_dk0 kd_o46 kd_ncL_law rfl
theorem dL_law_1297 : decode cL_law 1297 = .ok (.invokevirtual 179, 3) := kd_dk2 kd_o182 kd_ncL_law rfl
theorem dL_law_1300 : decode cL_law 1300 = .ok (.pop, 1) := kd_dk0 kd_o87 kd_ncL_law rfl
theorem dL_law_1301 : decode cL_law 1301 = .ok (.aload_n 2, 1) := kd_dk0 kd_o44 kd_ncL_law rfl
theorem dL_law_1302 : decode cL_law 1302 = .ok (.aload_n 0, 1) := kd_dk0 kd_o42 kd_ncL_law rfl
theorem dL_law_1303 : decode cL_law 1303 = .ok (.iload_n 3, 1) := kd_dk0 kd_o29 kd_ncL_law rfl
theorem dL_law_1304 : decode cL_law 1304 = .ok (.iconst 1, 1) := kd_dk0 kd_o4 kd_ncL_law rfl
theorem dL_law_1305 : decode cL_law 1305 = .ok (.iadd, 1) := kd_dk0 kd_o96 kd_ncL_law rfl
theorem dL_law_1306 : decode cL_law 1306 = .ok (.iaload, 1) := kd_dk0 kd_o46 kd_ncL_law rfl
theorem dL_law_1307 : decode cL_law 1307 = .ok (.invokevirtual 182, 3) := kd_dk2 kd_o182 kd_ncL_law rfl
theorem dL_law_1310 : decode cL_law 1310 = .ok (.pop, 1) := kd_dk0 kd_o87 kd_ncL_law rfl
theorem dL_law_1311 : decode cL_law 1311 = .ok (.goto 26, 3) := kd_dj2 kd_o167 (w := 26) kd_ncL_law rfl rfl
theorem dL_law_1314 : decode cL_law 1314 = .ok (.aload_n 1, 1) := kd_dk0 kd_o43 kd_ncL_law rfl
theorem dL_law_1315 : decode cL_law 1315 = .ok (.aload_n 0, 1) := kd_dk0 kd_o42 kd_ncL_law rfl
theorem dL_law_1316 : decode cL_law 1316 = .ok (.iload_n 3, 1) := kd_dk0 kd_o29 kd_ncL_law rfl
theorem dL_law_1317 : decode cL_law 1317 = .ok (.iconst 1, 1) := kd_dk0 kd_o4 kd_ncL_law rfl
theorem dL_law_1318 : decode cL_law 1318 = .ok (.iadd, 1) := kd_dk0 kd_o96 kd_ncL_law rfl
theorem dL_law_1319 : decode cL_law 1319 = .ok (.iaload, 1) := kd_dk0 kd_o46 kd_ncL_law rfl
theorem dL_law_1320 : decode cL_law 1320 = .ok (.invokevirtual 183, 3) := kd_dk2 kd_o182 kd_ncL_law rfl
theorem dL_law_1323 : decode cL_law 1323 = .ok (.pop, 1) := kd_dk0 kd_o87 kd_ncL_law rfl
theorem dL_law_1324 : decode cL_law 1324 = .ok (.aload_n 2, 1) := kd_dk0 kd_o44 kd_ncL_law rfl
theorem dL_law_1325 : decode cL_law 1325 = .ok (.aload_n 0, 1) := kd_dk0 kd_o42 kd_ncL_law rfl
theorem dL_law_1326 : decode cL_law 1326 = .ok (.iload_n 3, 1) := kd_dk0 kd_o29 kd_ncL_law rfl
theorem dL_law_1327 : decode cL_law 1327 = .ok (.iconst 1, 1) := kd_dk0 kd_o4 kd_ncL_law rfl
theorem dL_law_1328 : decode cL_law 1328 = .ok (.iadd, 1) := kd_dk0 kd_o96 kd_ncL_law rfl
theorem dL_law_1329 : decode cL_law 1329 = .ok (.iaload, 1) := kd_dk0 kd_o46 kd_ncL_law rfl
theorem dL_law_1330 : decode cL_law 1330 = .ok (.invokevirtual 186, 3) := kd_dk2 kd_o182 kd_ncL_law rfl
theorem dL_law_1333 : decode cL_law 1333 = .ok (.pop, 1) := kd_dk0 kd_o87 kd_ncL_law rfl
theorem dL_law_1334 : decode cL_law 1334 = .ok (.goto 3, 3) := kd_dj2 kd_o167 (w := 3) kd_ncL_law rfl rfl
theorem dL_law_1337 : decode cL_law 1337 = .ok (.iinc 3 6, 3) := kd_dji kd_o132 (w := 6) kd_ncL_law rfl rfl
theorem dL_law_1340 : decode cL_law 1340 = .ok (.goto (-1322), 3) := kd_dj2 kd_o167 (w := 64214) kd_ncL_law rfl rfl
theorem dL_law_1343 : decode cL_law 1343 = .ok (.iconst 1, 1) := kd_dk0 kd_o4 kd_ncL_law rfl
theorem dL_law_1344 : decode cL_law 1344 = .ok (.ireturn, 1) := kd_dk0 kd_o172 kd_ncL_law rfl
