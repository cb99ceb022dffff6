/-! the law's instructions (printed by wip/gen/g99d.py) -/
theorem dl_1108 : decode code 1108 = .ok (.if_icmp .eq 443, 3) := by decide +kernel
theorem dl_1111 : decode code 1111 = .ok (.iconst 0, 1) := by decide +kernel
theorem dl_1112 : decode code 1112 = .ok (.ireturn, 1) := by decide +kernel
theorem dl_1113 : decode code 1113 = .ok (.aload_n 1, 1) := by decide +kernel
theorem dl_1114 : decode code 1114 = .ok (.aload_n 0, 1) := by decide +kernel
theorem dl_1115 : decode code 1115 = .ok (.iload_n 3, 1) := by decide +kernel
theorem dl_1116 : decode code 1116 = .ok (.iconst 1, 1) := by decide +kernel
theorem dl_1117 : decode code 1117 = .ok (.iadd, 1) := by decide +kernel
theorem dl_1118 : decode code 1118 = .ok (.iaload, 1) := by decide +kernel
theorem dl_1119 : decode code 1119 = .ok (.invokevirtual 139, 3) := by decide +kernel
theorem dl_1122 : decode code 1122 = .ok (.aload_n 2, 1) := by decide +kernel
theorem dl_1123 : decode code 1123 = .ok (.aload_n 0, 1) := by decide +kernel
theorem dl_1124 : decode code 1124 = .ok (.iload_n 3, 1) := by decide +kernel
theorem dl_1125 : decode code 1125 = .ok (.iconst 1, 1) := by decide +kernel
theorem dl_1126 : decode code 1126 = .ok (.iadd, 1) := by decide +kernel
theorem dl_1127 : decode code 1127 = .ok (.iaload, 1) := by decide +kernel
theorem dl_1128 : decode code 1128 = .ok (.invokevirtual 142, 3) := by decide +kernel
theorem dl_1131 : decode code 1131 = .ok (.if_icmp .eq 420, 3) := by decide +kernel
theorem dl_1134 : decode code 1134 = .ok (.iconst 0, 1) := by decide +kernel
theorem dl_1135 : decode code 1135 = .ok (.ireturn, 1) := by decide +kernel
theorem dl_1136 : decode code 1136 = .ok (.aload_n 1, 1) := by decide +kernel
theorem dl_1137 : decode code 1137 = .ok (.aload_n 0, 1) := by decide +kernel
theorem dl_1138 : decode code 1138 = .ok (.iload_n 3, 1) := by decide +kernel
theorem dl_1139 : decode code 1139 = .ok (.iconst 1, 1) := by decide +kernel
theorem dl_1140 : decode code 1140 = .ok (.iadd, 1) := by decide +kernel
theorem dl_1141 : decode code 1141 = .ok (.iaload, 1) := by decide +kernel
theorem dl_1142 : decode code 1142 = .ok (.aload_n 0, 1) := by decide +kernel
theorem dl_1143 : decode code 1143 = .ok (.iload_n 3, 1) := by decide +kernel
theorem dl_1144 : decode code 1144 = .ok (.iconst 2, 1) := by decide +kernel
theorem dl_1145 : decode code 1145 = .ok (.iadd, 1) := by decide +kernel
theorem dl_1146 : decode code 1146 = .ok (.iaload, 1) := by decide +kernel
theorem dl_1147 : decode code 1147 = .ok (.invokevirtual 143, 3) := by decide +kernel
theorem dl_1150 : decode code 1150 = .ok (.aload_n 2, 1) := by decide +kernel
theorem dl_1151 : decode code 1151 = .ok (.aload_n 0, 1) := by decide +kernel
theorem dl_1152 : decode code 1152 = .ok (.iload_n 3, 1) := by decide +kernel
theorem dl_1153 : decode code 1153 = .ok (.iconst 1, 1) := by decide +kernel
theorem dl_1154 : decode code 1154 = .ok (.iadd, 1) := by decide +kernel
theorem dl_1155 : decode code 1155 = .ok (.iaload, 1) := by decide +kernel
theorem dl_1156 : decode code 1156 = .ok (.aload_n 0, 1) := by decide +kernel
theorem dl_1157 : decode code 1157 = .ok (.iload_n 3, 1) := by decide +kernel
theorem dl_1158 : decode code 1158 = .ok (.iconst 2, 1) := by decide +kernel
theorem dl_1159 : decode code 1159 = .ok (.iadd, 1) := by decide +kernel
theorem dl_1160 : decode code 1160 = .ok (.iaload, 1) := by decide +kernel
theorem dl_1161 : decode code 1161 = .ok (.invokevirtual 146, 3) := by decide +kernel
theorem dl_1164 : decode code 1164 = .ok (.if_icmp .eq 387, 3) := by decide +kernel
theorem dl_1167 : decode code 1167 = .ok (.iconst 0, 1) := by decide +kernel
theorem dl_1168 : decode code 1168 = .ok (.ireturn, 1) := by decide +kernel
theorem dl_1169 : decode code 1169 = .ok (.aload_n 1, 1) := by decide +kernel
theorem dl_1170 : decode code 1170 = .ok (.aload_n 0, 1) := by decide +kernel
theorem dl_1171 : decode code 1171 = .ok (.iload_n 3, 1) := by decide +kernel
theorem dl_1172 : decode code 1172 = .ok (.iconst 1, 1) := by decide +kernel
theorem dl_1173 : decode code 1173 = .ok (.iadd, 1) := by decide +kernel
theorem dl_1174 : decode code 1174 = .ok (.iaload, 1) := by decide +kernel
theorem dl_1175 : decode code 1175 = .ok (.invokevirtual 147, 3) := by decide +kernel
theorem dl_1178 : decode code 1178 = .ok (.aload_n 2, 1) := by decide +kernel
theorem dl_1179 : decode code 1179 = .ok (.aload_n 0, 1) := by decide +kernel
theorem dl_1180 : decode code 1180 = .ok (.iload_n 3, 1) := by decide +kernel
theorem dl_1181 : decode code 1181 = .ok (.iconst 1, 1) := by decide +kernel
theorem dl_1182 : decode code 1182 = .ok (.iadd, 1) := by decide +kernel
theorem dl_1183 : decode code 1183 = .ok (.iaload, 1) := by decide +kernel
theorem dl_1184 : decode code 1184 = .ok (.invokevirtual 150, 3) := by decide +kernel
theorem dl_1187 : decode code 1187 = .ok (.if_icmp .eq 364, 3) := by decide +kernel
theorem dl_1190 : decode code 1190 = .ok (.iconst 0, 1) := by decide +kernel
theorem dl_1191 : decode code 1191 = .ok (.ireturn, 1) := by decide +kernel
theorem dl_1192 : decode code 1192 = .ok (.aload_n 1, 1) := by decide +kernel
theorem dl_1193 : decode code 1193 = .ok (.aload_n 0, 1) := by decide +kernel
theorem dl_1194 : decode code 1194 = .ok (.iload_n 3, 1) := by decide +kernel
theorem dl_1195 : decode code 1195 = .ok (.iconst 1, 1) := by decide +kernel
theorem dl_1196 : decode code 1196 = .ok (.iadd, 1) := by decide +kernel
theorem dl_1197 : decode code 1197 = .ok (.iaload, 1) := by decide +kernel
theorem dl_1198 : decode code 1198 = .ok (.invokevirtual 151, 3) := by decide +kernel
theorem dl_1201 : decode code 1201 = .ok (.aload_n 2, 1) := by decide +kernel
theorem dl_1202 : decode code 1202 = .ok (.aload_n 0, 1) := by decide +kernel
theorem dl_1203 : decode code 1203 = .ok (.iload_n 3, 1) := by decide +kernel
theorem dl_1204 : decode code 1204 = .ok (.iconst 1, 1) := by decide +kernel
theorem dl_1205 : decode code 1205 = .ok (.iadd, 1) := by decide +kernel
theorem dl_1206 : decode code 1206 = .ok (.iaload, 1) := by decide +kernel
theorem dl_1207 : decode code 1207 = .ok (.invokevirtual 154, 3) := by decide +kernel
theorem dl_1210 : decode code 1210 = .ok (.if_icmp .eq 341, 3) := by decide +kernel
theorem dl_1213 : decode code 1213 = .ok (.iconst 0, 1) := by decide +kernel
theorem dl_1214 : decode code 1214 = .ok (.ireturn, 1) := by decide +kernel
theorem dl_1215 : decode code 1215 = .ok (.aload_n 1, 1) := by decide +kernel
theorem dl_1216 : decode code 1216 = .ok (.aload_n 0, 1) := by decide +kernel
theorem dl_1217 : decode code 1217 = .ok (.iload_n 3, 1) := by decide +kernel
theorem dl_1218 : decode code 1218 = .ok (.iconst 1, 1) := by decide +kernel
theorem dl_1219 : decode code 1219 = .ok (.iadd, 1) := by decide +kernel
theorem dl_1220 : decode code 1220 = .ok (.iaload, 1) := by decide +kernel
theorem dl_1221 : decode code 1221 = .ok (.invokevirtual 155, 3) := by decide +kernel
theorem dl_1224 : decode code 1224 = .ok (.aload_n 2, 1) := by decide +kernel
theorem dl_1225 : decode code 1225 = .ok (.aload_n 0, 1) := by decide +kernel
theorem dl_1226 : decode code 1226 = .ok (.iload_n 3, 1) := by decide +kernel
theorem dl_1227 : decode code 1227 = .ok (.iconst 1, 1) := by decide +kernel
theorem dl_1228 : decode code 1228 = .ok (.iadd, 1) := by decide +kernel
theorem dl_1229 : decode code 1229 = .ok (.iaload, 1) := by decide +kernel
theorem dl_1230 : decode code 1230 = .ok (.invokevirtual 158, 3) := by decide +kernel
theorem dl_1233 : decode code 1233 = .ok (.if_icmp .eq 318, 3) := by decide +kernel
theorem dl_1236 : decode code 1236 = .ok (.iconst 0, 1) := by decide +kernel
theorem dl_1237 : decode code 1237 = .ok (.ireturn, 1) := by decide +kernel
theorem dl_1238 : decode code 1238 = .ok (.aload_n 1, 1) := by decide +kernel
theorem dl_1239 : decode code 1239 = .ok (.aload_n 0, 1) := by decide +kernel
theorem dl_1240 : decode code 1240 = .ok (.iload_n 3, 1) := by decide +kernel
theorem dl_1241 : decode code 1241 = .ok (.iconst 1, 1) := by decide +kernel
theorem dl_1242 : decode code 1242 = .ok (.iadd, 1) := by decide +kernel
theorem dl_1243 : decode code 1243 = .ok (.iaload, 1) := by decide +kernel
theorem dl_1244 : decode code 1244 = .ok (.invokevirtual 159, 3) := by decide +kernel
theorem dl_1247 : decode code 1247 = .ok (.aload_n 2, 1) := by decide +kernel
theorem dl_1248 : decode code 1248 = .ok (.aload_n 0, 1) := by decide +kernel
theorem dl_1249 : decode code 1249 = .ok (.iload_n 3, 1) := by decide +kernel
theorem dl_1250 : decode code 1250 = .ok (.iconst 1, 1) := by decide +kernel
theorem dl_1251 : decode code 1251 = .ok (.iadd, 1) := by decide +kernel
theorem dl_1252 : decode code 1252 = .ok (.iaload, 1) := by decide +kernel
theorem dl_1253 : decode code 1253 = .ok (.invokevirtual 162, 3) := by decide +kernel
theorem dl_1256 : decode code 1256 = .ok (.if_icmp .eq 295, 3) := by decide +kernel
theorem dl_1259 : decode code 1259 = .ok (.iconst 0, 1) := by decide +kernel
theorem dl_1260 : decode code 1260 = .ok (.ireturn, 1) := by decide +kernel
theorem dl_1261 : decode code 1261 = .ok (.aload_n 1, 1) := by decide +kernel
theorem dl_1262 : decode code 1262 = .ok (.aload_n 0, 1) := by decide +kernel
theorem dl_1263 : decode code 1263 = .ok (.iload_n 3, 1) := by decide +kernel
theorem dl_1264 : decode code 1264 = .ok (.iconst 1, 1) := by decide +kernel
theorem dl_1265 : decode code 1265 = .ok (.iadd, 1) := by decide +kernel
theorem dl_1266 : decode code 1266 = .ok (.iaload, 1) := by decide +kernel
theorem dl_1267 : decode code 1267 = .ok (.aload_n 0, 1) := by decide +kernel
theorem dl_1268 : decode code 1268 = .ok (.iload_n 3, 1) := by decide +kernel
theorem dl_1269 : decode code 1269 = .ok (.iconst 2, 1) := by decide +kernel
theorem dl_1270 : decode code 1270 = .ok (.iadd, 1) := by decide +kernel
theorem dl_1271 : decode code 1271 = .ok (.iaload, 1) := by decide +kernel
theorem dl_1272 : decode code 1272 = .ok (.aload_n 0, 1) := by decide +kernel
theorem dl_1273 : decode code 1273 = .ok (.iload_n 3, 1) := by decide +kernel
theorem dl_1274 : decode code 1274 = .ok (.iconst 3, 1) := by decide +kernel
theorem dl_1275 : decode code 1275 = .ok (.iadd, 1) := by decide +kernel
theorem dl_1276 : decode code 1276 = .ok (.iaload, 1) := by decide +kernel
theorem dl_1277 : decode code 1277 = .ok (.invokevirtual 163, 3) := by decide +kernel
theorem dl_1280 : decode code 1280 = .ok (.aload_n 2, 1) := by decide +kernel
theorem dl_1281 : decode code 1281 = .ok (.aload_n 0, 1) := by decide +kernel
theorem dl_1282 : decode code 1282 = .ok (.iload_n 3, 1) := by decide +kernel
theorem dl_1283 : decode code 1283 = .ok (.iconst 1, 1) := by decide +kernel
theorem dl_1284 : decode code 1284 = .ok (.iadd, 1) := by decide +kernel
theorem dl_1285 : decode code 1285 = .ok (.iaload, 1) := by decide +kernel
theorem dl_1286 : decode code 1286 = .ok (.aload_n 0, 1) := by decide +kernel
theorem dl_1287 : decode code 1287 = .ok (.iload_n 3, 1) := by decide +kernel
theorem dl_1288 : decode code 1288 = .ok (.iconst 2, 1) := by decide +kernel
theorem dl_1289 : decode code 1289 = .ok (.iadd, 1) := by decide +kernel
theorem dl_1290 : decode code 1290 = .ok (.iaload, 1) := by decide +kernel
theorem dl_1291 : decode code 1291 = .ok (.aload_n 0, 1) := by decide +kernel
theorem dl_1292 : decode code 1292 = .ok (.iload_n 3, 1) := by decide +kernel
theorem dl_1293 : decode code 1293 = .ok (.iconst 3, 1) := by decide +kernel
theorem dl_1294 : decode code 1294 = .ok (.iadd, 1) := by decide +kernel
theorem dl_1295 : decode code 1295 = .ok (.iaload, 1) := by decide +kernel
theorem dl_1296 : decode code 1296 = .ok (.invokevirtual 166, 3) := by decide +kernel
theorem dl_1299 : decode code 1299 = .ok (.if_icmp .eq 252, 3) := by decide +kernel
theorem dl_1302 : decode code 1302 = .ok (.iconst 0, 1) := by decide +kernel
theorem dl_1303 : decode code 1303 = .ok (.ireturn, 1) := by decide +kernel
theorem dl_1304 : decode code 1304 = .ok (.aload_n 1, 1) := by decide +kernel
theorem dl_1305 : decode code 1305 = .ok (.aload_n 0, 1) := by decide +kernel
theorem dl_1306 : decode code 1306 = .ok (.iload_n 3, 1) := by decide +kernel
theorem dl_1307 : decode code 1307 = .ok (.iconst 1, 1) := by decide +kernel
theorem dl_1308 : decode code 1308 = .ok (.iadd, 1) := by decide +kernel
theorem dl_1309 : decode code 1309 = .ok (.iaload, 1) := by decide +kernel
theorem dl_1310 : decode code 1310 = .ok (.aload_n 0, 1) := by decide +kernel
theorem dl_1311 : decode code 1311 = .ok (.iload_n 3, 1) := by decide +kernel
theorem dl_1312 : decode code 1312 = .ok (.iconst 2, 1) := by decide +kernel
theorem dl_1313 : decode code 1313 = .ok (.iadd, 1) := by decide +kernel
theorem dl_1314 : decode code 1314 = .ok (.iaload, 1) := by decide +kernel
theorem dl_1315 : decode code 1315 = .ok (.invokevirtual 167, 3) := by decide +kernel
theorem dl_1318 : decode code 1318 = .ok (.aload_n 2, 1) := by decide +kernel
theorem dl_1319 : decode code 1319 = .ok (.aload_n 0, 1) := by decide +kernel
theorem dl_1320 : decode code 1320 = .ok (.iload_n 3, 1) := by decide +kernel
theorem dl_1321 : decode code 1321 = .ok (.iconst 1, 1) := by decide +kernel
theorem dl_1322 : decode code 1322 = .ok (.iadd, 1) := by decide +kernel
theorem dl_1323 : decode code 1323 = .ok (.iaload, 1) := by decide +kernel
theorem dl_1324 : decode code 1324 = .ok (.aload_n 0, 1) := by decide +kernel
theorem dl_1325 : decode code 1325 = .ok (.iload_n 3, 1) := by decide +kernel
theorem dl_1326 : decode code 1326 = .ok (.iconst 2, 1) := by decide +kernel
theorem dl_1327 : decode code 1327 = .ok (.iadd, 1) := by decide +kernel
theorem dl_1328 : decode code 1328 = .ok (.iaload, 1) := by decide +kernel
theorem dl_1329 : decode code 1329 = .ok (.invokevirtual 170, 3) := by decide +kernel
theorem dl_1332 : decode code 1332 = .ok (.if_icmp .eq 219, 3) := by decide +kernel
theorem dl_1335 : decode code 1335 = .ok (.iconst 0, 1) := by decide +kernel
theorem dl_1336 : decode code 1336 = .ok (.ireturn, 1) := by decide +kernel
theorem dl_1337 : decode code 1337 = .ok (.aload_n 1, 1) := by decide +kernel
